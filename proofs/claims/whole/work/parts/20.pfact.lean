/-! what the decompiled methods of Fact are, in the words of part 03 -/
def fa_at (g : wm_Sg) (o : Nat) : ft_T := (g o 0, g o 1, g o 2)
def fa_set (g : wm_Sg) (o : Nat) (f : ft_T) : wm_Sg := fun a => if a = o then (fun j => if j = 0 then f.1 else if j = 1 then f.2.1 else if j = 2 then f.2.2 else g o j) else g a
theorem wm_u_app (g : wm_Sg) (o j : Nat) (v : Int32) (a i : Nat) : wm_u g o j v a i = if a = o ∧ i = j then v else g a i := by
  unfold wm_u
  by_cases h : a = o
  · subst h
    rw [if_pos rfl]
    unfold upd
    by_cases h2 : i = j
    · rw [if_pos h2, if_pos ⟨rfl, h2⟩]
    · rw [if_neg h2, if_neg (fun q => h2 q.2)]
  · rw [if_neg h, if_neg (fun q => h q.1)]
theorem fa_set_app (g : wm_Sg) (o : Nat) (f : ft_T) (a i : Nat) : fa_set g o f a i = if a = o then (if i = 0 then f.1 else if i = 1 then f.2.1 else if i = 2 then f.2.2 else g a i) else g a i := by
  unfold fa_set
  by_cases h : a = o
  · subst h; rw [if_pos rfl, if_pos rfl]
  · rw [if_neg h, if_neg h]
theorem fa_set_at (g : wm_Sg) (o : Nat) (f : ft_T) : fa_at (fa_set g o f) o = f := by
  unfold fa_at
  simp [fa_set_app]
theorem fa_set_ne (g : wm_Sg) {o a : Nat} (f : ft_T) (h : a ≠ o) : fa_set g o f a = g a := if_neg h
theorem fa_at_ne (g : wm_Sg) {o a : Nat} (f : ft_T) (h : a ≠ o) : fa_at (fa_set g o f) a = fa_at g a := by
  unfold fa_at; rw [fa_set_ne g f h]
theorem wm_ext {g h : wm_Sg} (q : ∀ a i, g a i = h a i) : g = h := funext (fun a => funext (fun i => q a i))
theorem fa_u3 (g : wm_Sg) (o : Nat) (x y z : Int32) : wm_u (wm_u (wm_u g o 0 x) o 1 y) o 2 z = fa_set g o (x, y, z) := wm_ext (fun a i => by
  simp only [wm_u_app, fa_set_app]
  by_cases h : a = o
  · subst h
    by_cases h0 : i = 0
    · subst h0; simp
    · by_cases h1 : i = 1
      · subst h1; simp
      · by_cases h2 : i = 2
        · subst h2; simp
        · simp [h0, h1, h2]
  · simp [h])
theorem fa_self (g : wm_Sg) (o : Nat) : fa_set g o (fa_at g o) = g := wm_ext (fun a i => by
  simp only [fa_set_app, fa_at]
  by_cases h : a = o
  · subst h
    by_cases h0 : i = 0
    · subst h0; simp
    · by_cases h1 : i = 1
      · subst h1; simp
      · by_cases h2 : i = 2
        · subst h2; simp
        · simp [h0, h1, h2]
  · simp [h])
theorem fa_set_set (g : wm_Sg) (o : Nat) (f h : ft_T) : fa_set (fa_set g o f) o h = fa_set g o h := wm_ext (fun a i => by
  simp only [fa_set_app]
  by_cases q : a = o
  · subst q
    by_cases h0 : i = 0
    · subst h0; simp
    · by_cases h1 : i = 1
      · subst h1; simp
      · by_cases h2 : i = 2
        · subst h2; simp
        · simp [h0, h1, h2]
  · simp [q])
theorem fa_u0 (g : wm_Sg) (o : Nat) (x : Int32) : wm_u g o 0 x = fa_set g o (x, g o 1, g o 2) := wm_ext (fun a i => by
  simp only [wm_u_app, fa_set_app]
  by_cases h : a = o
  · subst h
    by_cases h0 : i = 0
    · subst h0; simp
    · by_cases h1 : i = 1
      · subst h1; simp
      · by_cases h2 : i = 2
        · subst h2; simp
        · simp [h0, h1, h2]
  · simp [h])
theorem fa_u1 (g : wm_Sg) (o : Nat) (x : Int32) : wm_u g o 1 x = fa_set g o (g o 0, x, g o 2) := wm_ext (fun a i => by
  simp only [wm_u_app, fa_set_app]
  by_cases h : a = o
  · subst h
    by_cases h0 : i = 0
    · subst h0; simp
    · by_cases h1 : i = 1
      · subst h1; simp
      · by_cases h2 : i = 2
        · subst h2; simp
        · simp [h0, h1, h2]
  · simp [h])
theorem fa_u2 (g : wm_Sg) (o : Nat) (x : Int32) : wm_u g o 2 x = fa_set g o (g o 0, g o 1, x) := wm_ext (fun a i => by
  simp only [wm_u_app, fa_set_app]
  by_cases h : a = o
  · subst h
    by_cases h0 : i = 0
    · subst h0; simp
    · by_cases h1 : i = 1
      · subst h1; simp
      · by_cases h2 : i = 2
        · subst h2; simp
        · simp [h0, h1, h2]
  · simp [h])
theorem fa_s0 (g : wm_Sg) (o : Nat) (f : ft_T) : fa_set g o f o 0 = f.1 := by simp [fa_set_app]
theorem fa_s1 (g : wm_Sg) (o : Nat) (f : ft_T) : fa_set g o f o 1 = f.2.1 := by simp [fa_set_app]
theorem fa_s2 (g : wm_Sg) (o : Nat) (f : ft_T) : fa_set g o f o 2 = f.2.2 := by simp [fa_set_app]
theorem pf_Fa_reduce (o : Nat) (g : wm_Sg) : mf_Fa_reduce o g = some (fa_set g o (ft_red (fa_at g o))) := by
  have k62 : ∀ (g : wm_Sg), mf_Fa_reduce_62 o g = some (if g o 2 = 2 then fa_set g o (32, 0, g o 2) else g) := by
    intro g
    unfold mf_Fa_reduce_62 mf_Fa_reduce_81
    by_cases h : g o 2 = 2
    · rw [if_pos h, if_pos h, fa_u0, fa_u1, fa_set_set, fa_s0, fa_s2]
    · rw [if_neg h, if_neg h]
  have fin : ∀ s : Int32, mf_Fa_reduce_62 o (fa_set g o (g o 0, g o 1, s)) = some (fa_set g o (if s = 2 then (32, 0, 2) else (g o 0, g o 1, s))) := by
    intro s
    rw [k62, fa_s2]
    by_cases h : s = 2
    · rw [if_pos h, if_pos h, fa_set_set, h]
    · rw [if_neg h, if_neg h]
  unfold mf_Fa_reduce mf_Fa_reduce_37 ft_red fa_at fc_sg
  dsimp only
  by_cases h0 : g o 0 = 32
  · rw [if_pos h0, if_pos h0]
    by_cases h1 : 0 ≤ g o 1
    · rw [if_pos h1]
      have h1' : ¬ g o 1 < 0 := Int32.not_lt.mpr h1
      rw [if_neg h1']
      by_cases h2 : g o 1 = 0
      · rw [if_pos h2, if_pos h2, fa_u2, fin]
      · rw [if_neg h2, if_neg h2, fa_u2, fin]
    · have h1' : g o 1 < 0 := Int32.not_le.mp h1
      rw [if_neg h1, if_pos h1', fa_u2, fin]
  · rw [if_neg h0, if_neg h0]
    by_cases h2 : g o 1 = 0
    · rw [if_pos h2, if_pos h2]
      have := fin (g o 2)
      rw [show fa_set g o (g o 0, g o 1, g o 2) = g from fa_self g o] at this
      exact this
    · rw [if_neg h2, if_neg h2, fa_u2, fin]
theorem pf_Fa_becomeNumber (o : Nat) (x : Int32) (g : wm_Sg) : mf_Fa_becomeNumber o x g = some (fa_set g o (ft_num x)) := by
  unfold mf_Fa_becomeNumber
  rw [fa_u3, pf_Fa_reduce, fa_set_at, fa_set_set, ft_num_red]
  rfl
theorem pf_Fa_becomeAnything (o : Nat) (g : wm_Sg) : mf_Fa_becomeAnything o g = some (fa_set g o ft_any) := by
  unfold mf_Fa_becomeAnything
  rw [fa_u3]; rfl
theorem pf_Fa_keepSigns (o : Nat) (x : Int32) (g : wm_Sg) : mf_Fa_keepSigns o x g = some (fa_set g o (ft_keep (fa_at g o) x)) := by
  unfold mf_Fa_keepSigns
  rw [fa_u2, pf_Fa_reduce, fa_set_at, fa_set_set]
  rfl
theorem pf_Fa_lastBits (x k : Int32) (g : wm_Sg) : mf_Fa_lastBits x k g = some (fc_cut x k, g) := by
  unfold mf_Fa_lastBits mf_Fa_lastBits_17 fc_cut
  by_cases h : k = 32
  · rw [if_pos h, if_pos h]
  · rw [if_neg h, if_neg h]
theorem pf_Fa_becomeSame (o q : Nat) (g : wm_Sg) : mf_Fa_becomeSame o q g = some (fa_set g o (fa_at g q)) := by
  unfold mf_Fa_becomeSame
  congr 1
  by_cases h : q = o
  · subst h
    rw [fa_u0 g, fa_s1, fa_u1, fa_s0, fa_s2, fa_set_set, fa_s2, fa_u2, fa_s0, fa_s1, fa_set_set]
    rfl
  · rw [wm_u_ne g 0 _ h, wm_u_ne _ 1 _ h, wm_u_ne g 0 _ h, fa_u3]
    rfl
theorem pf_Fa_otherBits (x : Int32) (o q : Nat) (g : wm_Sg) : mf_Fa_otherBits x o q g = some (fc_ob x (fa_at g o) (fa_at g q), g) := by
  unfold mf_Fa_otherBits mf_Fa_otherBits_27 mf_Fa_otherBits_28 fc_ob fa_at
  dsimp only
  by_cases h : x = 5
  · rw [if_pos h]
    by_cases h2 : fc_min (g o 0) (g q 0) = 32
    · rw [if_pos h2, if_neg (fun z => z.2 h2)]
    · rw [if_neg h2, if_pos ⟨h, h2⟩]
  · rw [if_neg h, if_neg (fun z => h z.1)]
theorem pf_Ff_calculated (o x y : Int32) (g : wm_Sg) : mf_Ff_calculated o x y g = some (fc_calc o x y, g) := by
  unfold mf_Ff_calculated mf_Ff_calculated_51 fc_calc
  by_cases h2 : o = 2
  · rw [if_pos h2, if_pos h2]
  · rw [if_neg h2, if_neg h2]
    by_cases h3 : o = 3
    · rw [if_pos h3, if_pos h3]
    · rw [if_neg h3, if_neg h3]
      by_cases h4 : o = 4
      · rw [if_pos h4, if_pos h4]
      · rw [if_neg h4, if_neg h4]
        by_cases h5 : y = 0
        · rw [if_pos h5, if_pos h5]
        · rw [if_neg h5, if_neg h5, if_neg h5]
theorem pf_Fa_signTable (o : Int32) (g : wm_Sg) : mf_Fa_signTable o g = some (fc_ti o, g) := by
  unfold mf_Fa_signTable fc_ti
  by_cases h2 : o = 2
  · rw [if_pos h2, if_pos h2]
  · rw [if_neg h2, if_neg h2]
    by_cases h3 : o = 3
    · rw [if_pos h3, if_pos h3]
    · rw [if_neg h3, if_neg h3]
      by_cases h4 : o = 4
      · rw [if_pos h4, if_pos h4]
      · rw [if_neg h4, if_neg h4]
theorem fc_ti_lt (o : Int32) : fc_ti o < 4 := by
  unfold fc_ti
  by_cases e2 : o = 2
  · rw [if_pos e2]; decide
  · rw [if_neg e2]
    by_cases e3 : o = 3
    · rw [if_pos e3]; decide
    · rw [if_neg e3]
      by_cases e4 : o = 4
      · rw [if_pos e4]; decide
      · rw [if_neg e4]; decide
theorem rs_in (K : Int32 × Int32 × wm_Sg → Option (Int32 × wm_Sg)) (t : Nat) (x y : Int32) (g : wm_Sg) {i : Nat} (hi : i < 3) : ∀ (k j : Nat), j + k = 3 → ∀ f : Nat, lp_it (mf_Fa_resultSigns_14 K t x y (nI i)) (f + k + 1) (fc_rs t x y (3 * i + j), nI j, g) = K (fc_rs t x y (3 * i + 3), nI (i + 1), g)
  | 0, j, hj, f => by
    have e : j = 3 := by omega
    subst e
    show mf_Fa_resultSigns_14 K t x y (nI i) _ _ = _
    unfold mf_Fa_resultSigns_14
    dsimp only
    rw [if_pos (by decide), nI_1]
  | k + 1, j, hj, f => by
    show mf_Fa_resultSigns_14 K t x y (nI i) (lp_it (mf_Fa_resultSigns_14 K t x y (nI i)) (f + k + 1)) _ = _
    have ih := rs_in K t x y g hi k (j + 1) (by omega) f
    generalize lp_it (mf_Fa_resultSigns_14 K t x y (nI i)) (f + k + 1) = Kf at ih ⊢
    unfold mf_Fa_resultSigns_14 mf_Fa_resultSigns_46
    dsimp only
    have hn : ¬ (3 : Int32) ≤ nI j := fun q => by have := (nI_leI (a := 3) (by omega) (by omega)).mp q; omega
    rw [if_neg hn]
    have e1 : (3 * i + j) / 3 = i := by omega
    have e2 : (3 * i + j) % 3 = j := by omega
    have hrs : fc_rs t x y (3 * i + (j + 1)) = if (x >>> (nI i &&& 31)) &&& (y >>> (nI j &&& 31)) &&& 1 = 0 then fc_rs t x y (3 * i + j) else fc_rs t x y (3 * i + j) ||| fc_tab t (3 * i + j) := by
      show (if (x >>> (nI ((3 * i + j) / 3) &&& 31)) &&& (y >>> (nI ((3 * i + j) % 3) &&& 31)) &&& 1 = 0 then fc_rs t x y (3 * i + j) else fc_rs t x y (3 * i + j) ||| fc_tab t (3 * i + j)) = _
      rw [e1, e2]
    by_cases c : (x >>> (nI i &&& 31)) &&& (y >>> (nI j &&& 31)) &&& 1 = 0
    · rw [if_pos c] at hrs
      rw [if_pos c, nI_1, ← hrs]
      exact ih
    · rw [if_neg c] at hrs
      have e3 : (3 : Int32) * nI i + nI j = nI (3 * i + j) := by
        show nI 3 * nI i + nI j = _
        rw [pk_mul, nI_add]
      have hb : ¬ (nI (3 * i + j) < 0 ∨ 9 ≤ (nI (3 * i + j)).toNatClampNeg) := nI_in (by omega) (by omega)
      rw [if_neg c, e3, if_neg hb, nI_clamp (by omega), nI_1, ← hrs]
      exact ih
theorem rs_out (t : Nat) (x y : Int32) (g : wm_Sg) : ∀ (k i : Nat), i + k = 3 → ∀ f : Nat, lp_it (mf_Fa_resultSigns_5 t x y) (f + k + 1) (fc_rs t x y (3 * i), nI i, g) = some (fc_rs t x y 9, g)
  | 0, i, hi, f => by
    have e : i = 3 := by omega
    subst e
    show mf_Fa_resultSigns_5 t x y _ _ = _
    unfold mf_Fa_resultSigns_5
    dsimp only
    rw [if_pos (by decide)]
  | k + 1, i, hi, f => by
    show mf_Fa_resultSigns_5 t x y (lp_it (mf_Fa_resultSigns_5 t x y) (f + k + 1)) _ = _
    have ih := rs_out t x y g k (i + 1) (by omega) f
    generalize lp_it (mf_Fa_resultSigns_5 t x y) (f + k + 1) = Kf at ih ⊢
    unfold mf_Fa_resultSigns_5
    dsimp only
    have hn : ¬ (3 : Int32) ≤ nI i := fun q => by have := (nI_leI (a := 3) (by omega) (by omega)).mp q; omega
    rw [if_neg hn]
    have := rs_in Kf t x y g (i := i) (by omega) 3 0 rfl 2096
    rw [show 3 * i + 0 = 3 * i from rfl, show nI 0 = 0 from rfl] at this
    rw [show (2100 : Nat) = 2096 + 3 + 1 from rfl, this, show 3 * i + 3 = 3 * (i + 1) by omega]
    exact ih
theorem pf_Fa_resultSigns (t : Nat) (x y : Int32) (g : wm_Sg) : mf_Fa_resultSigns t x y g = some (fc_rs t x y 9, g) := by
  unfold mf_Fa_resultSigns
  exact rs_out t x y g 3 0 rfl 2096
/-! trailing zeros, as the JDK counts them -/
theorem tz_mask {x : Int32} (h : tz_n x < 32) : (x ^^^ (-1)) &&& (x - 1) = nI (2 ^ tz_n x - 1) := by
  obtain ⟨-, h2, h3⟩ := tz_spec x
  have h3 := h3 h
  generalize tz_n x = t at h h2 h3
  have hX : x.toBitVec.toNat % 2 ^ (t + 1) = 2 ^ t := by
    apply Nat.eq_of_testBit_eq
    intro i
    rw [Nat.testBit_mod_two_pow, Nat.testBit_two_pow]
    have hb : x.toBitVec.toNat.testBit i = bt x i := rfl
    rw [hb]
    by_cases e : i = t
    · subst e; simp [h3]
    · by_cases l : i < t
      · rw [h2 i l]; simp; omega
      · have : ¬ i < t + 1 := by omega
        simp [this]; omega
  have hlt : 2 ^ t < 2 ^ 32 := Nat.pow_lt_pow_right (by decide) h
  have hx1 : (x - 1).toBitVec.toNat = 2 ^ (t + 1) * (x.toBitVec.toNat / 2 ^ (t + 1)) + (2 ^ t - 1) := by
    have e := Nat.div_add_mod x.toBitVec.toNat (2 ^ (t + 1))
    rw [hX] at e
    have hp : 0 < 2 ^ t := Nat.pos_of_ne_zero (by simp)
    have hr : x.toBitVec.toNat < 2 ^ 32 := x.toBitVec.isLt
    show (x.toBitVec - (1 : Int32).toBitVec).toNat = _
    rw [BitVec.toNat_sub]
    have e1 : ((1 : Int32).toBitVec).toNat = 1 := rfl
    rw [e1]
    omega
  have hx0 : x.toBitVec.toNat = 2 ^ (t + 1) * (x.toBitVec.toNat / 2 ^ (t + 1)) + 2 ^ t := by
    have e := Nat.div_add_mod x.toBitVec.toNat (2 ^ (t + 1))
    rw [hX] at e
    exact e.symm
  apply b_ext
  intro i hi
  rw [b_and, b_xor, b_n]
  have hm1 : bt (-1) i = true := (by decide +kernel : ∀ i, i < 32 → bt (-1) i = true) i hi
  rw [hm1, decide_eq_true hi, Bool.true_and, Nat.testBit_two_pow_sub_one]
  have b0 : bt x i = if i < t + 1 then decide (t = i) else (x.toBitVec.toNat / 2 ^ (t + 1)).testBit (i - (t + 1)) := by
    show x.toBitVec.toNat.testBit i = _
    rw [hx0, Nat.testBit_two_pow_mul_add _ (Nat.pow_lt_pow_right (by decide) (Nat.lt_succ_self t)), ← hx0]
    by_cases l : i < t + 1
    · rw [if_pos l, if_pos l, Nat.testBit_two_pow]
    · rw [if_neg l, if_neg l]
  have b1 : bt (x - 1) i = if i < t + 1 then decide (i < t) else (x.toBitVec.toNat / 2 ^ (t + 1)).testBit (i - (t + 1)) := by
    show (x - 1).toBitVec.toNat.testBit i = _
    have hp : 0 < 2 ^ t := Nat.pos_of_ne_zero (by simp)
    rw [hx1, Nat.testBit_two_pow_mul_add _ (Nat.lt_of_lt_of_le (Nat.sub_lt hp (by decide)) (Nat.pow_le_pow_right (by decide) (Nat.le_succ t)))]
    by_cases l : i < t + 1
    · rw [if_pos l, if_pos l, Nat.testBit_two_pow_sub_one]
    · rw [if_neg l, if_neg l]
  rw [b0, b1]
  by_cases l : i < t + 1
  · rw [if_pos l, if_pos l]
    by_cases e : t = i
    · subst e; simp
    · have : i < t := by omega
      simp [e, this]
  · rw [if_neg l, if_neg l]
    have : ¬ i < t := by omega
    simp [this]
theorem pf_tz34 (m n : Int32) (g : wm_Sg) : mf_Ig_numberOfTrailingZeros_34 m n g = some (((mf_Ig_numberOfTrailingZeros_34 m n (fun _ _ => 0)).getD (0, fun _ _ => 0)).1, g) := by
  unfold mf_Ig_numberOfTrailingZeros_34 mf_Ig_numberOfTrailingZeros_49 mf_Ig_numberOfTrailingZeros_62 mf_Ig_numberOfTrailingZeros_74
  repeat' split
  all_goals rfl
def tz_v (m : Int32) : Int32 := if (0 : Int32) < m then (if m ≤ (65536 : Int32) then ((mf_Ig_numberOfTrailingZeros_34 m 1 (fun _ _ => 0)).getD (0, fun _ _ => 0)).1 else ((mf_Ig_numberOfTrailingZeros_34 ((m.toUInt32 >>> (Int32.toUInt32 (16 : Int32) &&& Int32.toUInt32 31)).toInt32) ((1 : Int32) + (16 : Int32)) (fun _ _ => 0)).getD (0, fun _ _ => 0)).1) else m &&& 32
theorem tz_v_n : ∀ t, t < 32 → tz_v (nI (2 ^ t - 1)) = nI t := by decide +kernel
theorem pf_Ig_numberOfTrailingZeros (x : Int32) (g : wm_Sg) : mf_Ig_numberOfTrailingZeros x g = some (fc_tz x, g) := by
  have key : mf_Ig_numberOfTrailingZeros x g = some (tz_v ((x ^^^ (-1)) &&& (x - 1)), g) := by
    unfold mf_Ig_numberOfTrailingZeros tz_v
    generalize (x ^^^ (-1)) &&& (x - 1) = m
    by_cases h : (0 : Int32) < m
    · rw [if_pos h, if_pos h]
      by_cases h2 : m ≤ (65536 : Int32)
      · rw [if_pos h2, if_pos h2, pf_tz34]
      · rw [if_neg h2, if_neg h2, pf_tz34]
    · rw [if_neg h, if_neg h]
  rw [key]
  congr 2
  unfold fc_tz
  by_cases h : tz_n x < 32
  · rw [tz_mask h, tz_v_n _ h]
  · have h1 := (tz_spec x).1
    have e : tz_n x = 32 := by omega
    have hx : x = 0 := b_zero (fun i hi => (tz_spec x).2.1 i (by omega))
    rw [e, hx]
    decide +kernel
theorem pf_Fa_productBits (o q : Nat) (g : wm_Sg) : mf_Fa_productBits o q g = some (fc_pb (fa_at g o) (fa_at g q), g) := by
  unfold mf_Fa_productBits
  rw [pf_Ig_numberOfTrailingZeros]
  show (mf_Ig_numberOfTrailingZeros (g o 1) g).bind _ = _
  rw [pf_Ig_numberOfTrailingZeros]
  show (if fc_min (g o 0 + g q 0) (fc_min (g o 0 + fc_tz (g q 1)) (g q 0 + fc_tz (g o 1))) < (32 : Int32) then _ else _) = _
  unfold mf_Fa_productBits_64 fc_pb fa_at
  dsimp only
  by_cases h : fc_min (g o 0 + g q 0) (fc_min (g o 0 + fc_tz (g q 1)) (g q 0 + fc_tz (g o 1))) < (32 : Int32)
  · rw [if_pos h, if_neg (Int32.not_le.mpr h)]
  · rw [if_neg h, if_pos (Int32.not_lt.mp h)]
theorem pf_Fa_becomeResult (o : Nat) (x : Int32) (q r : Nat) (g : wm_Sg) : mf_Fa_becomeResult o x q r g = some (fa_set g o (ft_res x (fa_at g q) (fa_at g r))) := by
  have k42 : ∀ (k z : Int32), mf_Fa_becomeResult_42 o x q r k z g = some (fa_set g o (ft_red (k, fc_cut z k, fc_rs (fc_ti x) (g q 2) (g r 2) 9))) := by
    intro k z
    unfold mf_Fa_becomeResult_42
    rw [pf_Fa_signTable]
    show (if 4 ≤ fc_ti x then none else (mf_Fa_resultSigns (fc_ti x) (g q 2) (g r 2) g).bind _) = _
    rw [if_neg (Nat.not_le.mpr (fc_ti_lt x)), pf_Fa_resultSigns]
    show (mf_Fa_lastBits z k (wm_u g o 0 k)).bind _ = _
    rw [pf_Fa_lastBits]
    show (mf_Fa_reduce o (wm_u (wm_u (wm_u g o 0 k) o 1 (fc_cut z k)) o 2 (fc_rs (fc_ti x) (g q 2) (g r 2) 9))).bind _ = _
    rw [fa_u3, pf_Fa_reduce, fa_set_at, fa_set_set]
    rfl
  have k19 : ∀ k : Int32, mf_Fa_becomeResult_19 o x q r k g = some (fa_set g o (ft_red (k, fc_cut (if k = 0 then 0 else fc_calc x (g q 1) (g r 1)) k, fc_rs (fc_ti x) (g q 2) (g r 2) 9))) := by
    intro k
    unfold mf_Fa_becomeResult_19
    by_cases h : k = 0
    · rw [if_pos h, if_pos h, k42]
    · rw [if_neg h, if_neg h, pf_Ff_calculated]
      show mf_Fa_becomeResult_42 o x q r k (fc_calc x (g q 1) (g r 1)) g = _
      rw [k42]
  unfold mf_Fa_becomeResult ft_res fc_kb
  by_cases h : x = 4
  · rw [if_pos h, if_pos h, pf_Fa_productBits]
    show mf_Fa_becomeResult_19 o x q r _ g = _
    rw [k19]; rfl
  · rw [if_neg h, if_neg h, pf_Fa_otherBits]
    show mf_Fa_becomeResult_19 o x q r _ g = _
    rw [k19]; rfl
def b_i (b : Bool) : Int32 := if b = true then 1 else 0
/-- whether a join makes a fact tell more -/
def ft_more (f h : ft_T) : Bool := !(decide ((ft_jn f h).1 = f.1) && decide ((ft_jn f h).2.2 = f.2.2))
theorem pf_Fa_joinWith (o q : Nat) (g : wm_Sg) : mf_Fa_joinWith o q g = some (b_i (ft_more (fa_at g o) (fa_at g q)), fa_set g o (ft_jn (fa_at g o) (fa_at g q))) := by
  have k83 : ∀ (k s m : Int32), (m = 0 ∨ m = 1) → mf_Fa_joinWith_83 o k s m g = some (m, fa_set g o (k, fc_cut (g o 1) k, s)) := by
    intro k s m hm
    unfold mf_Fa_joinWith_83
    rw [wm_u_app, if_neg (fun z => absurd z.2 (by decide)), pf_Fa_lastBits]
    show (if m = 0 ∨ m = 1 then some (m, wm_u (wm_u (wm_u g o 0 k) o 1 (fc_cut (g o 1) k)) o 2 s) else none) = _
    rw [if_pos hm, fa_u3]
  have k50 : ∀ k : Int32, mf_Fa_joinWith_50 o q k g = some (b_i (!(decide (k = g o 0) && decide (g o 2 ||| g q 2 = g o 2))), fa_set g o (k, fc_cut (g o 1) k, g o 2 ||| g q 2)) := by
    intro k
    unfold mf_Fa_joinWith_50 mf_Fa_joinWith_78
    by_cases h1 : k = g o 0
    · rw [if_pos h1]
      by_cases h2 : g o 2 ||| g q 2 = g o 2
      · rw [if_pos h2, k83 _ _ _ (Or.inl rfl), decide_eq_true h1, decide_eq_true h2]; rfl
      · rw [if_neg h2, k83 _ _ _ (Or.inr rfl), decide_eq_true h1, decide_eq_false h2]; rfl
    · rw [if_neg h1, k83 _ _ _ (Or.inr rfl), decide_eq_false h1]; rfl
  have k32 : ∀ d k : Int32, mf_Fa_joinWith_32 o q d k g = mf_Fa_joinWith_50 o q (fc_min 16 (fc_min k (fc_tz d))) g := by
    intro d k
    unfold mf_Fa_joinWith_32
    rw [pf_Ig_numberOfTrailingZeros]; rfl
  unfold mf_Fa_joinWith ft_more ft_jn fa_at
  dsimp only
  by_cases h1 : fc_min (g o 0) (g q 0) = 32
  · rw [if_pos h1]
    by_cases h2 : g o 1 ^^^ g q 1 = 0
    · rw [if_pos h2, k50, h1, if_pos ⟨rfl, h2⟩]
    · rw [if_neg h2, k32, k50, if_neg (fun z => h2 z.2)]
  · rw [if_neg h1, k32, k50, if_neg (fun z => h1 z.1)]
