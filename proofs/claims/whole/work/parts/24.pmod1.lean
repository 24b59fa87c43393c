/-! the reference's small methods -/
theorem mr_1 : sh_r 186 1 = 187 := by decide +kernel
theorem mb_1 {v : Nat} (h : v < 24) : ¬ (nI v < 0 ∨ sh_n (sh_r 186 1) ≤ (nI v).toNatClampNeg) := by
  have e : sh_n (sh_r 186 1) = 24 := by decide +kernel
  rw [e]; exact nI_in h (by decide)
theorem mr_2 : sh_r 186 2 = 188 := by decide +kernel
theorem mb_2 {v : Nat} (h : v < 24) : ¬ (nI v < 0 ∨ sh_n (sh_r 186 2) ≤ (nI v).toNatClampNeg) := by
  have e : sh_n (sh_r 186 2) = 24 := by decide +kernel
  rw [e]; exact nI_in h (by decide)
theorem mr_3 : sh_r 186 3 = 189 := by decide +kernel
theorem mb_3 {v : Nat} (h : v < 24) : ¬ (nI v < 0 ∨ sh_n (sh_r 186 3) ≤ (nI v).toNatClampNeg) := by
  have e : sh_n (sh_r 186 3) = 24 := by decide +kernel
  rw [e]; exact nI_in h (by decide)
theorem mr_4 : sh_r 186 4 = 190 := by decide +kernel
theorem mb_4 {v : Nat} (h : v < 24) : ¬ (nI v < 0 ∨ sh_n (sh_r 186 4) ≤ (nI v).toNatClampNeg) := by
  have e : sh_n (sh_r 186 4) = 24 := by decide +kernel
  rw [e]; exact nI_in h (by decide)
theorem mr_6 : sh_r 186 6 = 191 := by decide +kernel
theorem mb_6 {v : Nat} (h : v < 24) : ¬ (nI v < 0 ∨ sh_n (sh_r 186 6) ≤ (nI v).toNatClampNeg) := by
  have e : sh_n (sh_r 186 6) = 24 := by decide +kernel
  rw [e]; exact nI_in h (by decide)
theorem mr_7 : sh_r 186 7 = 192 := by decide +kernel
theorem mb_7 {v : Nat} (h : v < 96) : ¬ (nI v < 0 ∨ sh_n (sh_r 186 7) ≤ (nI v).toNatClampNeg) := by
  have e : sh_n (sh_r 186 7) = 96 := by decide +kernel
  rw [e]; exact nI_in h (by decide)
theorem mr_8 : sh_r 186 8 = 193 := by decide +kernel
theorem mb_8 {v : Nat} (h : v < 96) : ¬ (nI v < 0 ∨ sh_n (sh_r 186 8) ≤ (nI v).toNatClampNeg) := by
  have e : sh_n (sh_r 186 8) = 96 := by decide +kernel
  rw [e]; exact nI_in h (by decide)
theorem mr_9 : sh_r 186 9 = 194 := by decide +kernel
theorem mb_9 {v : Nat} (h : v < 96) : ¬ (nI v < 0 ∨ sh_n (sh_r 186 9) ≤ (nI v).toNatClampNeg) := by
  have e : sh_n (sh_r 186 9) = 96 := by decide +kernel
  rw [e]; exact nI_in h (by decide)
theorem mr_11 : sh_r 186 11 = 195 := by decide +kernel
theorem mb_11 {v : Nat} (h : v < 4) : ¬ (nI v < 0 ∨ sh_n (sh_r 186 11) ≤ (nI v).toNatClampNeg) := by
  have e : sh_n (sh_r 186 11) = 4 := by decide +kernel
  rw [e]; exact nI_in h (by decide)
theorem mr_12 : sh_r 186 12 = 196 := by decide +kernel
theorem mb_12 {v : Nat} (h : v < 4) : ¬ (nI v < 0 ∨ sh_n (sh_r 186 12) ≤ (nI v).toNatClampNeg) := by
  have e : sh_n (sh_r 186 12) = 4 := by decide +kernel
  rw [e]; exact nI_in h (by decide)
theorem mr_13 : sh_r 186 13 = 197 := by decide +kernel
theorem mb_13 {v : Nat} (h : v < 4) : ¬ (nI v < 0 ∨ sh_n (sh_r 186 13) ≤ (nI v).toNatClampNeg) := by
  have e : sh_n (sh_r 186 13) = 4 := by decide +kernel
  rw [e]; exact nI_in h (by decide)
theorem mr_18 : sh_r 186 18 = 198 := by decide +kernel
theorem mb_18 {v : Nat} (h : v < 16) : ¬ (nI v < 0 ∨ sh_n (sh_r 186 18) ≤ (nI v).toNatClampNeg) := by
  have e : sh_n (sh_r 186 18) = 16 := by decide +kernel
  rw [e]; exact nI_in h (by decide)
theorem mr_21 : sh_r 186 21 = 199 := by decide +kernel
theorem mb_21 {v : Nat} (h : v < 4) : ¬ (nI v < 0 ∨ sh_n (sh_r 186 21) ≤ (nI v).toNatClampNeg) := by
  have e : sh_n (sh_r 186 21) = 4 := by decide +kernel
  rw [e]; exact nI_in h (by decide)
theorem mr_23 : sh_r 186 23 = 200 := by decide +kernel
theorem mb_23 {v : Nat} (h : v < 40) : ¬ (nI v < 0 ∨ sh_n (sh_r 186 23) ≤ (nI v).toNatClampNeg) := by
  have e : sh_n (sh_r 186 23) = 40 := by decide +kernel
  rw [e]; exact nI_in h (by decide)
def nw_at (g : wm_Sg) : ft_T := (g 186 14, g 186 15, g 186 16)
def nw_set (g : wm_Sg) (f : ft_T) : wm_Sg := fun a => if a = 186 then (fun j => if j = 14 then f.1 else if j = 15 then f.2.1 else if j = 16 then f.2.2 else g 186 j) else g a
theorem nw_set_app (g : wm_Sg) (f : ft_T) (a i : Nat) : nw_set g f a i = if a = 186 then (if i = 14 then f.1 else if i = 15 then f.2.1 else if i = 16 then f.2.2 else g a i) else g a i := by
  unfold nw_set
  by_cases h : a = 186
  · subst h; rw [if_pos rfl, if_pos rfl]
  · rw [if_neg h, if_neg h]
theorem nw_set_at (g : wm_Sg) (f : ft_T) : nw_at (nw_set g f) = f := by
  unfold nw_at
  simp [nw_set_app]
theorem nw_set_ne (g : wm_Sg) {a : Nat} (f : ft_T) (h : a ≠ 186) : nw_set g f a = g a := if_neg h
theorem nw_u3 (g : wm_Sg) (x y z : Int32) : wm_u (wm_u (wm_u g 186 14 x) 186 15 y) 186 16 z = nw_set g (x, y, z) := wm_ext (fun a i => by
  simp only [wm_u_app, nw_set_app]
  by_cases h : a = 186
  · subst h
    by_cases h0 : i = 14
    · subst h0; simp
    · by_cases h1 : i = 15
      · subst h1; simp
      · by_cases h2 : i = 16
        · subst h2; simp
        · simp [h0, h1, h2]
  · simp [h])
theorem nw_self (g : wm_Sg) : nw_set g (nw_at g) = g := wm_ext (fun a i => by
  simp only [nw_set_app, nw_at]
  by_cases h : a = 186
  · subst h
    by_cases h0 : i = 14
    · subst h0; simp
    · by_cases h1 : i = 15
      · subst h1; simp
      · by_cases h2 : i = 16
        · subst h2; simp
        · simp [h0, h1, h2]
  · simp [h])
theorem nw_set_set (g : wm_Sg) (f h : ft_T) : nw_set (nw_set g f) h = nw_set g h := wm_ext (fun a i => by
  simp only [nw_set_app]
  by_cases q : a = 186
  · subst q
    by_cases h0 : i = 14
    · subst h0; simp
    · by_cases h1 : i = 15
      · subst h1; simp
      · by_cases h2 : i = 16
        · subst h2; simp
        · simp [h0, h1, h2]
  · simp [q])
theorem nw_u0 (g : wm_Sg) (x : Int32) : wm_u g 186 14 x = nw_set g (x, g 186 15, g 186 16) := wm_ext (fun a i => by
  simp only [wm_u_app, nw_set_app]
  by_cases h : a = 186
  · subst h
    by_cases h0 : i = 14
    · subst h0; simp
    · by_cases h1 : i = 15
      · subst h1; simp
      · by_cases h2 : i = 16
        · subst h2; simp
        · simp [h0, h1, h2]
  · simp [h])
theorem nw_u1 (g : wm_Sg) (x : Int32) : wm_u g 186 15 x = nw_set g (g 186 14, x, g 186 16) := wm_ext (fun a i => by
  simp only [wm_u_app, nw_set_app]
  by_cases h : a = 186
  · subst h
    by_cases h0 : i = 14
    · subst h0; simp
    · by_cases h1 : i = 15
      · subst h1; simp
      · by_cases h2 : i = 16
        · subst h2; simp
        · simp [h0, h1, h2]
  · simp [h])
theorem nw_u2 (g : wm_Sg) (x : Int32) : wm_u g 186 16 x = nw_set g (g 186 14, g 186 15, x) := wm_ext (fun a i => by
  simp only [wm_u_app, nw_set_app]
  by_cases h : a = 186
  · subst h
    by_cases h0 : i = 14
    · subst h0; simp
    · by_cases h1 : i = 15
      · subst h1; simp
      · by_cases h2 : i = 16
        · subst h2; simp
        · simp [h0, h1, h2]
  · simp [h])
theorem nw_s0 (g : wm_Sg) (f : ft_T) : nw_set g f 186 14 = f.1 := by simp [nw_set_app]
theorem nw_s1 (g : wm_Sg) (f : ft_T) : nw_set g f 186 15 = f.2.1 := by simp [nw_set_app]
theorem nw_s2 (g : wm_Sg) (f : ft_T) : nw_set g f 186 16 = f.2.2 := by simp [nw_set_app]

def kf_at (g : wm_Sg) (v : Nat) : ft_T := (g 195 v, g 196 v, g 197 v)
def kf_set (g : wm_Sg) (v : Nat) (f : ft_T) : wm_Sg := wm_u (wm_u (wm_u g 195 v f.1) 196 v f.2.1) 197 v f.2.2
theorem kf_set_at (g : wm_Sg) (v w : Nat) (f : ft_T) : kf_at (kf_set g v f) w = if w = v then f else kf_at g w := by
  unfold kf_at kf_set
  simp only [wm_u_app]
  by_cases h : w = v
  · simp [h]
  · simp [h]
theorem kf_set_ne (g : wm_Sg) {a : Nat} (v : Nat) (f : ft_T) (h1 : a ≠ 195) (h2 : a ≠ 196) (h3 : a ≠ 197) : kf_set g v f a = g a := by
  unfold kf_set
  rw [wm_u_ne _ _ _ h3, wm_u_ne _ _ _ h2, wm_u_ne _ _ _ h1]
theorem kf_nw (g : wm_Sg) (f : ft_T) (v : Nat) : kf_at (nw_set g f) v = kf_at g v := by
  unfold kf_at; rw [nw_set_ne g f (by decide), nw_set_ne g f (by decide), nw_set_ne g f (by decide)]
/-- what reckoning may change in the reference: the new fact, the facts at hand -/
def mo_f1 (g g' : wm_Sg) : Prop := (∀ a, a ≠ 186 → a ≠ 195 → a ≠ 196 → a ≠ 197 → g' a = g a) ∧ ∀ j, j ≠ 14 → j ≠ 15 → j ≠ 16 → g' 186 j = g 186 j
theorem mo_f1_refl (g : wm_Sg) : mo_f1 g g := ⟨fun _ _ _ _ _ => rfl, fun _ _ _ _ => rfl⟩
theorem mo_f1_trans {g g' g'' : wm_Sg} (a : mo_f1 g g') (b : mo_f1 g' g'') : mo_f1 g g'' := ⟨fun x h1 h2 h3 h4 => (b.1 x h1 h2 h3 h4).trans (a.1 x h1 h2 h3 h4), fun j h1 h2 h3 => (b.2 j h1 h2 h3).trans (a.2 j h1 h2 h3)⟩
theorem mo_f1_nw (g : wm_Sg) (f : ft_T) : mo_f1 g (nw_set g f) := ⟨fun a h _ _ _ => nw_set_ne g f h, fun j h1 h2 h3 => by rw [nw_set_app, if_pos rfl, if_neg h1, if_neg h2, if_neg h3]⟩
theorem mo_f1_kf (g : wm_Sg) (v : Nat) (f : ft_T) : mo_f1 g (kf_set g v f) := ⟨fun a _ h1 h2 h3 => kf_set_ne g v f h1 h2 h3, fun j _ _ _ => by rw [kf_set_ne g v f (by decide) (by decide) (by decide)]⟩
theorem pf_Mo_least (a b : Int32) (g : wm_Sg) : mf_Mo_least a b g = some (fc_min a b, g) := by
  unfold mf_Mo_least mf_Mo_least_10 fc_min
  by_cases h : b < a
  · rw [if_pos (Int32.le_of_lt h), if_pos h]
  · rw [if_neg h]
    by_cases h2 : b ≤ a
    · rw [if_pos h2, Int32.le_antisymm h2 (Int32.not_lt.mp h)]
    · rw [if_neg h2]
theorem pf_Mo_cut (x k : Int32) (g : wm_Sg) : mf_Mo_cut x k g = some (fc_cut x k, g) := by
  unfold mf_Mo_cut mf_Mo_cut_17 fc_cut
  by_cases h : k = 32
  · rw [if_pos h, if_pos h]
  · rw [if_neg h, if_neg h]
theorem pf_Mo_sign (x : Int32) (g : wm_Sg) : mf_Mo_sign x g = some (fc_sg x, g) := by
  unfold mf_Mo_sign mf_Mo_sign_17 fc_sg
  by_cases h : (0 : Int32) ≤ x
  · rw [if_pos h, if_neg (Int32.not_lt.mpr h)]
    by_cases h2 : x = 0
    · rw [if_pos h2, if_pos (by rw [h2]; exact Int32.le_refl _)]
    · rw [if_neg h2, if_neg (fun q => h2 (Int32.le_antisymm q h))]
  · rw [if_neg h, if_pos (Int32.not_le.mp h)]
theorem bt_1 : ∀ i, i < 32 → bt 1 i = decide (i = 0) := by decide +kernel
theorem sh_bit {x : Int32} {n : Nat} (hn : n < 32) : (x >>> (nI n &&& 31)) &&& 1 = if bt x n then 1 else 0 := by
  apply b_ext
  intro i hi
  rw [b_and, b_sshr n hn x hi, bt_1 i hi]
  by_cases e : i = 0
  · subst e
    rw [Nat.add_zero, if_pos hn]
    cases h : bt x n
    · rw [if_neg (by decide), b_0]; rfl
    · rw [if_pos rfl]; rfl
  · rw [decide_eq_false e, Bool.and_false]
    cases h : bt x n
    · rw [if_neg (by decide), b_0]
    · rw [if_pos rfl, bt_1 i hi, decide_eq_false e]
theorem zr_loop (x : Int32) (g : wm_Sg) : ∀ (k n : Nat), n + k = 32 → ∀ f : Nat, lp_it (mf_Mo_zeros_2 x) (f + k + 1) (nI n, g) = some (nI (tz_go x n k), g)
  | 0, n, hn, f => by
    have e : n = 32 := by omega
    subst e
    show mf_Mo_zeros_2 x _ _ = _
    unfold mf_Mo_zeros_2 mf_Mo_zeros_22
    dsimp only
    rw [if_pos (by decide)]
    rfl
  | k + 1, n, hn, f => by
    have ih := zr_loop x g k (n + 1) (by omega) f
    show mf_Mo_zeros_2 x (lp_it (mf_Mo_zeros_2 x) (f + k + 1)) _ = _
    generalize lp_it (mf_Mo_zeros_2 x) (f + k + 1) = Kf at ih ⊢
    unfold mf_Mo_zeros_2 mf_Mo_zeros_22
    dsimp only
    rw [if_neg (show ¬ (32 : Int32) ≤ nI n from n_nle (a := 32) (by decide) (by omega) (by omega)), sh_bit (by omega)]
    unfold tz_go
    cases h : bt x n
    · rw [if_neg (show ¬ (false = true) by decide), if_pos rfl, if_neg (show ¬ (false = true) by decide), nI_1]
      exact ih
    · rw [if_pos rfl, if_neg (by decide), if_pos rfl]
theorem pf_Mo_zeros (x : Int32) (g : wm_Sg) : mf_Mo_zeros x g = some (fc_tz x, g) := zr_loop x g 32 0 rfl 2067
theorem pf_Mo_reduced (g : wm_Sg) : mf_Mo_reduced 186 g = some (b_i (decide (¬ (ft_red (g 186 14, fc_cut (g 186 15) (g 186 14), g 186 16)).2.2 = 0)), nw_set g (ft_red (g 186 14, fc_cut (g 186 15) (g 186 14), g 186 16))) := by
  have k80 : ∀ (f : ft_T), mf_Mo_reduced_80 186 (nw_set g f) = some (b_i (decide (¬ f.2.2 = 0)), nw_set g f) := by
    intro f
    unfold mf_Mo_reduced_80 mf_Mo_reduced_92
    rw [nw_s2]
    by_cases h : f.2.2 = 0
    · rw [if_pos h, decide_eq_false (fun q => q h)]; rfl
    · rw [if_neg h, decide_eq_true h]; rfl
  have k61 : ∀ s : Int32, mf_Mo_reduced_61 186 (nw_set g (g 186 14, fc_cut (g 186 15) (g 186 14), s)) = some (b_i (decide (¬ (if s = 2 then (32, 0, 2) else (g 186 14, fc_cut (g 186 15) (g 186 14), s) : ft_T).2.2 = 0)), nw_set g (if s = 2 then (32, 0, 2) else (g 186 14, fc_cut (g 186 15) (g 186 14), s))) := by
    intro s
    unfold mf_Mo_reduced_61
    rw [nw_s2]
    by_cases h : s = 2
    · rw [if_pos h, if_pos h, nw_u0, nw_set_set, nw_u1, nw_set_set, nw_s1, nw_s2, nw_s0, nw_s2, k80, h]
    · rw [if_neg h, if_neg h, k80]
  unfold mf_Mo_reduced
  rw [pf_Mo_cut, Option.bind_some]
  dsimp only
  rw [nw_u1, nw_s0, nw_s1, nw_s2]
  generalize hc : fc_cut (g 186 15) (g 186 14) = c at *
  unfold ft_red
  dsimp only
  by_cases h0 : g 186 14 = 32
  · rw [if_pos h0, if_pos h0, pf_Mo_sign, Option.bind_some]
    dsimp only
    rw [nw_u2, nw_set_set, nw_s0, nw_s1, k61]
  · rw [if_neg h0, if_neg h0]
    by_cases h1 : c = 0
    · rw [if_pos h1, if_pos h1, k61]
    · rw [if_neg h1, if_neg h1, nw_u2, nw_set_set, nw_s0, nw_s1, k61]
theorem pf_Mo_result (a b c : Int32) (g : wm_Sg) : mf_Mo_result 186 a b c g = some (nw_set g (a, b, c)) := by
  unfold mf_Mo_result
  rw [nw_u3]
theorem pf_Mo_take {v : Nat} (hv : v < 4) (g : wm_Sg) : mf_Mo_take 186 (nI v) g = some (kf_set g v (nw_at g)) := by
  unfold mf_Mo_take
  rw [if_neg (mb_11 hv), if_neg (mb_12 hv), if_neg (mb_13 hv), mr_11, mr_12, mr_13, nI_clamp (by omega), wm_u_ne _ _ _ (show (186 : Nat) ≠ 195 by decide), wm_u_ne _ _ _ (show (186 : Nat) ≠ 196 by decide), wm_u_ne _ _ _ (show (186 : Nat) ≠ 195 by decide)]
  rfl
/-- the facts at hand -/
def kf_R (g : wm_Sg) (f : sv_F) : Prop := ∀ v, v < 4 → kf_at g v = f v
theorem ft_cut_ok {f : ft_T} (h : ft_ok f) : fc_cut f.2.1 f.1 = f.2.1 := by
  obtain ⟨k, s, h1, h2, h3, h4, h5, h6, -⟩ := h
  rw [h1]; exact ft_cut_self h3 h6
theorem pf_Mo_only {v : Nat} (hv : v < 4) {f : sv_F} {g : wm_Sg} (hf : kf_R g f) (ok : ft_ok (f v)) (m : Int32) : ∃ g', mf_Mo_only 186 (nI v) m g = some (b_i (sv_keep f v m).isSome, g') ∧ mo_f1 g g' ∧ ∀ c, sv_keep f v m = some c → kf_R g' c := by
  have e := hf v hv
  have e1 : g 195 v = (f v).1 := congrArg Prod.fst e
  have e2 : g 196 v = (f v).2.1 := congrArg (fun z => z.2.1) e
  have e3 : g 197 v = (f v).2.2 := congrArg (fun z => z.2.2) e
  unfold mf_Mo_only
  rw [if_neg (mb_11 hv), if_neg (mb_12 hv), if_neg (mb_13 hv), mr_11, mr_12, mr_13, nI_clamp (by omega), e1, e2, e3, pf_Mo_result, Option.bind_some, pf_Mo_reduced, Option.bind_some]
  dsimp only
  rw [nw_s0, nw_s1, nw_s2, nw_set_set]
  dsimp only
  rw [ft_cut_ok ok]
  rw [show ft_red ((f v).1, (f v).2.1, (f v).2.2 &&& m) = ft_keep (f v) m from rfl]
  unfold sv_keep
  by_cases h : (ft_keep (f v) m).2.2 = 0
  · rw [if_pos h, decide_eq_false (fun q => q h), if_pos (show b_i false = 0 from rfl)]
    exact ⟨_, rfl, mo_f1_nw g _, fun c q => by cases q⟩
  · rw [if_neg h, decide_eq_true h, if_neg (by decide), pf_Mo_take hv, Option.bind_some, nw_set_at]
    refine ⟨_, rfl, mo_f1_trans (mo_f1_nw g _) (mo_f1_kf _ _ _), fun c q w hw => ?_⟩
    cases q
    rw [kf_set_at, kf_nw]
    unfold sv_up
    by_cases e4 : w = v
    · rw [if_pos e4, if_pos e4]
    · rw [if_neg e4, if_neg e4]; exact hf w hw
def ps_v (o x y : Int32) : Int32 := ((mf_Mo_pairSigns o x y (fun _ _ => 0)).getD (0, fun _ _ => 0)).1
theorem pf_Mo_pairSigns (o x y : Int32) (g : wm_Sg) : mf_Mo_pairSigns o x y g = some (ps_v o x y, g) := by
  unfold ps_v mf_Mo_pairSigns mf_Mo_pairSigns_50 mf_Mo_pairSigns_56 mf_Mo_pairSigns_71 mf_Mo_sumSigns mf_Mo_sumSigns_28 mf_Mo_sumSigns_30 mf_Mo_lessSigns mf_Mo_lessSigns_22 mf_Mo_lessSigns_34 mf_Mo_partSigns mf_Mo_partSigns_20 mf_Mo_partSigns_31
  repeat' split
  all_goals rfl
def ms_v (o x y : Int32) : Nat → Int32
  | 0 => 0
  | n + 1 => if (x >>> (nI (n / 3) &&& 31)) &&& 1 = 1 ∧ (y >>> (nI (n % 3) &&& 31)) &&& 1 = 1 then ms_v o x y n ||| ps_v o ((1 : Int32) <<< (nI (n / 3) &&& 31)) ((1 : Int32) <<< (nI (n % 3) &&& 31)) else ms_v o x y n
theorem ms_in (K : Int32 × Int32 × wm_Sg → Option (Int32 × wm_Sg)) (o x y : Int32) (g : wm_Sg) {i : Nat} (hi : i < 3) : ∀ (k j : Nat), j + k = 3 → ∀ f : Nat, lp_it (mf_Mo_signsBy_15 K o x y (nI i)) (f + k + 1) (ms_v o x y (3 * i + j), nI j, g) = K (ms_v o x y (3 * i + 3), nI (i + 1), g)
  | 0, j, hj, f => by
    have e : j = 3 := by omega
    subst e
    show mf_Mo_signsBy_15 K o x y (nI i) _ _ = _
    unfold mf_Mo_signsBy_15
    dsimp only
    rw [if_pos (by decide), nI_1]
  | k + 1, j, hj, f => by
    have ih := ms_in K o x y g hi k (j + 1) (by omega) f
    show mf_Mo_signsBy_15 K o x y (nI i) (lp_it (mf_Mo_signsBy_15 K o x y (nI i)) (f + k + 1)) _ = _
    generalize lp_it (mf_Mo_signsBy_15 K o x y (nI i)) (f + k + 1) = Kf at ih ⊢
    unfold mf_Mo_signsBy_15 mf_Mo_signsBy_45 mf_Mo_signsBy_46 mf_Mo_signsBy_73
    dsimp only
    have hn : ¬ (3 : Int32) ≤ nI j := n_nle (a := 3) (by decide) (by omega) (by omega)
    have e1 : (3 * i + j) / 3 = i := by omega
    have e2 : (3 * i + j) % 3 = j := by omega
    have hms : ms_v o x y (3 * i + (j + 1)) = if (x >>> (nI i &&& 31)) &&& 1 = 1 ∧ (y >>> (nI j &&& 31)) &&& 1 = 1 then ms_v o x y (3 * i + j) ||| ps_v o ((1 : Int32) <<< (nI i &&& 31)) ((1 : Int32) <<< (nI j &&& 31)) else ms_v o x y (3 * i + j) := by
      show (if (x >>> (nI ((3 * i + j) / 3) &&& 31)) &&& 1 = 1 ∧ (y >>> (nI ((3 * i + j) % 3) &&& 31)) &&& 1 = 1 then ms_v o x y (3 * i + j) ||| ps_v o ((1 : Int32) <<< (nI ((3 * i + j) / 3) &&& 31)) ((1 : Int32) <<< (nI ((3 * i + j) % 3) &&& 31)) else ms_v o x y (3 * i + j)) = _
      rw [e1, e2]
    rw [if_neg hn]
    by_cases c1 : (x >>> (nI i &&& 31)) &&& 1 = 1
    · rw [if_pos c1]
      by_cases c2 : (y >>> (nI j &&& 31)) &&& 1 = 1
      · rw [if_pos c2, if_neg (show ¬ (1 : Int32) = 0 by decide), pf_Mo_pairSigns, Option.bind_some, nI_1]
        dsimp only
        rw [if_pos ⟨c1, c2⟩] at hms
        rw [← hms]; exact ih
      · rw [if_neg c2, if_pos (rfl : (0 : Int32) = 0), nI_1]
        rw [if_neg (fun z => c2 z.2)] at hms
        rw [← hms]; exact ih
    · rw [if_neg c1, if_pos (rfl : (0 : Int32) = 0), nI_1]
      rw [if_neg (fun z => c1 z.1)] at hms
      rw [← hms]; exact ih
theorem ms_out (o x y : Int32) (g : wm_Sg) : ∀ (k i : Nat), i + k = 3 → ∀ f : Nat, lp_it (mf_Mo_signsBy_6 o x y) (f + k + 1) (ms_v o x y (3 * i), nI i, g) = some (ms_v o x y 9, g)
  | 0, i, hi, f => by
    have e : i = 3 := by omega
    subst e
    show mf_Mo_signsBy_6 o x y _ _ = _
    unfold mf_Mo_signsBy_6
    dsimp only
    rw [if_pos (by decide)]
  | k + 1, i, hi, f => by
    have ih := ms_out o x y g k (i + 1) (by omega) f
    show mf_Mo_signsBy_6 o x y (lp_it (mf_Mo_signsBy_6 o x y) (f + k + 1)) _ = _
    generalize lp_it (mf_Mo_signsBy_6 o x y) (f + k + 1) = Kf at ih ⊢
    unfold mf_Mo_signsBy_6
    dsimp only
    have hn : ¬ (3 : Int32) ≤ nI i := n_nle (a := 3) (by decide) (by omega) (by omega)
    rw [if_neg hn]
    have := ms_in Kf o x y g (i := i) (by omega) 3 0 rfl 2096
    rw [show 3 * i + 0 = 3 * i from rfl, show nI 0 = 0 from rfl] at this
    rw [show (2100 : Nat) = 2096 + 3 + 1 from rfl, this, show 3 * i + 3 = 3 * (i + 1) by omega]
    exact ih
set_option maxRecDepth 20000 in
theorem ms_eq : ∀ k, k < 4 → ∀ s, s < 8 → ∀ t, t < 8 → ms_v (nI (k + 2)) (nI s) (nI t) 9 = fc_rs (fc_ti (nI (k + 2))) (nI s) (nI t) 9 := by decide +kernel
theorem pf_Mo_signsBy {o : Int32} (ho : o = 2 ∨ o = 3 ∨ o = 4 ∨ o = 5) {s t : Nat} (hs : s < 8) (ht : t < 8) (g : wm_Sg) : mf_Mo_signsBy 186 o (nI s) (nI t) g = some (fc_rs (fc_ti o) (nI s) (nI t) 9, g) := by
  have e : ms_v o (nI s) (nI t) 9 = fc_rs (fc_ti o) (nI s) (nI t) 9 := by
    rcases ho with rfl | rfl | rfl | rfl
    · exact ms_eq 0 (by decide) s hs t ht
    · exact ms_eq 1 (by decide) s hs t ht
    · exact ms_eq 2 (by decide) s hs t ht
    · exact ms_eq 3 (by decide) s hs t ht
  rw [← e]
  exact ms_out o (nI s) (nI t) g 3 0 rfl 2096
theorem pf_Mo_divided {x y : Int32} (h : y ≠ 0) (g : wm_Sg) : mf_Mo_divided x y g = some (x / y, g) := by
  unfold mf_Mo_divided mf_Mo_divided_13
  by_cases e : y = -1
  · rw [if_pos e, e, dv_m1]
  · rw [if_neg e, if_neg h]
theorem ft_res_eq2 {f h : ft_T} (hf : ft_ok f) (hh : ft_ok h) (o : Int32) : ft_res o f h = ft_red (fc_kb o f h, fc_cut (fc_calc o f.2.1 h.2.1) (fc_kb o f h), fc_rs (fc_ti o) f.2.2 h.2.2 9) := by
  obtain ⟨k, s, h1, h2, h3, h4, h5, -⟩ := hf
  obtain ⟨j, t, g1, g2, g3, g4, g5, -⟩ := hh
  have hti := fc_ti_lt o
  rw [ft_res_eq h1 g1 h2 g2 h3 g3 h5 g5, fc_kb_eq h1 g1 (by omega) (by omega), h2, g2, (rs_n_eq _ hti s h5 t g5).1]
/-- the bits of a product, as the reference tells them -/
theorem pb_eq {f h : ft_T} (hf : ft_ok f) (hh : ft_ok h) : (if fc_min (fc_min (f.1 + fc_tz h.2.1) (h.1 + fc_tz f.2.1)) (f.1 + h.1) ≤ (31 : Int32) then (if fc_min (fc_min (f.1 + fc_tz h.2.1) (h.1 + fc_tz f.2.1)) (f.1 + h.1) ≤ (16 : Int32) then fc_min (fc_min (f.1 + fc_tz h.2.1) (h.1 + fc_tz f.2.1)) (f.1 + h.1) else 16) else 32) = fc_pb f h := by
  obtain ⟨k, s, h1, h2, h3, -⟩ := hf
  obtain ⟨j, t, g1, g2, g3, -⟩ := hh
  have t1 := (tz_spec f.2.1).1
  have t2 := (tz_spec h.2.1).1
  unfold fc_pb fc_tz
  rw [h1, g1, nI_add, nI_add, nI_add, fc_min_n (a := k + tz_n h.2.1) (by omega) (by omega), fc_min_n (by omega) (by omega), fc_min_n (a := k + j) (by omega) (by omega)]
  have e : min (min (k + tz_n h.2.1) (j + tz_n f.2.1)) (k + j) = min (k + j) (min (k + tz_n h.2.1) (j + tz_n f.2.1)) := Nat.min_comm _ _
  rw [e]
  generalize hM : min (k + j) (min (k + tz_n h.2.1) (j + tz_n f.2.1)) = M
  have hMl : M < 2 ^ 31 := by omega
  by_cases c : M ≤ 31
  · rw [if_pos (show nI M ≤ (31 : Int32) from n_le (b := 31) hMl (by decide) c), if_neg (show ¬ (32 : Int32) ≤ nI M from n_nle (a := 32) (by decide) hMl (by omega))]
    rw [show fc_min 16 (nI M) = nI (min 16 M) from fc_min_n (a := 16) (by decide) hMl]
    by_cases c2 : M ≤ 16
    · rw [if_pos (show nI M ≤ (16 : Int32) from n_le (b := 16) hMl (by decide) c2), Nat.min_eq_right c2]
    · rw [if_neg (show ¬ nI M ≤ (16 : Int32) from n_nle (b := 16) hMl (by decide) (by omega)), Nat.min_eq_left (by omega)]; rfl
  · rw [if_neg (show ¬ nI M ≤ (31 : Int32) from n_nle (b := 31) hMl (by decide) (by omega)), if_pos (show (32 : Int32) ≤ nI M from n_le (a := 32) (by decide) hMl (by omega))]
theorem kb_2 (f h : ft_T) : fc_kb 2 f h = fc_min f.1 h.1 := by
  unfold fc_kb fc_ob
  rw [if_neg (by decide), if_neg (fun z => absurd z.1 (by decide))]
theorem kb_3 (f h : ft_T) : fc_kb 3 f h = fc_min f.1 h.1 := by
  unfold fc_kb fc_ob
  rw [if_neg (by decide), if_neg (fun z => absurd z.1 (by decide))]
theorem kb_4 (f h : ft_T) : fc_kb 4 f h = fc_pb f h := by
  unfold fc_kb
  rw [if_pos rfl]
theorem ca_2 (x y : Int32) : fc_calc 2 x y = x + y := by
  unfold fc_calc
  rw [if_pos rfl]
theorem ca_3 (x y : Int32) : fc_calc 3 x y = x - y := by
  unfold fc_calc
  rw [if_neg (by decide), if_pos rfl]
theorem ca_4 (x y : Int32) : fc_calc 4 x y = x * y := by
  unfold fc_calc
  rw [if_neg (by decide), if_neg (by decide), if_pos rfl]
theorem pf_Mo_reckon {o : Int32} {b c : Nat} (hb : b < 4) (hc : c < 4) {f : sv_F} {g : wm_Sg} (hf : kf_R g f) (okb : ft_ok (f b)) (okc : ft_ok (f c)) (ho : o = 2 ∨ o = 3 ∨ o = 4 ∨ (o = 5 ∧ (f c).2.2 &&& 2 = 0)) : mf_Mo_reckon 186 o (nI b) (nI c) g = some (1, nw_set g (ft_res o (f b) (f c))) := by
  have eb := hf b hb
  have ec := hf c hc
  have b1 : g 195 b = (f b).1 := congrArg Prod.fst eb
  have b2 : g 196 b = (f b).2.1 := congrArg (fun z => z.2.1) eb
  have b3 : g 197 b = (f b).2.2 := congrArg (fun z => z.2.2) eb
  have c1 : g 195 c = (f c).1 := congrArg Prod.fst ec
  have c2 : g 196 c = (f c).2.1 := congrArg (fun z => z.2.1) ec
  have c3 : g 197 c = (f c).2.2 := congrArg (fun z => z.2.2) ec
  have okr := ft_res_ok okb okc ho
  have hne : ¬ (ft_res o (f b) (f c)).2.2 = 0 := by
    obtain ⟨k, s, -, h2, -, h4, h5, -⟩ := okr
    rw [h2]
    exact fun q => by have := (nI_eq (b := 0) (by omega) (by decide)).mp q; omega
  have fin : ∀ x y : Int32, (x, fc_cut y x, fc_rs (fc_ti o) (f b).2.2 (f c).2.2 9) = (fc_kb o (f b) (f c), fc_cut (fc_calc o (f b).2.1 (f c).2.1) (fc_kb o (f b) (f c)), fc_rs (fc_ti o) (f b).2.2 (f c).2.2 9) → mf_Mo_reckon_272 186 (nw_set g (x, y, fc_rs (fc_ti o) (f b).2.2 (f c).2.2 9)) = some (1, nw_set g (ft_res o (f b) (f c))) := by
    intro x y e
    unfold mf_Mo_reckon_272
    rw [pf_Mo_reduced, Option.bind_some, nw_s0, nw_s1, nw_s2, nw_set_set]
    dsimp only
    rw [e, ← ft_res_eq2 okb okc, decide_eq_true hne, if_pos (show b_i true = 0 ∨ b_i true = 1 from Or.inr rfl), show b_i true = 1 from rfl]
  have ho4 : o = 2 ∨ o = 3 ∨ o = 4 ∨ o = 5 := by
    rcases ho with h | h | h | h
    · exact Or.inl h
    · exact Or.inr (Or.inl h)
    · exact Or.inr (Or.inr (Or.inl h))
    · exact Or.inr (Or.inr (Or.inr h.1))
  have hsb : mf_Mo_signsBy 186 o (f b).2.2 (f c).2.2 g = some (fc_rs (fc_ti o) (f b).2.2 (f c).2.2 9, g) := by
    obtain ⟨k, s, -, h2, -, h4, h5, -⟩ := okb
    obtain ⟨j, t, -, g2, -, g4, g5, -⟩ := okc
    rw [h2, g2]; exact pf_Mo_signsBy ho4 h5 g5 g
  unfold mf_Mo_reckon
  rw [if_neg (mb_11 hb), if_neg (mb_11 hc), mr_11, mr_12, mr_13, nI_clamp (by omega), nI_clamp (by omega), b1, c1, pf_Mo_least, Option.bind_some]
  dsimp only
  have nb : ∀ j n, sh_n j = n → b < n → ¬ (nI b < 0 ∨ sh_n j ≤ b) := fun j n e h z => by rcases z with z | z; exact nI_pos (n := b) (by omega) z; omega
  have nc : ∀ j n, sh_n j = n → c < n → ¬ (nI c < 0 ∨ sh_n j ≤ c) := fun j n e h z => by rcases z with z | z; exact nI_pos (n := c) (by omega) z; omega
  have n195 : sh_n 195 = 4 := by decide +kernel
  have n196 : sh_n 196 = 4 := by decide +kernel
  have n197 : sh_n 197 = 4 := by decide +kernel
  rw [if_neg (nb 197 4 n197 hb), if_neg (nc 197 4 n197 hc), b3, c3, hsb, Option.bind_some]
  dsimp only
  simp only [b2, c2]
  rcases ho with rfl | rfl | rfl | ⟨rfl, hz⟩
  · rw [if_pos rfl, if_neg (nb 196 4 n196 hb), if_neg (nc 196 4 n196 hc), pf_Mo_result, Option.bind_some]
    exact fin _ _ (by rw [kb_2, ca_2])
  · rw [if_neg (by decide), if_pos rfl, if_neg (nb 196 4 n196 hb), if_neg (nc 196 4 n196 hc), pf_Mo_result, Option.bind_some]
    exact fin _ _ (by rw [kb_3, ca_3])
  · rw [if_neg (by decide), if_neg (by decide), if_pos rfl, if_neg (nb 195 4 n195 hb), if_neg (nc 196 4 n196 hc), pf_Mo_zeros, Option.bind_some]
    dsimp only
    rw [if_neg (nc 195 4 n195 hc), if_neg (nb 196 4 n196 hb), b2, pf_Mo_zeros, Option.bind_some]
    dsimp only
    rw [b1, c1, pf_Mo_least, Option.bind_some]
    dsimp only
    rw [if_neg (nb 195 4 n195 hb), if_neg (nc 195 4 n195 hc), b1, c1, pf_Mo_least, Option.bind_some]
    dsimp only
    have k187 : ∀ x : Int32, x = fc_pb (f b) (f c) → mf_Mo_reckon_187 186 (nI b) (nI c) (fc_rs (fc_ti 4) (f b).2.2 (f c).2.2 9) x 186 g = some (1, nw_set g (ft_res 4 (f b) (f c))) := by
      intro x hx
      unfold mf_Mo_reckon_187
      rw [mr_12, nI_clamp (by omega), nI_clamp (by omega), if_neg (nb 196 4 n196 hb), if_neg (nc 196 4 n196 hc), b2, c2, pf_Mo_result, Option.bind_some]
      exact fin _ _ (by rw [hx, kb_4, ca_4])
    have hpb := pb_eq okb okc
    generalize fc_min (fc_min ((f b).1 + fc_tz (f c).2.1) ((f c).1 + fc_tz (f b).2.1)) ((f b).1 + (f c).1) = M at hpb ⊢
    by_cases d1 : M ≤ (31 : Int32)
    · rw [if_pos d1] at hpb ⊢
      by_cases d2 : M ≤ (16 : Int32)
      · rw [if_pos d2] at hpb ⊢; exact k187 _ hpb
      · rw [if_neg d2] at hpb ⊢; exact k187 _ hpb
    · rw [if_neg d1] at hpb ⊢; exact k187 _ hpb
  · rw [if_neg (by decide), if_neg (by decide), if_neg (by decide)]
    have kb5 : fc_kb 5 (f b) (f c) = if fc_min (f b).1 (f c).1 = 32 then 32 else 0 := by
      unfold fc_kb fc_ob
      rw [if_neg (by decide)]
      by_cases e : fc_min (f b).1 (f c).1 = 32
      · rw [if_neg (fun z => z.2 e), if_pos e, e]
      · rw [if_pos ⟨rfl, e⟩, if_neg e]
    have k243 : ∀ (z : Int32), mf_Mo_reckon_267 186 (fc_rs (fc_ti 5) (f b).2.2 (f c).2.2 9) z (fc_kb 5 (f b) (f c)) 186 g = mf_Mo_reckon_272 186 (nw_set g (fc_kb 5 (f b) (f c), z, fc_rs (fc_ti 5) (f b).2.2 (f c).2.2 9)) := by
      intro z
      unfold mf_Mo_reckon_267
      rw [pf_Mo_result, Option.bind_some]
    by_cases e : fc_min (f b).1 (f c).1 = 32
    · rw [if_pos e, if_neg (nc 196 4 n196 hc)]
      have hr : (f c).2.1 ≠ 0 := by
        obtain ⟨k, s, h1, h2, h3, h4, h5, h6, h7, -⟩ := okb
        obtain ⟨j, t, g1, g2, g3, g4, g5, g6, g7, -⟩ := okc
        rw [h1, g1, fc_min_n (by omega) (by omega)] at e
        have e' := (n_32 (by omega)).mp e
        intro q
        have q2 := (ft_z0 g5 (g7 (by omega))).mpr q
        rw [g2, q2] at hz
        exact absurd hz (by decide)
      rw [if_neg hr]
      unfold mf_Mo_reckon_229 mf_Mo_reckon_243
      rw [if_neg (by decide), if_neg (by decide), mr_12, nI_clamp (by omega), nI_clamp (by omega), if_neg (nb 196 4 n196 hb), if_neg (nc 196 4 n196 hc), b2, c2, pf_Mo_divided hr, Option.bind_some]
      dsimp only
      rw [if_pos e] at kb5
      have := k243 ((f b).2.1 / (f c).2.1)
      rw [kb5] at this
      rw [this]
      refine fin _ _ ?_
      rw [kb5]
      have hcalc : fc_calc 5 (f b).2.1 (f c).2.1 = (f b).2.1 / (f c).2.1 := by
        unfold fc_calc
        rw [if_neg (by decide), if_neg (by decide), if_neg (by decide), if_neg hr]
      rw [hcalc]
    · rw [if_neg e]
      unfold mf_Mo_reckon_228 mf_Mo_reckon_229 mf_Mo_reckon_243
      rw [if_pos rfl, if_pos rfl]
      rw [if_neg e] at kb5
      have := k243 0
      rw [kb5] at this
      rw [this]
      refine fin _ _ ?_
      rw [kb5]
      have : ∀ z : Int32, fc_cut z 0 = 0 := fun z => b_zero (fun i _ => by
        rw [show fc_cut z 0 = fc_cut z (nI 0) from rfl, fc_cut_b (Or.inl (by decide)), decide_eq_false (by omega)]; rfl)
      rw [this, this]
