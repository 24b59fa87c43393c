/-! reducing; what comes of an operation -/
def ft_red (f : ft_T) : ft_T :=
  if (if f.1 = 32 then f.2.2 &&& fc_sg f.2.1 else if f.2.1 = 0 then f.2.2 else f.2.2 &&& (-3)) = 2 then (32, 0, 2)
  else (f.1, f.2.1, if f.1 = 32 then f.2.2 &&& fc_sg f.2.1 else if f.2.1 = 0 then f.2.2 else f.2.2 &&& (-3))
def ft_num (x : Int32) : ft_T := (32, x, fc_sg x)
def ft_any : ft_T := (0, 0, 7)
def ft_keep (f : ft_T) (kept : Int32) : ft_T := ft_red (f.1, f.2.1, f.2.2 &&& kept)
def fc_calc (o x y : Int32) : Int32 := if o = 2 then x + y else if o = 3 then x - y else if o = 4 then x * y else if y = 0 then 0 else x / y
def fc_tab (i j : Nat) : Int32 := match i with
  | 0 => [7, 1, 7, 1, 2, 4, 7, 4, 5].getD j 0
  | 1 => [7, 1, 5, 5, 2, 1, 5, 4, 7].getD j 0
  | 2 => [7, 2, 7, 2, 2, 2, 7, 2, 7].getD j 0
  | _ => [7, 0, 3, 2, 0, 2, 3, 0, 6].getD j 0
/-- the table of an operation -/
def fc_ti (o : Int32) : Nat := if o = 2 then 0 else if o = 3 then 1 else if o = 4 then 2 else 3
/-- the signs that come of the first n pairs -/
def fc_rs (i : Nat) (x y : Int32) : Nat → Int32
  | 0 => 0
  | n + 1 => if (x >>> (nI (n / 3) &&& 31)) &&& (y >>> (nI (n % 3) &&& 31)) &&& 1 = 0 then fc_rs i x y n else fc_rs i x y n ||| fc_tab i n
def fc_pb (f h : ft_T) : Int32 :=
  if 32 ≤ fc_min (f.1 + h.1) (fc_min (f.1 + fc_tz h.2.1) (h.1 + fc_tz f.2.1)) then 32 else fc_min 16 (fc_min (f.1 + h.1) (fc_min (f.1 + fc_tz h.2.1) (h.1 + fc_tz f.2.1)))
def fc_ob (o : Int32) (f h : ft_T) : Int32 := if o = 5 ∧ fc_min f.1 h.1 ≠ 32 then 0 else fc_min f.1 h.1
def fc_kb (o : Int32) (f h : ft_T) : Int32 := if o = 4 then fc_pb f h else fc_ob o f h
def ft_res (o : Int32) (f h : ft_T) : ft_T :=
  ft_red (fc_kb o f h, fc_cut (if fc_kb o f h = 0 then 0 else fc_calc o f.2.1 h.2.1) (fc_kb o f h), fc_rs (fc_ti o) f.2.2 h.2.2 9)
theorem ft_z0 {x : Int32} {s : Nat} (hs : s < 8) (hx : nI s = fc_sg x) : s = 2 ↔ x = 0 := by
  obtain ⟨s0, w1, -, q1, q2, q3⟩ := sg_lt x
  have : s = s0 := (nI_eq (by omega) (by omega)).mp (hx.trans q1)
  rw [this]; exact q3
theorem ft_cut_self {k : Nat} (hk : k ≤ 16 ∨ k = 32) {x : Int32} (h : ∀ i, k ≤ i → bt x i = false) : fc_cut x (nI k) = x := b_ext (fun i _ => by
  rw [fc_cut_b hk]
  rcases Nat.lt_or_ge i k with q | q
  · simp [q]
  · rw [h i q]; simp)
/-- the signs that reducing leaves -/
def rd_s (k : Nat) (x : Int32) (s : Nat) : Nat := if k = 32 then (if x < 0 then s &&& 1 else if x = 0 then s &&& 2 else s &&& 4) else if x = 0 then s else s &&& 5
theorem rd_s_eq {k s : Nat} (hk : k ≤ 32) (hs : s < 8) (x : Int32) : (if nI k = 32 then nI s &&& fc_sg x else if x = 0 then nI s else nI s &&& (-3)) = nI (rd_s k x s) ∧ rd_s k x s < 8 := by
  have e0 : (nI k = 32) ↔ k = 32 := nI_eq (b := 32) (by omega) (by omega)
  have c := (by decide +kernel : ∀ s, s < 8 → (nI s &&& 1 = nI (s &&& 1) ∧ nI s &&& 2 = nI (s &&& 2) ∧ nI s &&& 4 = nI (s &&& 4) ∧ nI s &&& (-3) = nI (s &&& 5)) ∧ (s &&& 1) < 8 ∧ (s &&& 2) < 8 ∧ (s &&& 4) < 8 ∧ (s &&& 5) < 8) s hs
  unfold rd_s fc_sg
  by_cases h : k = 32
  · rw [if_pos h, if_pos (e0.mpr h)]
    by_cases h1 : x < 0
    · rw [if_pos h1, if_pos h1]; exact ⟨c.1.1, c.2.1⟩
    · rw [if_neg h1, if_neg h1]
      by_cases h2 : x = 0
      · rw [if_pos h2, if_pos h2]; exact ⟨c.1.2.1, c.2.2.1⟩
      · rw [if_neg h2, if_neg h2]; exact ⟨c.1.2.2.1, c.2.2.2.1⟩
  · rw [if_neg h, if_neg (fun q => h (e0.mp q))]
    by_cases h2 : x = 0
    · rw [if_pos h2, if_pos h2]; exact ⟨rfl, hs⟩
    · rw [if_neg h2, if_neg h2]; exact ⟨c.1.2.2.2, c.2.2.2.2⟩
theorem ft_red_eq {k s : Nat} (hk : k ≤ 32) (hs : s < 8) (x : Int32) : ft_red (nI k, x, nI s) = if rd_s k x s = 2 then (32, 0, 2) else (nI k, x, nI (rd_s k x s)) := by
  obtain ⟨e, hlt⟩ := rd_s_eq hk hs x
  unfold ft_red
  dsimp only
  rw [e]
  by_cases h : rd_s k x s = 2
  · rw [if_pos h, if_pos (by rw [h]; rfl)]
  · rw [if_neg h, if_neg (show ¬ nI (rd_s k x s) = 2 from fun q => h ((nI_eq (b := 2) (by omega) (by decide)).mp q))]
theorem ft_zero_ok : ft_ok (32, 0, 2) := ⟨32, 2, rfl, rfl, Or.inr rfl, by decide, by decide, fun i _ => b_0 i, fun _ => rfl, fun h => absurd rfl h, fun _ => rfl⟩
theorem ft_red_ok {k s : Nat} (hk : k ≤ 16 ∨ k = 32) (hs : s < 8) {x : Int32} (hx : ∀ i, k ≤ i → bt x i = false) (hne : rd_s k x s ≠ 0) : ft_ok (ft_red (nI k, x, nI s)) := by
  rw [ft_red_eq (by omega) hs]
  obtain ⟨-, hlt⟩ := rd_s_eq (k := k) (by omega) hs x
  by_cases h : rd_s k x s = 2
  · rw [if_pos h]; exact ft_zero_ok
  · rw [if_neg h]
    refine ⟨k, rd_s k x s, rfl, rfl, hk, Nat.pos_of_ne_zero hne, hlt, hx, fun e => ?_, fun e e0 => ?_, fun e => absurd e h⟩
    · show nI (rd_s k x s) = fc_sg x
      unfold rd_s at hne ⊢
      unfold fc_sg
      rw [if_pos e] at hne ⊢
      have c := (by decide +kernel : ∀ s, s < 8 → (s &&& 1 ≠ 0 → s &&& 1 = 1) ∧ (s &&& 2 ≠ 0 → s &&& 2 = 2) ∧ (s &&& 4 ≠ 0 → s &&& 4 = 4)) s hs
      by_cases h1 : x < 0
      · rw [if_pos h1] at hne ⊢; rw [if_pos h1, c.1 hne]; rfl
      · rw [if_neg h1] at hne ⊢; rw [if_neg h1]
        by_cases h2 : x = 0
        · rw [if_pos h2] at hne ⊢; rw [if_pos h2, c.2.1 hne]; rfl
        · rw [if_neg h2] at hne ⊢; rw [if_neg h2, c.2.2 hne]; rfl
    · have e0 : ¬ x = 0 := e0
      show rd_s k x s &&& 2 = 0
      unfold rd_s
      rw [if_neg e, if_neg e0]
      exact (by decide +kernel : ∀ s, s < 8 → (s &&& 5) &&& 2 = 0) s hs
theorem ft_num_ok (x : Int32) : ft_ok (ft_num x) := by
  obtain ⟨s, h1, h2, h3, h4, h5⟩ := sg_lt x
  exact ⟨32, s, rfl, h3, Or.inr rfl, h2, h1, fun i hi => b_big hi, fun _ => h3.symm, fun h => absurd rfl h, fun _ => rfl⟩
theorem ft_num_red (x : Int32) : ft_red (32, x, 7) = ft_num x := by
  have e : (32, x, 7) = ((nI 32, x, nI 7) : ft_T) := rfl
  rw [e, ft_red_eq (by decide) (by decide)]
  unfold rd_s ft_num fc_sg
  rw [if_pos rfl]
  by_cases h1 : x < 0
  · rw [if_pos h1, if_pos h1]; rfl
  · rw [if_neg h1, if_neg h1]
    by_cases h2 : x = 0
    · rw [if_pos h2, if_pos h2, h2]; rfl
    · rw [if_neg h2, if_neg h2]; rfl
theorem ft_any_ok : ft_ok ft_any := ⟨0, 7, rfl, rfl, Or.inl (by decide), by decide, by decide, fun i _ => b_0 i, fun h => (by cases h), fun _ h => absurd rfl h, fun h => by cases h⟩
/-- a fact of which some signs are kept: nothing is left, or a good fact with no other signs -/
theorem ft_keep_ok {f : ft_T} (hf : ft_ok f) {t : Nat} (ht : t < 8) {kept : Int32} (hk : ∀ s, s < 8 → nI s &&& kept = nI (s &&& t)) : ((ft_keep f kept).2.2 = 0) ∨ (ft_ok (ft_keep f kept) ∧ ∃ s, s < 8 ∧ (ft_keep f kept).2.2 = nI s ∧ s &&& t = s) := by
  obtain ⟨k, s, h1, h2, h3, h4, h5, h6, -⟩ := hf
  have hs : (s &&& t) < 8 := (sg_or s h5 t ht).2.2.2
  have e : ft_keep f kept = ft_red (nI k, f.2.1, nI (s &&& t)) := by unfold ft_keep; rw [h1, h2, hk s h5]
  rw [e]
  obtain ⟨-, hlt⟩ := rd_s_eq (k := k) (by omega) hs f.2.1
  by_cases hne : rd_s k f.2.1 (s &&& t) = 0
  · left
    rw [ft_red_eq (by omega) hs, if_neg (by omega), hne]; rfl
  · right
    refine ⟨ft_red_ok h3 hs h6 hne, rd_s k f.2.1 (s &&& t), hlt, ?_, ?_⟩
    · rw [ft_red_eq (by omega) hs]
      by_cases h : rd_s k f.2.1 (s &&& t) = 2
      · rw [if_pos h, h]; rfl
      · rw [if_neg h]
    · have c := (by decide +kernel : ∀ s, s < 8 → ∀ t, t < 8 → (((s &&& t) &&& 1) &&& t = (s &&& t) &&& 1) ∧ (((s &&& t) &&& 2) &&& t = (s &&& t) &&& 2) ∧ (((s &&& t) &&& 4) &&& t = (s &&& t) &&& 4) ∧ (((s &&& t) &&& 5) &&& t = (s &&& t) &&& 5) ∧ ((s &&& t) &&& t = s &&& t)) s h5 t ht
      unfold rd_s
      by_cases q : k = 32
      · rw [if_pos q]
        by_cases q1 : f.2.1 < 0
        · rw [if_pos q1]; exact c.1
        · rw [if_neg q1]
          by_cases q2 : f.2.1 = 0
          · rw [if_pos q2]; exact c.2.1
          · rw [if_neg q2]; exact c.2.2.1
      · rw [if_neg q]
        by_cases q2 : f.2.1 = 0
        · rw [if_pos q2]; exact c.2.2.2.2
        · rw [if_neg q2]; exact c.2.2.2.1
/-- a good fact is reduced -/
theorem ft_red_self {f : ft_T} (hf : ft_ok f) : ft_red f = f := by
  obtain ⟨k, s, h1, h2, h3, h4, h5, h6, h7, h8, h9⟩ := hf
  have e : f = (nI k, f.2.1, nI s) := by rw [← h1, ← h2]
  have hr : rd_s k f.2.1 s = s := by
    unfold rd_s
    by_cases q : k = 32
    · rw [if_pos q]
      have c := h7 q
      unfold fc_sg at c
      by_cases q1 : f.2.1 < 0
      · rw [if_pos q1] at c ⊢
        have : s = 1 := (nI_eq (b := 1) (by omega) (by omega)).mp c
        rw [this]; rfl
      · rw [if_neg q1] at c ⊢
        by_cases q2 : f.2.1 = 0
        · rw [if_pos q2] at c ⊢
          have : s = 2 := (nI_eq (b := 2) (by omega) (by omega)).mp c
          rw [this]; rfl
        · rw [if_neg q2] at c ⊢
          have : s = 4 := (nI_eq (b := 4) (by omega) (by omega)).mp c
          rw [this]; rfl
    · rw [if_neg q]
      by_cases q2 : f.2.1 = 0
      · rw [if_pos q2]
      · rw [if_neg q2]
        exact (by decide +kernel : ∀ s, s < 8 → s &&& 2 = 0 → s &&& 5 = s) s h5 (h8 q q2)
  rw [e, ft_red_eq (by omega) h5]
  rw [show rd_s k (nI k, f.2.1, nI s).2.1 s = rd_s k f.2.1 s from rfl, hr]
  by_cases q : s = 2
  · have q1 := h9 q
    have q2 := (ft_z0 h5 (h7 q1)).mp q
    rw [if_pos q, q, q1]
    show (32, 0, 2) = (nI 32, f.2.1, nI 2)
    rw [q2]; rfl
  · rw [if_neg q]
/-! signs of sums, differences, quotients -/
theorem sg_toInt (x : Int32) : (x < 0 ↔ x.toInt < 0) ∧ (x = 0 ↔ x.toInt = 0) := by
  refine ⟨Int32.lt_iff_toInt_lt, ⟨fun h => by rw [h]; rfl, fun h => Int32.toInt_inj.mp (h.trans rfl)⟩⟩
theorem sg_rng (x : Int32) : -2147483648 ≤ x.toInt ∧ x.toInt ≤ 2147483647 := ⟨Int32.le_toInt x, Int32.toInt_le x⟩
theorem bm_x (z : Int) : ∃ q : Int, z.bmod (2 ^ 32) = z - 4294967296 * q ∧ -2147483648 ≤ z.bmod (2 ^ 32) ∧ z.bmod (2 ^ 32) ≤ 2147483647 := by
  rw [Int.bmod_def]
  have e : ((2 ^ 32 : Nat) : Int) = 4294967296 := by decide
  rw [e]
  split
  · exact ⟨z / 4294967296, by omega, by omega, by omega⟩
  · exact ⟨z / 4294967296 + 1, by omega, by omega, by omega⟩
theorem bm_id {z : Int} (h1 : -2147483648 ≤ z) (h2 : z ≤ 2147483647) : z.bmod (2 ^ 32) = z := by
  obtain ⟨q, e, l, u⟩ := bm_x z
  omega
theorem sg_cases {x : Int32} {s : Nat} (hs : s < 8) (hx : nI s = fc_sg x) : (s = 1 ∧ x.toInt < 0) ∨ (s = 2 ∧ x.toInt = 0) ∨ (s = 4 ∧ 0 < x.toInt) := by
  obtain ⟨t1, t2⟩ := sg_toInt x
  unfold fc_sg at hx
  by_cases h : x < 0
  · rw [if_pos h] at hx
    exact Or.inl ⟨(nI_eq (b := 1) (by omega) (by omega)).mp hx, t1.mp h⟩
  · rw [if_neg h] at hx
    by_cases h0 : x = 0
    · rw [if_pos h0] at hx
      exact Or.inr (Or.inl ⟨(nI_eq (b := 2) (by omega) (by omega)).mp hx, t2.mp h0⟩)
    · rw [if_neg h0] at hx
      refine Or.inr (Or.inr ⟨(nI_eq (b := 4) (by omega) (by omega)).mp hx, ?_⟩)
      have a1 : ¬ x.toInt < 0 := fun q => h (t1.mpr q)
      have a2 : ¬ x.toInt = 0 := fun q => h0 (t2.mpr q)
      omega
theorem rd_ne {x : Int32} {u : Nat} (h1 : x.toInt < 0 → u &&& 1 ≠ 0) (h2 : x.toInt = 0 → u &&& 2 ≠ 0) (h3 : 0 < x.toInt → u &&& 4 ≠ 0) : rd_s 32 x u ≠ 0 := by
  obtain ⟨t1, t2⟩ := sg_toInt x
  unfold rd_s
  rw [if_pos rfl]
  by_cases h : x < 0
  · rw [if_pos h]; exact h1 (t1.mp h)
  · rw [if_neg h]
    by_cases h0 : x = 0
    · rw [if_pos h0]; exact h2 (t2.mp h0)
    · rw [if_neg h0]
      refine h3 ?_
      have a1 : ¬ x.toInt < 0 := fun q => h (t1.mpr q)
      have a2 : ¬ x.toInt = 0 := fun q => h0 (t2.mpr q)
      omega
def rs_n (i s t : Nat) : Nat := (fc_rs i (nI s) (nI t) 9).toNatClampNeg
set_option maxRecDepth 20000 in
theorem rs_n_eq : ∀ i, i < 4 → ∀ s, s < 8 → ∀ t, t < 8 → fc_rs i (nI s) (nI t) 9 = nI (rs_n i s t) ∧ rs_n i s t < 8 := by decide +kernel
theorem rs_add : rs_n 0 1 1 = 7 ∧ rs_n 0 1 2 = 1 ∧ rs_n 0 1 4 = 7 ∧ rs_n 0 2 1 = 1 ∧ rs_n 0 2 2 = 2 ∧ rs_n 0 2 4 = 4 ∧ rs_n 0 4 1 = 7 ∧ rs_n 0 4 2 = 4 ∧ rs_n 0 4 4 = 5 := by decide +kernel
theorem rs_sub : rs_n 1 1 1 = 7 ∧ rs_n 1 1 2 = 1 ∧ rs_n 1 1 4 = 5 ∧ rs_n 1 2 1 = 5 ∧ rs_n 1 2 2 = 2 ∧ rs_n 1 2 4 = 1 ∧ rs_n 1 4 1 = 5 ∧ rs_n 1 4 2 = 4 ∧ rs_n 1 4 4 = 7 := by decide +kernel
theorem rs_div : rs_n 3 1 1 = 7 ∧ rs_n 3 1 4 = 3 ∧ rs_n 3 2 1 = 2 ∧ rs_n 3 2 4 = 2 ∧ rs_n 3 4 1 = 3 ∧ rs_n 3 4 4 = 6 := by decide +kernel
theorem ad_sg {a b : Int32} {s t : Nat} (hs : s < 8) (ht : t < 8) (ha : nI s = fc_sg a) (hb : nI t = fc_sg b) : rd_s 32 (a + b) (rs_n 0 s t) ≠ 0 := by
  obtain ⟨a1, a2⟩ := sg_rng a
  obtain ⟨b1, b2⟩ := sg_rng b
  obtain ⟨q, e, l, u⟩ := bm_x (a.toInt + b.toInt)
  obtain ⟨c1, c2, c3, c4, c5, c6, c7, c8, c9⟩ := rs_add
  have ex : (a + b).toInt = (a.toInt + b.toInt).bmod (2 ^ 32) := Int32.toInt_add a b
  rcases sg_cases hs ha with ⟨rfl, h1⟩ | ⟨rfl, h1⟩ | ⟨rfl, h1⟩ <;> rcases sg_cases ht hb with ⟨rfl, h2⟩ | ⟨rfl, h2⟩ | ⟨rfl, h2⟩
  · rw [c1]; exact rd_ne (fun _ => by decide) (fun _ => by decide) (fun _ => by decide)
  · rw [c2]; exact rd_ne (fun _ => by decide) (fun z => by omega) (fun z => by omega)
  · rw [c3]; exact rd_ne (fun _ => by decide) (fun _ => by decide) (fun _ => by decide)
  · rw [c4]; exact rd_ne (fun _ => by decide) (fun z => by omega) (fun z => by omega)
  · rw [c5]; exact rd_ne (fun z => by omega) (fun _ => by decide) (fun z => by omega)
  · rw [c6]; exact rd_ne (fun z => by omega) (fun z => by omega) (fun _ => by decide)
  · rw [c7]; exact rd_ne (fun _ => by decide) (fun _ => by decide) (fun _ => by decide)
  · rw [c8]; exact rd_ne (fun z => by omega) (fun z => by omega) (fun _ => by decide)
  · rw [c9]; exact rd_ne (fun _ => by decide) (fun z => by omega) (fun _ => by decide)
theorem sb_sg {a b : Int32} {s t : Nat} (hs : s < 8) (ht : t < 8) (ha : nI s = fc_sg a) (hb : nI t = fc_sg b) : rd_s 32 (a - b) (rs_n 1 s t) ≠ 0 := by
  obtain ⟨a1, a2⟩ := sg_rng a
  obtain ⟨b1, b2⟩ := sg_rng b
  obtain ⟨q, e, l, u⟩ := bm_x (a.toInt - b.toInt)
  obtain ⟨c1, c2, c3, c4, c5, c6, c7, c8, c9⟩ := rs_sub
  have ex : (a - b).toInt = (a.toInt - b.toInt).bmod (2 ^ 32) := Int32.toInt_sub a b
  rcases sg_cases hs ha with ⟨rfl, h1⟩ | ⟨rfl, h1⟩ | ⟨rfl, h1⟩ <;> rcases sg_cases ht hb with ⟨rfl, h2⟩ | ⟨rfl, h2⟩ | ⟨rfl, h2⟩
  · rw [c1]; exact rd_ne (fun _ => by decide) (fun _ => by decide) (fun _ => by decide)
  · rw [c2]; exact rd_ne (fun _ => by decide) (fun z => by omega) (fun z => by omega)
  · rw [c3]; exact rd_ne (fun _ => by decide) (fun z => by omega) (fun _ => by decide)
  · rw [c4]; exact rd_ne (fun _ => by decide) (fun z => by omega) (fun _ => by decide)
  · rw [c5]; exact rd_ne (fun z => by omega) (fun _ => by decide) (fun z => by omega)
  · rw [c6]; exact rd_ne (fun _ => by decide) (fun z => by omega) (fun z => by omega)
  · rw [c7]; exact rd_ne (fun _ => by decide) (fun z => by omega) (fun _ => by decide)
  · rw [c8]; exact rd_ne (fun z => by omega) (fun z => by omega) (fun _ => by decide)
  · rw [c9]; exact rd_ne (fun _ => by decide) (fun _ => by decide) (fun _ => by decide)
theorem td_pp {a b : Int} (ha : 0 ≤ a) (hb : 0 < b) : 0 ≤ a.tdiv b ∧ a.tdiv b ≤ a := by
  rw [Int.tdiv_eq_ediv_of_nonneg ha]
  exact ⟨Int.ediv_nonneg ha (by omega), Int.ediv_le_self _ ha⟩
theorem dv_sg {a b : Int32} {s t : Nat} (hs : s < 8) (ht : t < 8) (ha : nI s = fc_sg a) (hb : nI t = fc_sg b) (hb0 : b ≠ 0) : rd_s 32 (a / b) (rs_n 3 s t) ≠ 0 := by
  obtain ⟨a1, a2⟩ := sg_rng a
  obtain ⟨b1, b2⟩ := sg_rng b
  obtain ⟨c1, c2, c3, c4, c5, c6⟩ := rs_div
  have ex : (a / b).toInt = (a.toInt.tdiv b.toInt).bmod (2 ^ 32) := Int32.toInt_div a b
  have hb1 : ¬ b.toInt = 0 := fun q => hb0 ((sg_toInt b).2.mpr q)
  rcases sg_cases hs ha with ⟨rfl, h1⟩ | ⟨rfl, h1⟩ | ⟨rfl, h1⟩ <;> rcases sg_cases ht hb with ⟨rfl, h2⟩ | ⟨rfl, h2⟩ | ⟨rfl, h2⟩
  · rw [c1]; exact rd_ne (fun _ => by decide) (fun _ => by decide) (fun _ => by decide)
  · exact absurd h2 hb1
  · have k : a.toInt.tdiv b.toInt = -((-a.toInt).tdiv b.toInt) := by rw [Int.neg_tdiv, Int.neg_neg]
    have := td_pp (a := -a.toInt) (b := b.toInt) (by omega) h2
    rw [k, bm_id (by omega) (by omega)] at ex
    rw [c2]; exact rd_ne (fun _ => by decide) (fun _ => by decide) (fun z => by omega)
  · have k : a.toInt.tdiv b.toInt = 0 := by rw [h1, Int.zero_tdiv]
    rw [k, bm_id (by omega) (by omega)] at ex
    rw [c3]; exact rd_ne (fun z => by omega) (fun _ => by decide) (fun z => by omega)
  · exact absurd h2 hb1
  · have k : a.toInt.tdiv b.toInt = 0 := by rw [h1, Int.zero_tdiv]
    rw [k, bm_id (by omega) (by omega)] at ex
    rw [c4]; exact rd_ne (fun z => by omega) (fun _ => by decide) (fun z => by omega)
  · have k : a.toInt.tdiv b.toInt = -(a.toInt.tdiv (-b.toInt)) := by rw [Int.tdiv_neg, Int.neg_neg]
    have := td_pp (a := a.toInt) (b := -b.toInt) (by omega) (by omega)
    rw [k, bm_id (by omega) (by omega)] at ex
    rw [c5]; exact rd_ne (fun _ => by decide) (fun _ => by decide) (fun z => by omega)
  · exact absurd h2 hb1
  · have := td_pp (a := a.toInt) (b := b.toInt) (by omega) h2
    rw [bm_id (by omega) (by omega)] at ex
    rw [c6]; exact rd_ne (fun z => by omega) (fun _ => by decide) (fun _ => by decide)
/-- division by -1, as the reference has it -/
theorem dv_m1 (x : Int32) : x / (-1) = -x := by
  apply Int32.toInt_inj.mp
  have e : (-1 : Int32).toInt = -1 := by decide
  rw [Int32.toInt_div, e, Int.tdiv_neg, Int.tdiv_one]
  exact (Int32.toInt_neg x).symm
/-! the bits of a result -/
def ob_k (o : Int32) (k j : Nat) : Nat := if o = 5 ∧ min k j ≠ 32 then 0 else min k j
def pb_k (k j : Nat) (x y : Int32) : Nat := if 32 ≤ min (k + j) (min (k + tz_n y) (j + tz_n x)) then 32 else min 16 (min (k + j) (min (k + tz_n y) (j + tz_n x)))
def kb_k (o : Int32) (k j : Nat) (x y : Int32) : Nat := if o = 4 then pb_k k j x y else ob_k o k j
theorem fc_kb_eq {f h : ft_T} {k j : Nat} (hf : f.1 = nI k) (hh : h.1 = nI j) (hk : k ≤ 32) (hj : j ≤ 32) (o : Int32) : fc_kb o f h = nI (kb_k o k j f.2.1 h.2.1) := by
  have t1 := (tz_spec f.2.1).1
  have t2 := (tz_spec h.2.1).1
  unfold fc_kb kb_k
  by_cases e : o = 4
  · rw [if_pos e, if_pos e]
    unfold fc_pb pb_k fc_tz
    rw [hf, hh, nI_add, nI_add, nI_add, fc_min_n (a := k + tz_n h.2.1) (by omega) (by omega), fc_min_n (by omega) (by omega)]
    by_cases c : 32 ≤ min (k + j) (min (k + tz_n h.2.1) (j + tz_n f.2.1))
    · rw [if_pos c, if_pos (show (32 : Int32) ≤ _ from (nI_leI (a := 32) (by omega) (by omega)).mpr c)]; rfl
    · rw [if_neg c, if_neg (show ¬ (32 : Int32) ≤ _ from fun q => c ((nI_leI (a := 32) (by omega) (by omega)).mp q))]
      exact fc_min_n (a := 16) (by omega) (by omega)
  · rw [if_neg e, if_neg e]
    unfold fc_ob ob_k
    rw [hf, hh, fc_min_n (by omega) (by omega)]
    have e0 : (nI (min k j) ≠ 32) ↔ min k j ≠ 32 := not_congr (nI_eq (b := 32) (by omega) (by omega))
    by_cases c : o = 5 ∧ min k j ≠ 32
    · rw [if_pos c, if_pos ⟨c.1, e0.mpr c.2⟩]; rfl
    · rw [if_neg c, if_neg (fun q => c ⟨q.1, e0.mp q.2⟩)]
theorem kb_k_in {o : Int32} {k j : Nat} (hk : k ≤ 16 ∨ k = 32) (hj : j ≤ 16 ∨ j = 32) (x y : Int32) : kb_k o k j x y ≤ 16 ∨ kb_k o k j x y = 32 := by
  unfold kb_k
  by_cases e : o = 4
  · rw [if_pos e]
    unfold pb_k
    by_cases c : 32 ≤ min (k + j) (min (k + tz_n y) (j + tz_n x))
    · rw [if_pos c]; exact Or.inr rfl
    · rw [if_neg c]; exact Or.inl (by omega)
  · rw [if_neg e]
    unfold ob_k
    by_cases c : o = 5 ∧ min k j ≠ 32
    · rw [if_pos c]; exact Or.inl (by omega)
    · rw [if_neg c]; omega
theorem fc_cut_0 (z : Int32) {k : Nat} (hk : k ≤ 16 ∨ k = 32) : fc_cut (if nI k = 0 then 0 else z) (nI k) = fc_cut z (nI k) := by
  by_cases e : k = 0
  · subst e
    exact b_ext (fun i _ => by rw [fc_cut_b hk, fc_cut_b hk, decide_eq_false (by omega)]; rfl)
  · rw [if_neg (show ¬ nI k = 0 from fun q => e ((nI_eq (b := 0) (by omega) (by decide)).mp q))]
theorem ft_res_eq {f h : ft_T} {k j s t : Nat} (hf : f.1 = nI k) (hh : h.1 = nI j) (hs : f.2.2 = nI s) (ht : h.2.2 = nI t) (hk : k ≤ 16 ∨ k = 32) (hj : j ≤ 16 ∨ j = 32) (hs8 : s < 8) (ht8 : t < 8) (o : Int32) :
    ft_res o f h = ft_red (nI (kb_k o k j f.2.1 h.2.1), fc_cut (fc_calc o f.2.1 h.2.1) (nI (kb_k o k j f.2.1 h.2.1)), nI (rs_n (fc_ti o) s t)) := by
  have hti : fc_ti o < 4 := by
    unfold fc_ti
    by_cases e2 : o = 2
    · rw [if_pos e2]; decide
    · rw [if_neg e2]
      by_cases e3 : o = 3
      · rw [if_pos e3]; decide
      · rw [if_neg e3]
        by_cases e4 : o = 4
        · rw [if_pos e4]; decide
        · rw [if_neg e4]; decide
  unfold ft_res
  rw [fc_kb_eq hf hh (by omega) (by omega), fc_cut_0 _ (kb_k_in hk hj _ _), hs, ht, (rs_n_eq _ hti s hs8 t ht8).1]
theorem rs_f0 : ∀ s, s < 8 → ∀ t, t < 8 → (0 < s ∧ 0 < t → rs_n 0 s t ≠ 0 ∧ rs_n 1 s t ≠ 0 ∧ rs_n 2 s t ≠ 0) := by decide +kernel
theorem rs_f1 : ∀ s, s < 8 → ∀ t, t < 8 → (0 < s ∧ 0 < t ∧ rs_n 0 s t &&& 5 = 0 → s = 2 ∧ t = 2) := by decide +kernel
theorem rs_f2 : ∀ s, s < 8 → ∀ t, t < 8 → (0 < s ∧ 0 < t ∧ rs_n 1 s t &&& 5 = 0 → s = 2 ∧ t = 2) := by decide +kernel
theorem rs_f3 : ∀ s, s < 8 → ∀ t, t < 8 → (0 < s ∧ 0 < t → rs_n 2 s t = 7 ∨ ((s = 2 ∨ t = 2) ∧ rs_n 2 s t = 2)) := by decide +kernel
theorem rs_f4 : ∀ s, s < 8 → ∀ t, t < 8 → (0 < s ∧ 0 < t ∧ t &&& 2 = 0 → rs_n 3 s t ≠ 0) := by decide +kernel
theorem rs_facts (s : Nat) (hs : s < 8) (t : Nat) (ht : t < 8) (h : 0 < s ∧ 0 < t) : (rs_n 0 s t ≠ 0 ∧ (rs_n 0 s t &&& 5 = 0 → s = 2 ∧ t = 2)) ∧ (rs_n 1 s t ≠ 0 ∧ (rs_n 1 s t &&& 5 = 0 → s = 2 ∧ t = 2)) ∧ (rs_n 2 s t ≠ 0 ∧ (rs_n 2 s t = 7 ∨ (s = 2 ∨ t = 2) ∧ rs_n 2 s t = 2)) ∧ (t &&& 2 = 0 → rs_n 3 s t ≠ 0) :=
  ⟨⟨(rs_f0 s hs t ht h).1, fun q => rs_f1 s hs t ht ⟨h.1, h.2, q⟩⟩, ⟨(rs_f0 s hs t ht h).2.1, fun q => rs_f2 s hs t ht ⟨h.1, h.2, q⟩⟩, ⟨(rs_f0 s hs t ht h).2.2, rs_f3 s hs t ht h⟩, fun q => rs_f4 s hs t ht ⟨h.1, h.2, q⟩⟩
/-- a result is a good fact: 2, 3, 4 of any two, 5 where the second isn't ZERO -/
theorem ft_res_ok {f h : ft_T} (hf : ft_ok f) (hh : ft_ok h) {o : Int32} (ho : o = 2 ∨ o = 3 ∨ o = 4 ∨ (o = 5 ∧ h.2.2 &&& 2 = 0)) : ft_ok (ft_res o f h) := by
  obtain ⟨k, s, h1, h2, h3, h4, h5, h6, h7, h8, h9⟩ := hf
  obtain ⟨j, t, g1, g2, g3, g4, g5, g6, g7, g8, g9⟩ := hh
  rw [ft_res_eq h1 g1 h2 g2 h3 g3 h5 g5]
  have hin := kb_k_in (o := o) h3 g3 f.2.1 h.2.1
  have hcut : ∀ (z : Int32) (i : Nat), kb_k o k j f.2.1 h.2.1 ≤ i → bt (fc_cut z (nI (kb_k o k j f.2.1 h.2.1))) i = false := fun z i hi => by
    rw [fc_cut_b hin, decide_eq_false (by omega)]; rfl
  obtain ⟨r0, r1, r2, r3⟩ := rs_facts s h5 t g5 ⟨h4, g4⟩
  have c32 : ∀ z : Int32, fc_cut z (nI 32) = z := fun z => if_pos rfl
  rcases ho with rfl | rfl | rfl | ⟨rfl, hz⟩
  · have hti : fc_ti 2 = 0 := rfl
    have hcalc : fc_calc 2 f.2.1 h.2.1 = f.2.1 + h.2.1 := rfl
    have hk : kb_k 2 k j f.2.1 h.2.1 = min k j := by
      unfold kb_k ob_k
      rw [if_neg (by decide), if_neg (fun q => absurd q.1 (by decide))]
    rw [hti, hcalc] at *
    refine ft_red_ok hin (rs_n_eq 0 (by decide) s h5 t g5).2 (hcut _) ?_
    rw [hk]
    by_cases e : min k j = 32
    · have e1 : k = 32 := by omega
      have e2 : j = 32 := by omega
      rw [e, c32]
      exact ad_sg h5 g5 (h7 e1) (g7 e2)
    · unfold rd_s
      rw [if_neg e]
      by_cases e0 : fc_cut (f.2.1 + h.2.1) (nI (min k j)) = 0
      · rw [if_pos e0]; exact r0.1
      · rw [if_neg e0]
        intro q
        have := r0.2 q
        have e1 := h9 this.1
        have e2 := g9 this.2
        omega
  · have hti : fc_ti 3 = 1 := rfl
    have hcalc : fc_calc 3 f.2.1 h.2.1 = f.2.1 - h.2.1 := rfl
    have hk : kb_k 3 k j f.2.1 h.2.1 = min k j := by
      unfold kb_k ob_k
      rw [if_neg (by decide), if_neg (fun q => absurd q.1 (by decide))]
    rw [hti, hcalc] at *
    refine ft_red_ok hin (rs_n_eq 1 (by decide) s h5 t g5).2 (hcut _) ?_
    rw [hk]
    by_cases e : min k j = 32
    · have e1 : k = 32 := by omega
      have e2 : j = 32 := by omega
      rw [e, c32]
      exact sb_sg h5 g5 (h7 e1) (g7 e2)
    · unfold rd_s
      rw [if_neg e]
      by_cases e0 : fc_cut (f.2.1 - h.2.1) (nI (min k j)) = 0
      · rw [if_pos e0]; exact r1.1
      · rw [if_neg e0]
        intro q
        have := r1.2 q
        have e1 := h9 this.1
        have e2 := g9 this.2
        omega
  · have hti : fc_ti 4 = 2 := rfl
    have hcalc : fc_calc 4 f.2.1 h.2.1 = f.2.1 * h.2.1 := rfl
    rw [hti, hcalc] at *
    refine ft_red_ok hin (rs_n_eq 2 (by decide) s h5 t g5).2 (hcut _) ?_
    rcases r2.2 with q | ⟨q, q2⟩
    · rw [q]
      unfold rd_s
      by_cases e : kb_k 4 k j f.2.1 h.2.1 = 32
      · rw [if_pos e]
        by_cases e1 : fc_cut (f.2.1 * h.2.1) (nI (kb_k 4 k j f.2.1 h.2.1)) < 0
        · rw [if_pos e1]; decide
        · rw [if_neg e1]
          by_cases e2 : fc_cut (f.2.1 * h.2.1) (nI (kb_k 4 k j f.2.1 h.2.1)) = 0
          · rw [if_pos e2]; decide
          · rw [if_neg e2]; decide
      · rw [if_neg e]
        by_cases e2 : fc_cut (f.2.1 * h.2.1) (nI (kb_k 4 k j f.2.1 h.2.1)) = 0
        · rw [if_pos e2]; decide
        · rw [if_neg e2]; decide
    · -- one of them is 0
      have zero : (k = 32 ∧ f.2.1 = 0) ∨ (j = 32 ∧ h.2.1 = 0) := by
        rcases q with q | q
        · exact Or.inl ⟨h9 q, (ft_z0 h5 (h7 (h9 q))).mp q⟩
        · exact Or.inr ⟨g9 q, (ft_z0 g5 (g7 (g9 q))).mp q⟩
      have hkb : kb_k 4 k j f.2.1 h.2.1 = 32 := by
        unfold kb_k pb_k
        rw [if_pos rfl]
        rcases zero with ⟨e1, e2⟩ | ⟨e1, e2⟩
        · rw [e2, tz_0, if_pos (by omega)]
        · rw [e2, tz_0, if_pos (by omega)]
      have hp : f.2.1 * h.2.1 = 0 := by
        rcases zero with ⟨-, e2⟩ | ⟨-, e2⟩
        · rw [e2, Int32.zero_mul]
        · rw [e2, Int32.mul_zero]
      rw [hkb, c32, hp, q2]
      decide
  · have hti : fc_ti 5 = 3 := rfl
    have hz' : t &&& 2 = 0 := by
      rw [g2] at hz
      exact (by decide +kernel : ∀ t, t < 8 → nI t &&& 2 = 0 → t &&& 2 = 0) t g5 hz
    have hk : kb_k 5 k j f.2.1 h.2.1 = if min k j ≠ 32 then 0 else min k j := by
      unfold kb_k ob_k
      rw [if_neg (by decide)]
      by_cases e : min k j ≠ 32
      · rw [if_pos e, if_pos ⟨rfl, e⟩]
      · rw [if_neg e, if_neg (fun q => e q.2)]
    rw [hti] at *
    refine ft_red_ok hin (rs_n_eq 3 (by decide) s h5 t g5).2 (hcut _) ?_
    rw [hk]
    by_cases e : min k j ≠ 32
    · rw [if_pos e]
      unfold rd_s
      rw [if_neg (by decide), if_pos (b_zero (fun i _ => by rw [fc_cut_b (Or.inl (by decide)), decide_eq_false (by omega)]; rfl))]
      exact r3 hz'
    · rw [if_neg e]
      have e' : min k j = 32 := Decidable.not_not.mp e
      have e1 : k = 32 := by omega
      have e2 : j = 32 := by omega
      have hb0 : h.2.1 ≠ 0 := fun q => by
        have := (ft_z0 g5 (g7 e2)).mpr q
        rw [this] at hz'
        exact absurd hz' (by decide)
      have hcalc : fc_calc 5 f.2.1 h.2.1 = f.2.1 / h.2.1 := by
        unfold fc_calc
        rw [if_neg (by decide), if_neg (by decide), if_neg (by decide), if_neg hb0]
      rw [e', c32, hcalc]
      exact dv_sg h5 g5 (h7 e1) (g7 e2) hb0
