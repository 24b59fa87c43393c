/-! Facts, in the numbers that the class and the reference hold: (bits, rest, signs). The first rows (bt, b_ ..) began as rows of kit/laws/BITS.to-paste. -/
def bt (x : Int32) (i : Nat) : Bool := x.toBitVec.getLsbD i
theorem b_ext {x y : Int32} (h : ∀ i, i < 32 → bt x i = bt y i) : x = y := Int32.toBitVec_inj.mp (BitVec.eq_of_getLsbD_eq (fun i hi => h i hi))
theorem b_or (x y : Int32) (i : Nat) : bt (x ||| y) i = (bt x i || bt y i) := by unfold bt; rw [Int32.toBitVec_or, BitVec.getLsbD_or]
theorem b_and (x y : Int32) (i : Nat) : bt (x &&& y) i = (bt x i && bt y i) := by unfold bt; rw [Int32.toBitVec_and, BitVec.getLsbD_and]
theorem b_xor (x y : Int32) (i : Nat) : bt (x ^^^ y) i = (bt x i ^^ bt y i) := by unfold bt; rw [Int32.toBitVec_xor, BitVec.getLsbD_xor]
theorem b_big {x : Int32} {i : Nat} (h : 32 ≤ i) : bt x i = false := BitVec.getLsbD_of_ge _ _ h
theorem b_0 (i : Nat) : bt 0 i = false := BitVec.getLsbD_zero
theorem s_l : ∀ n, n < 32 → ((nI n &&& 31).toBitVec.smod 32).toNat = n := by decide +kernel
theorem b_sshr (n : Nat) (hn : n < 32) (x : Int32) {i : Nat} (hi : i < 32) : bt (x >>> (nI n &&& 31)) i = if n + i < 32 then bt x (n + i) else bt x 31 := by
  unfold bt
  rw [Int32.toBitVec_shiftRight]
  show (x.toBitVec.sshiftRight ((nI n &&& 31).toBitVec.smod 32).toNat).getLsbD i = _
  rw [s_l n hn, BitVec.getLsbD_sshiftRight, BitVec.msb_eq_getLsbD_last]
  simp [hi]
theorem b_n (m i : Nat) : bt (nI m) i = (decide (i < 32) && m.testBit i) := by
  show (BitVec.ofNat 32 m).getLsbD i = _
  rw [BitVec.getLsbD_ofNat]
theorem b_zero {x : Int32} (h : ∀ i, i < 32 → bt x i = false) : x = 0 := b_ext (fun i hi => by rw [h i hi, b_0])
/-! numbers -/
def fc_min (x y : Int32) : Int32 := if y < x then y else x
def fc_cut (x k : Int32) : Int32 := if k = 32 then x else x &&& (1 <<< (k &&& 31) - 1)
def fc_sg (x : Int32) : Int32 := if x < 0 then 1 else if x = 0 then 2 else 4
def tz_go (x : Int32) : Nat → Nat → Nat
  | _, 0 => 32
  | n, f + 1 => if bt x n then n else tz_go x (n + 1) f
def tz_n (x : Int32) : Nat := tz_go x 0 32
def fc_tz (x : Int32) : Int32 := nI (tz_n x)
theorem tz_go_spec (x : Int32) : ∀ (f n : Nat), n + f = 32 → (∀ i, i < n → bt x i = false) → n ≤ tz_go x n f ∧ tz_go x n f ≤ 32 ∧ (∀ i, i < tz_go x n f → bt x i = false) ∧ (tz_go x n f < 32 → bt x (tz_go x n f) = true)
  | 0, n, hn, h => by
    have e : n = 32 := by omega
    subst e
    exact ⟨Nat.le_refl _, Nat.le_refl _, h, fun q => absurd q (Nat.lt_irrefl _)⟩
  | f + 1, n, hn, h => by
    unfold tz_go
    by_cases hb : bt x n = true
    · rw [if_pos hb]
      exact ⟨Nat.le_refl _, by omega, h, fun _ => hb⟩
    · rw [if_neg hb]
      have hb' : bt x n = false := by cases hq : bt x n <;> simp_all
      obtain ⟨h1, h2, h3, h4⟩ := tz_go_spec x f (n + 1) (by omega) (fun i hi => by
        rcases Nat.lt_or_ge i n with q | q
        · exact h i q
        · have : i = n := by omega
          rw [this]; exact hb')
      exact ⟨by omega, h2, h3, h4⟩
theorem tz_spec (x : Int32) : tz_n x ≤ 32 ∧ (∀ i, i < tz_n x → bt x i = false) ∧ (tz_n x < 32 → bt x (tz_n x) = true) := by
  obtain ⟨-, h1, h2, h3⟩ := tz_go_spec x 32 0 rfl (fun i h => absurd h (Nat.not_lt_zero _))
  exact ⟨h1, h2, h3⟩
theorem tz_0 : tz_n 0 = 32 := by decide +kernel
theorem tz_le {x : Int32} {j : Nat} (h : ∀ i, i < j → bt x i = false) (hj : j ≤ 32) : j ≤ tz_n x := by
  obtain ⟨h1, h2, h3⟩ := tz_spec x
  rcases Nat.lt_or_ge (tz_n x) j with q | q
  · have := h _ q
    rw [h3 (by omega)] at this
    cases this
  · exact q
theorem n_32 {k : Nat} (h : k < 2 ^ 31) : nI k = 32 ↔ k = 32 := nI_eq (b := 32) h (by decide)
theorem fc_min_n {a b : Nat} (ha : a < 2 ^ 31) (hb : b < 2 ^ 31) : fc_min (nI a) (nI b) = nI (min a b) := by
  unfold fc_min
  by_cases h : b < a
  · rw [if_pos ((nI_ltI hb ha).mpr h), Nat.min_eq_right (Nat.le_of_lt h)]
  · rw [if_neg (fun q => h ((nI_ltI hb ha).mp q)), Nat.min_eq_left (Nat.le_of_not_lt h)]
theorem fc_cut_m : ∀ k, k < 17 → ∀ i, i < 32 → bt (1 <<< (nI k &&& 31) - 1) i = decide (i < k) := by decide +kernel
theorem fc_cut_b {k : Nat} (hk : k ≤ 16 ∨ k = 32) (x : Int32) (i : Nat) : bt (fc_cut x (nI k)) i = (decide (i < k) && bt x i) := by
  unfold fc_cut
  rcases hk with hk | hk
  · rw [if_neg (fun q => by have := (n_32 (by omega)).mp q; omega), b_and]
    rcases Nat.lt_or_ge i 32 with h | h
    · rw [fc_cut_m k (by omega) i h, Bool.and_comm]
    · rw [b_big h]; simp
  · subst hk
    rw [if_pos (show nI 32 = 32 from rfl)]
    rcases Nat.lt_or_ge i 32 with h | h
    · simp [h]
    · rw [b_big h]; simp
/-! a fact -/
abbrev ft_T : Type := Int32 × Int32 × Int32
/-- a fact as both sides keep it: reduced, some int is told -/
def ft_ok (f : ft_T) : Prop := ∃ k s : Nat, f.1 = nI k ∧ f.2.2 = nI s ∧ (k ≤ 16 ∨ k = 32) ∧ 0 < s ∧ s < 8 ∧ (∀ i, k ≤ i → bt f.2.1 i = false) ∧ (k = 32 → nI s = fc_sg f.2.1) ∧ (k ≠ 32 → f.2.1 ≠ 0 → s &&& 2 = 0) ∧ (s = 2 → k = 32)
/-- f tells no int that h doesn't -/
def ft_le (f h : ft_T) : Prop := ∃ k j : Nat, f.1 = nI k ∧ h.1 = nI j ∧ j ≤ k ∧ k ≤ 32 ∧ (∀ i, i < j → bt h.2.1 i = bt f.2.1 i) ∧ h.2.2 ||| f.2.2 = h.2.2
def ft_jn (f h : ft_T) : ft_T :=
  ((if fc_min f.1 h.1 = 32 ∧ f.2.1 ^^^ h.2.1 = 0 then 32 else fc_min 16 (fc_min (fc_min f.1 h.1) (fc_tz (f.2.1 ^^^ h.2.1)))),
   fc_cut f.2.1 (if fc_min f.1 h.1 = 32 ∧ f.2.1 ^^^ h.2.1 = 0 then 32 else fc_min 16 (fc_min (fc_min f.1 h.1) (fc_tz (f.2.1 ^^^ h.2.1)))),
   f.2.2 ||| h.2.2)
theorem sg_or : ∀ s, s < 8 → ∀ t, t < 8 → nI s ||| nI t = nI (s ||| t) ∧ (s ||| t) < 8 ∧ nI s &&& nI t = nI (s &&& t) ∧ (s &&& t) < 8 := by decide +kernel
theorem sg_lt (x : Int32) : ∃ s, s < 8 ∧ 0 < s ∧ fc_sg x = nI s ∧ (s = 1 ∨ s = 2 ∨ s = 4) ∧ (s = 2 ↔ x = 0) := by
  unfold fc_sg
  by_cases h : x < 0
  · rw [if_pos h]
    refine ⟨1, by decide, by decide, rfl, Or.inl rfl, ⟨fun q => (by cases q), fun q => ?_⟩⟩
    subst q
    exact absurd h (by decide)
  · rw [if_neg h]
    by_cases h0 : x = 0
    · rw [if_pos h0]
      exact ⟨2, by decide, by decide, rfl, Or.inr (Or.inl rfl), ⟨fun _ => h0, fun _ => rfl⟩⟩
    · rw [if_neg h0]
      exact ⟨4, by decide, by decide, rfl, Or.inr (Or.inr rfl), ⟨fun q => (by cases q), fun q => absurd q h0⟩⟩
/-- the bits of a join -/
def jn_k (k j : Nat) (d : Int32) : Nat := if min k j = 32 ∧ d = 0 then 32 else min 16 (min (min k j) (tz_n d))
theorem jn_k_eq {k j : Nat} (hk : k ≤ 32) (hj : j ≤ 32) (d : Int32) : (if fc_min (nI k) (nI j) = 32 ∧ d = 0 then (32 : Int32) else fc_min 16 (fc_min (fc_min (nI k) (nI j)) (fc_tz d))) = nI (jn_k k j d) := by
  have h3 := (tz_spec d).1
  have e0 : (fc_min (nI k) (nI j) = 32) ↔ min k j = 32 := by
    rw [fc_min_n (by omega) (by omega)]
    exact n_32 (by omega)
  unfold jn_k
  by_cases h : min k j = 32 ∧ d = 0
  · rw [if_pos h, if_pos ⟨e0.mpr h.1, h.2⟩]; rfl
  · rw [if_neg h, if_neg (fun q => h ⟨e0.mp q.1, q.2⟩), fc_min_n (by omega) (by omega)]
    unfold fc_tz
    rw [fc_min_n (by omega) (by omega)]
    exact fc_min_n (by decide) (by omega)
theorem jn_k_in (k j : Nat) (d : Int32) : jn_k k j d ≤ 16 ∨ jn_k k j d = 32 := by
  unfold jn_k
  by_cases h : min k j = 32 ∧ d = 0
  · rw [if_pos h]; exact Or.inr rfl
  · rw [if_neg h]; exact Or.inl (by omega)
theorem jn_k_le {k j : Nat} (d : Int32) : jn_k k j d ≤ k ∧ jn_k k j d ≤ j := by
  unfold jn_k
  by_cases h : min k j = 32 ∧ d = 0
  · rw [if_pos h]; omega
  · rw [if_neg h]; omega
theorem jn_k_bits {k j : Nat} {x y : Int32} {i : Nat} (hi : i < jn_k k j (x ^^^ y)) : bt x i = bt y i := by
  have key : bt (x ^^^ y) i = false := by
    unfold jn_k at hi
    by_cases h : min k j = 32 ∧ x ^^^ y = 0
    · rw [h.2, b_0]
    · rw [if_neg h] at hi
      exact (tz_spec _).2.1 i (by omega)
  rw [b_xor] at key
  cases h1 : bt x i <;> cases h2 : bt y i <;> simp_all
theorem ft_jn_eq {f h : ft_T} {k j : Nat} (hf : f.1 = nI k) (hh : h.1 = nI j) (hk : k ≤ 32) (hj : j ≤ 32) : ft_jn f h = (nI (jn_k k j (f.2.1 ^^^ h.2.1)), fc_cut f.2.1 (nI (jn_k k j (f.2.1 ^^^ h.2.1))), f.2.2 ||| h.2.2) := by
  unfold ft_jn
  rw [hf, hh, jn_k_eq hk hj]
theorem ft_le_refl {f : ft_T} (hf : ft_ok f) : ft_le f f := by
  obtain ⟨k, s, h1, h2, h3, h4, h5, -⟩ := hf
  exact ⟨k, k, h1, h1, Nat.le_refl _, by omega, fun _ _ => rfl, by rw [h2]; exact (by decide +kernel : ∀ s, s < 8 → nI s ||| nI s = nI s) s h5⟩
theorem ft_le_trans {f h q : ft_T} (a : ft_le f h) (b : ft_le h q) : ft_le f q := by
  obtain ⟨k, j, a1, a2, a3, a4, a5, a6⟩ := a
  obtain ⟨k', i, b1, b2, b3, b4, b5, b6⟩ := b
  have e : k' = j := (nI_eq (by omega) (by omega)).mp (b1.symm.trans a2)
  subst e
  refine ⟨k, i, a1, b2, by omega, a4, fun t ht => (b5 t ht).trans (a5 t (by omega)), ?_⟩
  rw [← b6, Int32.or_assoc, a6]
theorem ft_le_jn {f h : ft_T} (hf : ft_ok f) (hh : ft_ok h) : ft_le f (ft_jn f h) ∧ ft_le h (ft_jn f h) := by
  obtain ⟨k, s, h1, h2, h3, h4, h5, -⟩ := hf
  obtain ⟨j, t, g1, g2, g3, g4, g5, -⟩ := hh
  rw [ft_jn_eq h1 g1 (by omega) (by omega)]
  have hl := jn_k_le (k := k) (j := j) (f.2.1 ^^^ h.2.1)
  have hin := jn_k_in k j (f.2.1 ^^^ h.2.1)
  have or1 : (f.2.2 ||| h.2.2) ||| f.2.2 = f.2.2 ||| h.2.2 := by
    rw [h2, g2]
    exact (by decide +kernel : ∀ s, s < 8 → ∀ t, t < 8 → (nI s ||| nI t) ||| nI s = nI s ||| nI t) s h5 t g5
  have or2 : (f.2.2 ||| h.2.2) ||| h.2.2 = f.2.2 ||| h.2.2 := by
    rw [h2, g2]
    exact (by decide +kernel : ∀ s, s < 8 → ∀ t, t < 8 → (nI s ||| nI t) ||| nI t = nI s ||| nI t) s h5 t g5
  refine ⟨⟨k, _, h1, rfl, hl.1, by omega, fun i hi => ?_, or1⟩, ⟨j, _, g1, rfl, hl.2, by omega, fun i hi => ?_, or2⟩⟩
  · rw [fc_cut_b hin, decide_eq_true hi, Bool.true_and]
  · rw [fc_cut_b hin, decide_eq_true hi, Bool.true_and]
    exact jn_k_bits hi
theorem ft_jn_abs {f h : ft_T} (hf : ft_ok f) (hl : ft_le h f) : ft_jn f h = f := by
  obtain ⟨k, s, h1, h2, h3, h4, h5, h6, h7, h8, h9⟩ := hf
  obtain ⟨j, k', l1, l2, l3, l4, l5, l6⟩ := hl
  have e : k' = k := (nI_eq (by omega) (by omega)).mp (l2.symm.trans h1)
  subst e
  rw [ft_jn_eq h1 l1 (by omega) (by omega), l6]
  have ha : jn_k k' j (f.2.1 ^^^ h.2.1) = k' := by
    have hz : ∀ i, i < k' → bt (f.2.1 ^^^ h.2.1) i = false := fun i hi => by rw [b_xor, l5 i hi]; simp
    unfold jn_k
    rcases h3 with h3 | h3
    · rw [if_neg (fun q => by have := q.1; omega)]
      have := tz_le hz (by omega)
      omega
    · subst h3
      rw [if_pos ⟨by omega, b_zero hz⟩]
  rw [ha]
  have hr : fc_cut f.2.1 (nI k') = f.2.1 := b_ext (fun i _ => by
    rw [fc_cut_b h3]
    rcases Nat.lt_or_ge i k' with q | q
    · simp [q]
    · rw [h6 i q]; simp)
  rw [hr, ← h1]
theorem ft_jn_ok {f h : ft_T} (hf : ft_ok f) (hh : ft_ok h) : ft_ok (ft_jn f h) := by
  obtain ⟨k, s, h1, h2, h3, h4, h5, h6, h7, h8, h9⟩ := hf
  obtain ⟨j, t, g1, g2, g3, g4, g5, g6, g7, g8, g9⟩ := hh
  rw [ft_jn_eq h1 g1 (by omega) (by omega)]
  have hl := jn_k_le (k := k) (j := j) (f.2.1 ^^^ h.2.1)
  have hin := jn_k_in k j (f.2.1 ^^^ h.2.1)
  have hbits : ∀ i, i < jn_k k j (f.2.1 ^^^ h.2.1) → bt f.2.1 i = bt h.2.1 i := fun i hi => jn_k_bits hi
  have hor := sg_or s h5 t g5
  have hpos : 0 < (s ||| t) := (by decide +kernel : ∀ s, s < 8 → ∀ t, t < 8 → 0 < s → 0 < (s ||| t)) s h5 t g5 h4
  have full : jn_k k j (f.2.1 ^^^ h.2.1) = 32 → k = 32 ∧ j = 32 ∧ f.2.1 = h.2.1 := by
    intro q
    refine ⟨by omega, by omega, b_ext (fun i hi => hbits i (by omega))⟩
  refine ⟨jn_k k j (f.2.1 ^^^ h.2.1), s ||| t, rfl, by show f.2.2 ||| h.2.2 = _; rw [h2, g2]; exact hor.1, hin, hpos, hor.2.1, fun i hi => ?_, fun q => ?_, fun q hne => ?_, fun q => ?_⟩
  · show bt (fc_cut _ _) i = false
    rw [fc_cut_b hin, decide_eq_false (by omega)]; rfl
  · obtain ⟨e1, e2, e3⟩ := full q
    have c1 := h7 e1
    have c2 := g7 e2
    rw [← e3] at c2
    show nI (s ||| t) = fc_sg (fc_cut f.2.1 (nI (jn_k k j (f.2.1 ^^^ h.2.1))))
    rw [q, show fc_cut f.2.1 (nI 32) = f.2.1 from if_pos rfl, ← c1]
    have e4 : s = t := (nI_eq (by omega) (by omega)).mp (c1.trans c2.symm)
    subst e4
    rw [Nat.or_self]
  · -- the rest isn't 0: neither holds ZERO
    have hne2 : ¬ fc_cut f.2.1 (nI (jn_k k j (f.2.1 ^^^ h.2.1))) = 0 := hne
    have hf0 : f.2.1 ≠ 0 := fun e => hne2 (b_zero (fun i _ => by rw [fc_cut_b hin, e, b_0]; simp))
    have hh0 : h.2.1 ≠ 0 := fun e => hne2 (b_zero (fun i _ => by
      rw [fc_cut_b hin]
      rcases Nat.lt_or_ge i (jn_k k j (f.2.1 ^^^ h.2.1)) with z | z
      · rw [hbits i z, e, b_0]; simp
      · rw [decide_eq_false (by omega)]; rfl))
    have z1 : s &&& 2 = 0 := by
      by_cases e : k = 32
      · have c := h7 e
        obtain ⟨s0, -, -, q1, q2, q3⟩ := sg_lt f.2.1
        have : s = s0 := (nI_eq (by omega) (by omega)).mp (c.trans q1)
        subst this
        rcases q2 with q2 | q2 | q2
        · subst q2; rfl
        · exact absurd (q3.mp q2) hf0
        · subst q2; rfl
      · exact h8 e hf0
    have z2 : t &&& 2 = 0 := by
      by_cases e : j = 32
      · have c := g7 e
        obtain ⟨s0, -, -, q1, q2, q3⟩ := sg_lt h.2.1
        have : t = s0 := (nI_eq (by omega) (by omega)).mp (c.trans q1)
        subst this
        rcases q2 with q2 | q2 | q2
        · subst q2; rfl
        · exact absurd (q3.mp q2) hh0
        · subst q2; rfl
      · exact g8 e hh0
    exact (by decide +kernel : ∀ s, s < 8 → ∀ t, t < 8 → s &&& 2 = 0 → t &&& 2 = 0 → (s ||| t) &&& 2 = 0) s h5 t g5 z1 z2
  · have e := (by decide +kernel : ∀ s, s < 8 → ∀ t, t < 8 → (0 < s ∧ 0 < t ∧ (s ||| t) = 2 → s = 2 ∧ t = 2)) s h5 t g5 ⟨h4, g4, q⟩
    have e1 := h9 e.1
    have e2 := g9 e.2
    have z0 : ∀ {x : Int32} {s : Nat}, s < 8 → nI s = fc_sg x → s = 2 → x = 0 := by
      intro x s hs hx e
      obtain ⟨s0, w1, -, q1, q2, q3⟩ := sg_lt x
      have : s = s0 := (nI_eq (by omega) (by omega)).mp (hx.trans q1)
      exact q3.mp (this ▸ e)
    have r1 := z0 h5 (h7 e1) e.1
    have r2 := z0 g5 (g7 e2) e.2
    unfold jn_k
    rw [if_pos ⟨by omega, by rw [r1, r2]; rfl⟩]
/-! the measure: it falls when a join makes a fact tell more -/
def mu_b (b : Int32) : Nat := if b = 32 then 17 else b.toNatClampNeg
def mu_s (s : Int32) : Nat := 3 - ((if bt s 0 then 1 else 0) + (if bt s 1 then 1 else 0) + (if bt s 2 then 1 else 0))
def mu_f (f : ft_T) : Nat := mu_b f.1 + mu_s f.2.2
theorem mu_b_n {k : Nat} (h : k ≤ 16 ∨ k = 32) : mu_b (nI k) = if k = 32 then 17 else k := by
  unfold mu_b
  by_cases e : k = 32
  · subst e; rfl
  · rw [if_neg e, if_neg (fun q => e ((n_32 (by omega)).mp q)), nI_clamp (by omega)]
theorem mu_f_le {f : ft_T} (hf : ft_ok f) : mu_f f ≤ 19 := by
  obtain ⟨k, s, h1, h2, h3, h4, h5, -⟩ := hf
  unfold mu_f
  rw [h1, h2, mu_b_n h3]
  have := (by decide +kernel : ∀ s, s < 8 → 0 < s → mu_s (nI s) ≤ 2) s h5 h4
  by_cases e : k = 32
  · rw [if_pos e]; omega
  · rw [if_neg e]; omega
theorem mu_jn {f h : ft_T} (hf : ft_ok f) (hh : ft_ok h) : mu_f (ft_jn f h) ≤ mu_f f ∧ (¬ ((ft_jn f h).1 = f.1 ∧ (ft_jn f h).2.2 = f.2.2) → mu_f (ft_jn f h) < mu_f f) := by
  obtain ⟨k, s, h1, h2, h3, h4, h5, -⟩ := hf
  obtain ⟨j, t, g1, g2, g3, g4, g5, -⟩ := hh
  rw [ft_jn_eq h1 g1 (by omega) (by omega)]
  have hl := jn_k_le (k := k) (j := j) (f.2.1 ^^^ h.2.1)
  have hin := jn_k_in k j (f.2.1 ^^^ h.2.1)
  generalize jn_k k j (f.2.1 ^^^ h.2.1) = a at hl hin
  unfold mu_f
  dsimp only
  rw [h1, h2, g2, mu_b_n h3, mu_b_n hin]
  have c := (by decide +kernel : ∀ s, s < 8 → ∀ t, t < 8 → mu_s (nI s ||| nI t) ≤ mu_s (nI s) ∧ (¬ nI s ||| nI t = nI s → mu_s (nI s ||| nI t) < mu_s (nI s))) s h5 t g5
  have cb : (if a = 32 then 17 else a) ≤ (if k = 32 then 17 else k) ∧ (a ≠ k → (if a = 32 then 17 else a) < (if k = 32 then 17 else k)) := by
    by_cases e1 : a = 32 <;> by_cases e2 : k = 32 <;> simp [e1, e2] <;> omega
  refine ⟨by omega, fun q => ?_⟩
  by_cases e : a = k
  · subst e
    have : ¬ nI s ||| nI t = nI s := fun z => q ⟨rfl, z⟩
    have := c.2 this
    omega
  · have := cb.2 e
    omega
/-- unchanged in bits and signs: unchanged -/
theorem ft_jn_same {f h : ft_T} (hf : ft_ok f) (hh : ft_ok h) (e1 : (ft_jn f h).1 = f.1) (e2 : (ft_jn f h).2.2 = f.2.2) : ft_jn f h = f := by
  have hj := ft_le_jn hf hh
  obtain ⟨k, s, h1, h2, h3, h4, h5, h6, -⟩ := hf
  obtain ⟨j, t, g1, g2, g3, g4, g5, -⟩ := hh
  rw [ft_jn_eq h1 g1 (by omega) (by omega)] at e1 e2 ⊢
  have hin := jn_k_in k j (f.2.1 ^^^ h.2.1)
  have e : jn_k k j (f.2.1 ^^^ h.2.1) = k := (nI_eq (by omega) (by omega)).mp (e1.trans h1)
  rw [e] at hin ⊢
  have hr : fc_cut f.2.1 (nI k) = f.2.1 := b_ext (fun i _ => by
    rw [fc_cut_b hin]
    rcases Nat.lt_or_ge i k with q | q
    · simp [q]
    · rw [h6 i q]; simp)
  have e2 : f.2.2 ||| h.2.2 = f.2.2 := e2
  rw [hr, e2, ← h1]
