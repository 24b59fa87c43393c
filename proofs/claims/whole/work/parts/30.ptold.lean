/-! what is told of an instruction, in both -/
def tl_iv (x : Int32) : Bool := !(decide (x < 0)) && !(decide ((4 : Int32) ≤ x))
def tl_ua (o : Int32) : Bool := !(decide (o = 9)) && !(decide (o = 11)) && !(decide (o = 12))
def tl_ca (o : Int32) : Bool := !(decide (o < 2)) && !(decide ((5 : Int32) < o))
def tl_ub (o : Int32) : Bool := decide (o = 1) || tl_ca o
def tl_jm (o : Int32) : Bool := !(decide (o < 7)) && !(decide ((9 : Int32) < o))
def tl_uc (o : Int32) : Bool := decide (o = 0) || (tl_ca o || tl_jm o)
def tl_c (o c : Int32) : Bool := if tl_ca o = true then tl_iv c else !(tl_jm o) || (!(decide (c < 0)) && !(decide ((24 : Int32) < c)))
def tl_bc (o b c : Int32) : Bool := (!(tl_ub o) || tl_iv b) && tl_c o c
def tl_ok (o a b c : Int32) : Bool := !(decide (o < 0)) && (decide (o ≤ 12) && ((!(tl_ua o) || tl_iv a) && tl_bc o b c))
/-- an instruction in its normal form -/
def tl_nf (o a b c : Int32) : Nat → Int32 := fun j => if j = 0 then o else if j = 1 then (if tl_ua o = true then a else 0) else if j = 2 then (if tl_ub o = true then b else 0) else (if tl_uc o = true then c else 0)
theorem pf_In_usesA (o : Int32) (g : wm_Sg) : mf_In_usesA o g = some (b_i (tl_ua o), g) := by
  unfold mf_In_usesA mf_In_usesA_22 mf_In_usesA_23 tl_ua
  by_cases h1 : o = 9
  · rw [if_pos h1, decide_eq_true h1]; rfl
  · rw [if_neg h1, decide_eq_false h1]
    by_cases h2 : o = 11
    · rw [if_pos h2, decide_eq_true h2]; rfl
    · rw [if_neg h2, decide_eq_false h2]
      by_cases h3 : o = 12
      · rw [if_pos h3, decide_eq_true h3]; rfl
      · rw [if_neg h3, decide_eq_false h3]; rfl
theorem pf_Mo_usesFirst (o : Int32) (g : wm_Sg) : mf_Mo_usesFirst o g = some (b_i (tl_ua o), g) := by
  unfold mf_Mo_usesFirst mf_Mo_usesFirst_22 mf_Mo_usesFirst_23 tl_ua
  by_cases h1 : o = 9
  · rw [if_pos h1, decide_eq_true h1]; rfl
  · rw [if_neg h1, decide_eq_false h1]
    by_cases h2 : o = 11
    · rw [if_pos h2, decide_eq_true h2]; rfl
    · rw [if_neg h2, decide_eq_false h2]
      by_cases h3 : o = 12
      · rw [if_pos h3, decide_eq_true h3]; rfl
      · rw [if_neg h3, decide_eq_false h3]; rfl
theorem pf_Ff_isVariable (o : Int32) (g : wm_Sg) : mf_Ff_isVariable o g = some (b_i (tl_iv o), g) := by
  unfold mf_Ff_isVariable mf_Ff_isVariable_13 mf_Ff_isVariable_14 tl_iv
  by_cases h1 : o < 0
  · rw [if_pos h1, decide_eq_true h1]; rfl
  · rw [if_neg h1, decide_eq_false h1]
    by_cases h2 : (4 : Int32) ≤ o
    · rw [if_pos h2, decide_eq_true h2]; rfl
    · rw [if_neg h2, decide_eq_false h2]; rfl
theorem pf_Mo_isVariable (o : Int32) (g : wm_Sg) : mf_Mo_isVariable o g = some (b_i (tl_iv o), g) := by
  unfold mf_Mo_isVariable mf_Mo_isVariable_13 mf_Mo_isVariable_14 tl_iv
  by_cases h1 : o < 0
  · rw [if_pos h1, decide_eq_true h1]; rfl
  · rw [if_neg h1, decide_eq_false h1]
    by_cases h2 : (4 : Int32) ≤ o
    · rw [if_pos h2, decide_eq_true h2]; rfl
    · rw [if_neg h2, decide_eq_false h2]; rfl
theorem pf_In_calculates (o : Int32) (g : wm_Sg) : mf_In_calculates o g = some (b_i (tl_ca o), g) := by
  unfold mf_In_calculates mf_In_calculates_14 mf_In_calculates_15 tl_ca
  by_cases h1 : o < 2
  · rw [if_pos h1, decide_eq_true h1]; rfl
  · rw [if_neg h1, decide_eq_false h1]
    by_cases h2 : (5 : Int32) < o
    · rw [if_pos h2, decide_eq_true h2]; rfl
    · rw [if_neg h2, decide_eq_false h2]; rfl
theorem pf_In_jumps (o : Int32) (g : wm_Sg) : mf_In_jumps o g = some (b_i (tl_jm o), g) := by
  unfold mf_In_jumps mf_In_jumps_16 mf_In_jumps_17 tl_jm
  by_cases h1 : o < 7
  · rw [if_pos h1, decide_eq_true h1]; rfl
  · rw [if_neg h1, decide_eq_false h1]
    by_cases h2 : (9 : Int32) < o
    · rw [if_pos h2, decide_eq_true h2]; rfl
    · rw [if_neg h2, decide_eq_false h2]; rfl
theorem pf_In_usesB (o : Int32) (g : wm_Sg) : mf_In_usesB o g = some (b_i (tl_ub o), g) := by
  unfold mf_In_usesB mf_In_usesB_12 mf_In_usesB_17 tl_ub
  rw [pf_In_calculates, Option.bind_some]
  by_cases h1 : o = 1
  · rw [if_pos h1, decide_eq_true h1]; rfl
  · rw [if_neg h1, decide_eq_false h1]
    cases tl_ca o <;> rfl
theorem pf_In_usesC (o : Int32) (g : wm_Sg) : mf_In_usesC o g = some (b_i (tl_uc o), g) := by
  unfold mf_In_usesC mf_In_usesC_18 mf_In_usesC_23 tl_uc
  rw [pf_In_calculates, Option.bind_some]
  dsimp only
  rw [pf_In_jumps, Option.bind_some]
  by_cases h1 : o = 0
  · rw [if_pos h1, decide_eq_true h1]; rfl
  · rw [if_neg h1, decide_eq_false h1]
    cases tl_ca o <;> cases tl_jm o <;> rfl
theorem pf_In_isTold (o a b c : Int32) (g : wm_Sg) : mf_In_isTold o a b c g = some (b_i (tl_ok o a b c), g) := by
  have k42 : mf_In_isTold_42 o c g = some (b_i (tl_c o c), g) := by
    unfold mf_In_isTold_42 mf_In_isTold_71 mf_In_isTold_75 mf_In_isTold_76 tl_c
    rw [pf_In_calculates, Option.bind_some]
    dsimp only
    rw [pf_In_jumps, Option.bind_some, pf_Ff_isVariable, Option.bind_some]
    dsimp only
    cases tl_ca o
    · cases tl_jm o
      · rfl
      · rw [if_pos (show b_i false = 0 from rfl), if_neg (show ¬ b_i true = 0 by decide), if_neg (show ¬ (false = true) by decide)]
        by_cases h1 : c < 0
        · rw [if_pos h1, decide_eq_true h1]; rfl
        · rw [if_neg h1, decide_eq_false h1]
          by_cases h2 : (24 : Int32) < c
          · rw [if_pos h2, decide_eq_true h2]; rfl
          · rw [if_neg h2, decide_eq_false h2]; rfl
    · cases tl_iv c <;> rfl
  have k26 : mf_In_isTold_26 o b c g = some (b_i (tl_bc o b c), g) := by
    unfold mf_In_isTold_26 mf_In_isTold_40 tl_bc
    rw [pf_In_usesB, Option.bind_some]
    dsimp only
    rw [pf_Ff_isVariable, Option.bind_some]
    dsimp only
    rw [k42]
    cases tl_ub o
    · cases tl_c o c <;> rfl
    · cases tl_iv b
      · rfl
      · cases tl_c o c <;> rfl
  unfold mf_In_isTold mf_In_isTold_10 mf_In_isTold_40 tl_ok
  rw [pf_In_usesA, Option.bind_some]
  dsimp only
  rw [pf_Ff_isVariable, Option.bind_some]
  dsimp only
  rw [k26]
  by_cases h0 : o < 0
  · rw [if_pos h0, decide_eq_true h0]; rfl
  · rw [if_neg h0, decide_eq_false h0]
    by_cases h1 : o ≤ 12
    · rw [if_pos h1, decide_eq_true h1]
      cases tl_ua o
      · cases tl_bc o b c <;> rfl
      · cases tl_iv a
        · rfl
        · cases tl_bc o b c <;> rfl
    · rw [if_neg h1, decide_eq_false h1]; rfl
/-! the reference's tests are the same, for operations 0 to 12 -/
theorem tl_13 {o : Int32} (h0 : ¬ o < 0) (h1 : o ≤ 12) : ∃ k, k < 13 ∧ o = nI k := by
  obtain ⟨j, hj, e⟩ := nI_of2 (x := o) (M := 12) (n := 12) (by decide) h0 h1
  exact ⟨j, by omega, e⟩
theorem tl_eqs : ∀ k, k < 13 → (decide (nI k ≤ (0 : Int32)) || decide ((6 : Int32) ≤ nI k)) = !(tl_ub (nI k)) ∧ (decide (nI k ≤ (6 : Int32)) || decide ((10 : Int32) ≤ nI k)) = !(tl_jm (nI k)) ∧ (decide (nI k ≤ (1 : Int32)) || decide ((6 : Int32) ≤ nI k)) = !(tl_ca (nI k)) := by decide +kernel
theorem pf_Mo_usesSecond {o : Int32} (h0 : ¬ o < 0) (h1 : o ≤ 12) (g : wm_Sg) : mf_Mo_usesSecond o g = some (b_i (tl_ub o), g) := by
  obtain ⟨k, hk, rfl⟩ := tl_13 h0 h1
  have e := (tl_eqs k hk).1
  unfold mf_Mo_usesSecond mf_Mo_usesSecond_14 mf_Mo_usesSecond_15
  by_cases a1 : nI k ≤ (0 : Int32)
  · rw [decide_eq_true a1] at e
    have e : tl_ub (nI k) = false := by cases hb : tl_ub (nI k) <;> simp_all
    rw [if_pos a1, e]; rfl
  · rw [decide_eq_false a1] at e
    rw [if_neg a1]
    by_cases a2 : (6 : Int32) ≤ nI k
    · rw [decide_eq_true a2] at e
      have e : tl_ub (nI k) = false := by cases hb : tl_ub (nI k) <;> simp_all
      rw [if_pos a2, e]; rfl
    · rw [decide_eq_false a2] at e
      have e : tl_ub (nI k) = true := by cases hb : tl_ub (nI k) <;> simp_all
      rw [if_neg a2, e]; rfl
theorem pf_Mo_jumps {o : Int32} (h0 : ¬ o < 0) (h1 : o ≤ 12) (g : wm_Sg) : mf_Mo_jumps o g = some (b_i (tl_jm o), g) := by
  obtain ⟨k, hk, rfl⟩ := tl_13 h0 h1
  have e := (tl_eqs k hk).2.1
  unfold mf_Mo_jumps mf_Mo_jumps_16 mf_Mo_jumps_17
  by_cases a1 : nI k ≤ (6 : Int32)
  · rw [decide_eq_true a1] at e
    have e : tl_jm (nI k) = false := by cases hb : tl_jm (nI k) <;> simp_all
    rw [if_pos a1, e]; rfl
  · rw [decide_eq_false a1] at e
    rw [if_neg a1]
    by_cases a2 : (10 : Int32) ≤ nI k
    · rw [decide_eq_true a2] at e
      have e : tl_jm (nI k) = false := by cases hb : tl_jm (nI k) <;> simp_all
      rw [if_pos a2, e]; rfl
    · rw [decide_eq_false a2] at e
      have e : tl_jm (nI k) = true := by cases hb : tl_jm (nI k) <;> simp_all
      rw [if_neg a2, e]; rfl
theorem pf_Mo_usesThird {o : Int32} (h0 : ¬ o < 0) (h1 : o ≤ 12) (g : wm_Sg) : mf_Mo_usesThird o g = some (b_i (tl_uc o), g) := by
  have hj := pf_Mo_jumps h0 h1 g
  obtain ⟨k, hk, rfl⟩ := tl_13 h0 h1
  have e := (tl_eqs k hk).2.2
  have k15 : mf_Mo_usesThird_15 (nI k) g = some (b_i (tl_jm (nI k)), g) := by
    unfold mf_Mo_usesThird_15 mf_Mo_usesThird_22 mf_Mo_usesThird_27
    rw [hj, Option.bind_some]
    cases tl_jm (nI k) <;> rfl
  unfold mf_Mo_usesThird mf_Mo_usesThird_22 mf_Mo_usesThird_27 tl_uc
  rw [k15]
  by_cases z : nI k = 0
  · rw [if_pos z, decide_eq_true z]; rfl
  · rw [if_neg z, decide_eq_false z, Bool.false_or]
    by_cases a1 : nI k ≤ (1 : Int32)
    · rw [decide_eq_true a1] at e
      have e : tl_ca (nI k) = false := by cases hb : tl_ca (nI k) <;> simp_all
      rw [if_pos a1, e, Bool.false_or]
    · rw [decide_eq_false a1] at e
      rw [if_neg a1]
      by_cases a2 : nI k < (6 : Int32)
      · have a3 : ¬ (6 : Int32) ≤ nI k := Int32.not_le.mpr a2
        rw [decide_eq_false a3] at e
        have e : tl_ca (nI k) = true := by cases hb : tl_ca (nI k) <;> simp_all
        rw [if_pos a2, e]; rfl
      · have a3 : (6 : Int32) ≤ nI k := Int32.not_lt.mp a2
        rw [decide_eq_true a3] at e
        have e : tl_ca (nI k) = false := by cases hb : tl_ca (nI k) <;> simp_all
        rw [if_neg a2, e, Bool.false_or]
theorem pf_Mo_wrong (o a b c : Int32) (g : wm_Sg) : mf_Mo_wrong o a b c g = some (b_i (!(tl_ok o a b c)), g) := by
  unfold mf_Mo_wrong mf_Mo_wrong_10 tl_ok
  by_cases h0 : o < 0
  · rw [if_pos h0, decide_eq_true h0]; rfl
  · rw [if_neg h0, decide_eq_false h0]
    by_cases h1 : o ≤ 12
    · rw [if_pos h1, decide_eq_true h1]
      have k70 : mf_Mo_wrong_70 o c g = some (b_i (!(!(tl_jm o) || (!(decide (c < 0)) && !(decide ((24 : Int32) < c))))), g) := by
        unfold mf_Mo_wrong_70 mf_Mo_wrong_87 mf_Mo_wrong_91 mf_Mo_wrong_92
        rw [pf_Mo_jumps h0 h1, Option.bind_some]
        dsimp only
        cases tl_jm o
        · rfl
        · rw [if_neg (show ¬ b_i true = 0 by decide)]
          by_cases q1 : c < 0
          · rw [if_pos q1, decide_eq_true q1]; rfl
          · rw [if_neg q1, decide_eq_false q1]
            by_cases q2 : c ≤ (24 : Int32)
            · rw [if_pos q2, decide_eq_false (Int32.not_lt.mpr q2)]; rfl
            · rw [if_neg q2, decide_eq_true (Int32.not_le.mp q2)]; rfl
      have jc : tl_ca o = true → tl_jm o = false := by
        obtain ⟨k, hk, rfl⟩ := tl_13 h0 h1
        exact (by decide +kernel : ∀ k, k < 13 → tl_ca (nI k) = true → tl_jm (nI k) = false) k hk
      have k44 : mf_Mo_wrong_44 o c g = some (b_i (!(tl_c o c)), g) := by
        obtain ⟨k, hk, e0⟩ := tl_13 h0 h1
        have e := (tl_eqs k hk).2.2
        rw [← e0] at e
        unfold mf_Mo_wrong_44 mf_Mo_wrong_45 mf_Mo_wrong_87 mf_Mo_wrong_92 tl_c
        rw [if_pos rfl, pf_Mo_isVariable, Option.bind_some, k70]
        dsimp only
        by_cases a1 : o ≤ (1 : Int32)
        · rw [decide_eq_true a1] at e
          have e : tl_ca o = false := by cases hb : tl_ca o <;> simp_all
          rw [if_pos a1, if_neg (by rw [e]; decide)]
        · rw [decide_eq_false a1] at e
          rw [if_neg a1]
          by_cases a2 : (6 : Int32) ≤ o
          · rw [decide_eq_true a2] at e
            have e : tl_ca o = false := by cases hb : tl_ca o <;> simp_all
            rw [if_pos a2, if_neg (by rw [e]; decide)]
          · rw [decide_eq_false a2] at e
            have e : tl_ca o = true := by cases hb : tl_ca o <;> simp_all
            rw [if_neg a2, if_pos e, jc e]
            cases tl_iv c <;> rfl
      have k40 : mf_Mo_wrong_40 o c g = some (1, g) := by
        unfold mf_Mo_wrong_40 mf_Mo_wrong_45 mf_Mo_wrong_87 mf_Mo_wrong_92
        rw [if_neg (show ¬ (1 : Int32) = 0 by decide), if_pos (Or.inr rfl)]
      have k26 : mf_Mo_wrong_26 o b c g = some (b_i (!(tl_bc o b c)), g) := by
        unfold mf_Mo_wrong_26 tl_bc
        rw [pf_Mo_usesSecond h0 h1, Option.bind_some]
        dsimp only
        rw [pf_Mo_isVariable, Option.bind_some]
        dsimp only
        rw [k44, k40]
        cases tl_ub o
        · cases tl_c o c <;> rfl
        · cases tl_iv b
          · rfl
          · cases tl_c o c <;> rfl
      rw [pf_Mo_usesFirst, Option.bind_some]
      dsimp only
      rw [pf_Mo_isVariable, Option.bind_some]
      dsimp only
      rw [k26, k40]
      cases tl_ua o
      · cases tl_bc o b c <;> rfl
      · cases tl_iv a
        · rfl
        · cases tl_bc o b c <;> rfl
    · rw [if_neg h1, decide_eq_false h1]; rfl
theorem tl_rng {o a b c : Int32} (h : tl_ok o a b c = true) : ¬ o < 0 ∧ o ≤ 12 := by
  unfold tl_ok at h
  simp only [Bool.and_eq_true, Bool.not_eq_true', decide_eq_false_iff_not, decide_eq_true_eq] at h
  exact ⟨h.1, h.2.1⟩
theorem tl_ivn {x : Int32} (h : tl_iv x = true) : ∃ a, a < 4 ∧ x = nI a := by
  unfold tl_iv at h
  simp only [Bool.and_eq_true, Bool.not_eq_true', decide_eq_false_iff_not] at h
  obtain ⟨j, hj, e⟩ := nI_of h.1
  refine ⟨j, ?_, e⟩
  rcases Nat.lt_or_ge j 4 with q | q
  · exact q
  · exfalso
    apply h.2
    rw [e]
    exact n_le (a := 4) (by decide) hj q
theorem tl_in_ok {o a b c : Int32} (h : tl_ok o a b c = true) : in_ok (tl_nf o a b c) := by
  obtain ⟨r1, r2⟩ := tl_rng h
  obtain ⟨k, hk, rfl⟩ := tl_13 r1 r2
  unfold tl_ok tl_bc tl_c at h
  simp only [Bool.and_eq_true, Bool.or_eq_true, Bool.not_eq_true'] at h
  obtain ⟨-, -, h1, h2, h3⟩ := h
  have f := (by decide +kernel : ∀ k, k < 13 → tl_ua (nI k) = decide (¬ (k = 9 ∨ k = 11 ∨ k = 12)) ∧ tl_ub (nI k) = decide (1 ≤ k ∧ k ≤ 5) ∧ tl_ca (nI k) = decide (2 ≤ k ∧ k ≤ 5) ∧ tl_jm (nI k) = decide (7 ≤ k ∧ k ≤ 9) ∧ tl_uc (nI k) = decide (k = 0 ∨ (2 ≤ k ∧ k ≤ 5) ∨ (7 ≤ k ∧ k ≤ 9))) k hk
  obtain ⟨f1, f2, f3, f4, f5⟩ := f
  refine ⟨k, hk, rfl, ?_, ?_, ?_⟩
  · show if k = 9 ∨ k = 11 ∨ k = 12 then (if tl_ua (nI k) = true then a else 0) = 0 else ∃ x, x < 4 ∧ (if tl_ua (nI k) = true then a else 0) = nI x
    by_cases q : k = 9 ∨ k = 11 ∨ k = 12
    · rw [if_pos q, if_neg (by rw [f1, decide_eq_false (fun z => z q)]; decide)]
    · have e : tl_ua (nI k) = true := by rw [f1]; exact decide_eq_true q
      rw [if_neg q, if_pos e]
      rcases h1 with z | z
      · rw [e] at z; cases z
      · exact tl_ivn z
  · show if 1 ≤ k ∧ k ≤ 5 then ∃ x, x < 4 ∧ (if tl_ub (nI k) = true then b else 0) = nI x else (if tl_ub (nI k) = true then b else 0) = 0
    by_cases q : 1 ≤ k ∧ k ≤ 5
    · have e : tl_ub (nI k) = true := by rw [f2]; exact decide_eq_true q
      rw [if_pos q, if_pos e]
      rcases h2 with z | z
      · rw [e] at z; cases z
      · exact tl_ivn z
    · rw [if_neg q, if_neg (by rw [f2, decide_eq_false q]; decide)]
  · show if 2 ≤ k ∧ k ≤ 5 then ∃ x, x < 4 ∧ (if tl_uc (nI k) = true then c else 0) = nI x else if 7 ≤ k ∧ k ≤ 9 then ∃ x, x ≤ 24 ∧ (if tl_uc (nI k) = true then c else 0) = nI x else if k = 0 then True else (if tl_uc (nI k) = true then c else 0) = 0
    by_cases q : 2 ≤ k ∧ k ≤ 5
    · have e : tl_ca (nI k) = true := by rw [f3]; exact decide_eq_true q
      rw [if_pos e] at h3
      rw [if_pos q, if_pos (by rw [f5]; exact decide_eq_true (Or.inr (Or.inl q)))]
      exact tl_ivn h3
    · rw [if_neg q]
      have e : tl_ca (nI k) = false := by rw [f3]; exact decide_eq_false q
      rw [if_neg (by rw [e]; decide)] at h3
      by_cases q2 : 7 ≤ k ∧ k ≤ 9
      · have e2 : tl_jm (nI k) = true := by rw [f4]; exact decide_eq_true q2
        rw [if_pos q2, if_pos (by rw [f5]; exact decide_eq_true (Or.inr (Or.inr q2)))]
        rw [e2] at h3
        simp only [Bool.not_true, Bool.false_or, Bool.and_eq_true, Bool.not_eq_true', decide_eq_false_iff_not] at h3
        obtain ⟨j, hj, ej⟩ := nI_of h3.1
        refine ⟨j, ?_, ej⟩
        rcases Nat.lt_or_ge 24 j with z | z
        · exfalso
          apply h3.2
          rw [ej]
          exact (nI_ltI (a := 24) (by decide) hj).mpr z
        · exact z
      · rw [if_neg q2]
        by_cases q3 : k = 0
        · rw [if_pos q3]; trivial
        · rw [if_neg q3, if_neg (by rw [f5, decide_eq_false (fun z => by rcases z with z | z | z; exact q3 z; exact q z; exact q2 z)]; decide)]
