/-! the reference: a pass and the solution -/
theorem mu_jn_lt {n t : Nat} {c : sv_F} {σ : sv_S} (hσ : sv_ok σ) (hc : sv_fok c) (h : ∃ j, j < n ∧ sv_jn n t c σ j ≠ σ j) : mu_n (sv_jn n t c σ) n < mu_n σ n := by
  obtain ⟨j, hj, hne⟩ := h
  exact (mu_sum (fun i => (mu_jn1 hσ hc i).1) n).2 j hj ((mu_jn1 hσ hc j).2 hne)
theorem mu_o_le {n t : Nat} {oc : Option sv_F} {σ : sv_S} (hσ : sv_ok σ) (hc : ∀ c, oc = some c → sv_fok c) : mu_n (sv_o n t oc σ) n ≤ mu_n σ n := (mu_sum (fun i => (mu_o1 hσ hc i).1) n).1
/-- a state comes, or none -/
theorem pf_Mo_come {n t : Nat} {g : wm_Sg} {σ : sv_S} {oc : Option sv_F} (hn : n ≤ 24) (ht : t < 2 ^ 31) (hp : g 186 0 = nI n) (hR : ms_R n g σ) (hc : ∀ c, oc = some c → kf_R g c) (hσ : sv_ok σ) (hcok : ∀ c, oc = some c → sv_fok c) (hz : g 186 10 = 0 ∨ g 186 10 = 1) :
    ∃ g', (if b_i oc.isSome = 0 then some g else mf_Mo_join 186 (nI t) g) = some g' ∧ mo_f2 g g' ∧ ms_R n g' (sv_o n t oc σ) ∧ (g' 186 10 = 0 ∨ g' 186 10 = 1) ∧ (g' 186 10 = 0 → g 186 10 = 0 ∧ sv_o n t oc σ = σ) ∧ (g' 186 10 = 1 → g 186 10 = 1 ∨ mu_n (sv_o n t oc σ) n < mu_n σ n) := by
  cases oc with
  | none => exact ⟨g, rfl, mo_f2_refl g, hR, hz, fun h => ⟨h, rfl⟩, fun h => Or.inl h⟩
  | some c =>
    obtain ⟨g', a1, a2, a3, a4, a5, a6⟩ := pf_Mo_join (t := t) hn ht hp hR (hc c rfl) hσ (hcok c rfl) hz
    refine ⟨g', ?_, a2, a3, a4, a5, fun h => ?_⟩
    · rw [if_neg (show ¬ b_i (some c : Option sv_F).isSome = 0 by show ¬ b_i true = 0; decide)]; exact a1
    · rcases a6 h with z | z
      · exact Or.inl z
      · exact Or.inr (mu_jn_lt hσ (hcok c rfl) z)
theorem bind_ite {α β : Type} {c : Prop} [Decidable c] (a b : Option α) (f : α → Option β) : (if c then a.bind f else b.bind f) = (if c then a else b).bind f := by
  by_cases h : c
  · rw [if_pos h, if_pos h]
  · rw [if_neg h, if_neg h]
theorem pf_Mo_loadS {n i : Nat} {g : wm_Sg} {σ : sv_S} (hn : n ≤ 24) (hi : i < n) (hR : ms_R n g σ) (hl : (σ i).1 = true) : ∃ g', mf_Mo_load 186 (nI i) g = some g' ∧ mo_f1 g g' ∧ kf_R g' (σ i).2 := by
  obtain ⟨g', a1, a2, a3⟩ := pf_Mo_load (i := i) (by omega) g
  exact ⟨g', a1, ⟨fun a _ h1 h2 h3 => a2 a h1 h2 h3, fun j _ _ _ => by rw [a2 186 (by decide) (by decide) (by decide)]⟩, fun v hv => (a3 v hv).trans ((hR i hi).2 hl v hv)⟩
theorem pf_Mo_pass {n i : Nat} {g : wm_Sg} {σ : sv_S} {p : Nat → Nat → Int32} (hn : n ≤ 24) (hi : i < n) (hp : mp_R n p g) (hR : ms_R n g σ) (hσ : sv_ok σ) (hl : (σ i).1 = true) (ok : in_ok (p i)) (hz : g 186 10 = 0 ∨ g 186 10 = 1) :
    ∃ g', mf_Mo_pass 186 (nI i) g = some g' ∧ mo_f2 g g' ∧ ms_R n g' (sv_step n p i σ) ∧ (g' 186 10 = 0 ∨ g' 186 10 = 1) ∧ (g' 186 10 = 0 → g 186 10 = 0 ∧ sv_step n p i σ = σ) ∧ (g' 186 10 = 1 → g 186 10 = 1 ∨ mu_n (sv_step n p i σ) n < mu_n σ n) := by
  have i24 : i < 24 := by omega
  have ci : (nI i).toNatClampNeg = i := nI_clamp (by omega)
  obtain ⟨p0, p1, p2, p3⟩ := hp.2 i hi
  obtain ⟨g1, a1, a2, a3⟩ := pf_Mo_loadS hn hi hR hl
  have hR1 := ms_R_f1 hR a2
  have hp1 := mp_R_f2 hp (mo_f12 a2)
  have z10 : ∀ {g g' : wm_Sg}, mo_f1 g g' → g' 186 10 = g 186 10 := fun {g g'} f => f.2 10 (by decide) (by decide) (by decide)
  have hz1 : g1 186 10 = 0 ∨ g1 186 10 = 1 := by rw [z10 a2]; exact hz
  have b2 := mb_2 i24
  have b4 := mb_4 i24
  rw [mr_2, ci] at b2
  rw [mr_4, ci] at b4
  have q1 := hp1.2 i hi
  have start : mf_Mo_pass 186 (nI i) g = mf_Mo_pass_18 186 (nI i) (p i 0) (sv_way (p i 0)) g := by
    unfold mf_Mo_pass sv_way
    rw [if_neg (mb_1 i24), mr_1, ci, p0]
    by_cases c7 : p i 0 = 7
    · rw [if_pos c7, if_pos c7]
    · rw [if_neg c7, if_neg c7]
  rw [start]
  unfold mf_Mo_pass_18 mf_Mo_pass_132
  rw [a1, Option.bind_some, mr_4, ci, q1.2.2.2]
  unfold sv_step
  by_cases c9 : p i 0 = 9
  · rw [if_pos c9, if_neg b4, if_neg (show ¬ p i 0 = 11 by rw [c9]; decide), if_pos c9]
    obtain ⟨t, ht, et⟩ := in_t ok (Or.inr (Or.inr c9))
    rw [et, nI_clamp (by omega)]
    obtain ⟨g2, d1, d2, d3, d4, d5, d6⟩ := pf_Mo_come (t := t) (oc := some (σ i).2) hn (by omega) hp1.1 hR1 (fun c e => by cases e; exact a3) hσ (fun c e => by cases e; exact hσ i hl) hz1
    rw [if_neg (show ¬ b_i (some (σ i).2 : Option sv_F).isSome = 0 by show ¬ b_i true = 0; decide)] at d1
    rw [d1, Option.bind_some]
    refine ⟨g2, rfl, mo_f2_trans (mo_f12 a2) d2, d3, d4, fun h => ?_, fun h => ?_⟩
    · rw [← z10 a2]; exact d5 h
    · rw [← z10 a2]; exact d6 h
  · rw [if_neg c9]
    by_cases c78 : p i 0 = 7 ∨ p i 0 = 8
    · have n11 : ¬ p i 0 = 11 := by rcases c78 with z | z <;> rw [z] <;> decide
      have e55 : (if p i 0 = (7 : Int32) then mf_Mo_pass_55 186 (nI i) (sv_way (p i 0)) g1 else if p i 0 = (8 : Int32) then mf_Mo_pass_55 186 (nI i) (sv_way (p i 0)) g1 else if p i 0 = (11 : Int32) then some g1 else (mf_Mo_worked 186 (nI i) g1).bind fun v26 => if v26.1 = (0 : Int32) then some v26.2 else (mf_Mo_join 186 (nI i + (1 : Int32)) v26.2).bind fun v27 => some v27) = mf_Mo_pass_55 186 (nI i) (sv_way (p i 0)) g1 := by
        rcases c78 with z | z
        · rw [if_pos z]
        · rw [if_neg (by rw [z]; decide), if_pos z]
      rw [e55, if_neg n11, if_neg c9, if_pos c78]
      obtain ⟨a, ha, ea⟩ := in_a' ok c78
      obtain ⟨t, ht, et⟩ := in_t ok (by rcases c78 with z | z; exact Or.inl z; exact Or.inr (Or.inl z))
      have ca : (p i 1).toNatClampNeg = a := by rw [ea, nI_clamp (by omega)]
      have ct : (p i 3).toNatClampNeg = t := by rw [et, nI_clamp (by omega)]
      obtain ⟨t1, kt1⟩ := kp_way (p i 0)
      obtain ⟨t2, kt2⟩ := kp_oth (p i 0)
      rw [ca, ct]
      obtain ⟨g2, d1, d2, d3⟩ := pf_Mo_only (g := g1) ha a3 (hσ i hl a ha) (sv_way (p i 0))
      have ok1 : ∀ c, sv_keep (σ i).2 a (sv_way (p i 0)) = some c → sv_fok c := fun c e => (sv_keep_ok (hσ i hl) ha kt1 e).1
      have hR2 := ms_R_f1 hR1 d2
      have hp2 := mp_R_f2 hp1 (mo_f12 d2)
      obtain ⟨g3, e1, e2, e3, e4, e5, e6⟩ := pf_Mo_come (t := t) (oc := sv_keep (σ i).2 a (sv_way (p i 0))) hn (by omega) hp2.1 hR2 d3 hσ ok1 (by rw [z10 d2]; exact hz1)
      have s55 : mf_Mo_pass_55 186 (nI i) (sv_way (p i 0)) g1 = mf_Mo_pass_79 186 (nI i) (sv_way (p i 0)) g3 := by
        unfold mf_Mo_pass_55
        rw [if_neg (mb_2 i24), mr_2, mr_4, ci, q1.2.1, ea, d1, Option.bind_some]
        dsimp only
        rw [(hp2.2 i hi).2.2.2, et, if_neg b4]
        by_cases hb : b_i (sv_keep (σ i).2 a (sv_way (p i 0))).isSome = 0
        · rw [if_pos hb] at e1 ⊢
          cases e1; rfl
        · rw [if_neg hb] at e1 ⊢
          rw [e1, Option.bind_some]
      rw [s55]
      obtain ⟨s1, s2, -, -, -⟩ := sv_o_grow (n := n) (t := t) (oc := sv_keep (σ i).2 a (sv_way (p i 0))) hσ ok1
      have hmu1 : mu_n (sv_o n t (sv_keep (σ i).2 a (sv_way (p i 0))) σ) n ≤ mu_n σ n := mu_o_le hσ ok1
      generalize hτ : sv_o n t (sv_keep (σ i).2 a (sv_way (p i 0))) σ = τ at *
      have hl3 := (s2 i hl).1
      have hp3 := mp_R_f2 hp2 e2
      obtain ⟨g4, f1, f2, f3⟩ := pf_Mo_loadS hn hi e3 hl3
      have hp4 := mp_R_f2 hp3 (mo_f12 f2)
      obtain ⟨g5, l1, l2, l3⟩ := pf_Mo_only (g := g4) ha f3 (s1 i hl3 a ha) (sv_oth (p i 0))
      have ok2 : ∀ c, sv_keep (τ i).2 a (sv_oth (p i 0)) = some c → sv_fok c := fun c e => (sv_keep_ok (s1 i hl3) ha kt2 e).1
      have hR5 := ms_R_f1 (ms_R_f1 e3 f2) l2
      have hp5 := mp_R_f2 hp4 (mo_f12 l2)
      obtain ⟨g6, m1, m2, m3, m4, m5, m6⟩ := pf_Mo_come (t := i + 1) (oc := sv_keep (τ i).2 a (sv_oth (p i 0))) hn (by omega) hp5.1 hR5 l3 s1 ok2 (by rw [z10 l2, z10 f2]; exact e4)
      have h7 : (7 : Int32) - sv_way (p i 0) = sv_oth (p i 0) := by
        unfold sv_way sv_oth
        by_cases z : p i 0 = 7
        · rw [if_pos z, if_pos z]; decide
        · rw [if_neg z, if_neg z]; decide
      have s79 : mf_Mo_pass_79 186 (nI i) (sv_way (p i 0)) g3 = some g6 := by
        unfold mf_Mo_pass_79 mf_Mo_pass_132
        rw [f1, Option.bind_some, if_neg (mb_2 i24), mr_2, ci, (hp4.2 i hi).2.1, ea, h7, l1, Option.bind_some, nI_1]
        dsimp only
        by_cases hb : b_i (sv_keep (τ i).2 a (sv_oth (p i 0))).isSome = 0
        · rw [if_pos hb] at m1 ⊢
          exact m1
        · rw [if_neg hb] at m1 ⊢
          rw [m1, Option.bind_some]
      rw [s79]
      refine ⟨g6, rfl, mo_f2_trans (mo_f12 a2) (mo_f2_trans (mo_f12 d2) (mo_f2_trans e2 (mo_f2_trans (mo_f12 f2) (mo_f2_trans (mo_f12 l2) m2)))), m3, m4, fun h => ?_, fun h => ?_⟩
      · obtain ⟨x1, x2⟩ := m5 h
        rw [z10 l2, z10 f2] at x1
        obtain ⟨x3, x4⟩ := e5 x1
        rw [z10 d2, z10 a2] at x3
        exact ⟨x3, x2.trans x4⟩
      · have hmu2 : mu_n (sv_o n (i + 1) (sv_keep (τ i).2 a (sv_oth (p i 0))) τ) n ≤ mu_n τ n := mu_o_le s1 ok2
        rcases m6 h with x | x
        · rw [z10 l2, z10 f2] at x
          rcases e6 x with y | y
          · rw [z10 d2, z10 a2] at y
            exact Or.inl y
          · exact Or.inr (by omega)
        · exact Or.inr (by omega)
    · rw [if_neg (show ¬ p i 0 = 7 from fun z => c78 (Or.inl z)), if_neg (show ¬ p i 0 = 8 from fun z => c78 (Or.inr z))]
      by_cases c11 : p i 0 = 11
      · rw [if_pos c11, if_pos c11]
        exact ⟨g1, rfl, mo_f12 a2, hR1, hz1, fun h => ⟨by rw [← z10 a2]; exact h, rfl⟩, fun h => Or.inl (by rw [← z10 a2]; exact h)⟩
      · rw [if_neg c11, if_neg c11, if_neg c9, if_neg c78]
        obtain ⟨g2, d1, d2, d3⟩ := pf_Mo_worked hn hi hp1 ok a3 (hσ i hl)
        have ok1 : ∀ c, sv_thru (p i) (σ i).2 = some c → sv_fok c := fun c e => sv_thru_ok ok (hσ i hl) e
        have hp2 := mp_R_f2 hp1 (mo_f12 d2)
        obtain ⟨g3, e1, e2, e3, e4, e5, e6⟩ := pf_Mo_come (t := i + 1) (oc := sv_thru (p i) (σ i).2) hn (by omega) hp2.1 (ms_R_f1 hR1 d2) d3 hσ ok1 (by rw [z10 d2]; exact hz1)
        rw [d1, Option.bind_some, nI_1]
        dsimp only
        have : (if b_i (sv_thru (p i) (σ i).2).isSome = 0 then some g2 else (mf_Mo_join 186 (nI (i + 1)) g2).bind fun v27 => some v27) = some g3 := by
          by_cases hb : b_i (sv_thru (p i) (σ i).2).isSome = 0
          · rw [if_pos hb] at e1 ⊢
            exact e1
          · rw [if_neg hb] at e1 ⊢
            rw [e1, Option.bind_some]
        rw [this]
        refine ⟨g3, rfl, mo_f2_trans (mo_f12 a2) (mo_f2_trans (mo_f12 d2) e2), e3, e4, fun h => ?_, fun h => ?_⟩
        · obtain ⟨x1, x2⟩ := e5 h
          rw [z10 d2, z10 a2] at x1
          exact ⟨x1, x2⟩
        · rcases e6 h with x | x
          · rw [z10 d2, z10 a2] at x
            exact Or.inl x
          · exact Or.inr x
theorem sp_loop {n : Nat} {p : Nat → Nat → Int32} {σ0 : sv_S} (hn : n ≤ 24) (ok : ∀ i, i < n → in_ok (p i)) (h0 : sv_ok σ0) (K : wm_Sg → Option wm_Sg) : ∀ (k i : Nat), i + k = n → ∀ (f : Nat) (g : wm_Sg), mp_R n p g → ms_R n g (sv_pass n p i σ0) → (g 186 10 = 0 ∨ g 186 10 = 1) → (g 186 10 = 0 → sv_pass n p i σ0 = σ0) → (g 186 10 = 1 → mu_n (sv_pass n p i σ0) n < mu_n σ0 n) →
    ∃ g', lp_it (mf_Mo_solve_95 K 186) (f + k + 1) (nI i, g) = K g' ∧ mo_f2 g g' ∧ ms_R n g' (sv_pass n p n σ0) ∧ (g' 186 10 = 0 ∨ g' 186 10 = 1) ∧ (g' 186 10 = 0 → sv_pass n p n σ0 = σ0) ∧ (g' 186 10 = 1 → mu_n (sv_pass n p n σ0) n < mu_n σ0 n)
  | 0, i, hi, f, g, hp, hR, hz, e0, e1 => by
    have e : i = n := by omega
    subst e
    refine ⟨g, ?_, mo_f2_refl g, hR, hz, e0, e1⟩
    show mf_Mo_solve_95 K 186 _ _ = _
    unfold mf_Mo_solve_95
    dsimp only
    rw [if_pos (show g 186 0 ≤ nI i by rw [hp.1]; exact n_le (by omega) (by omega) (Nat.le_refl _))]
  | k + 1, i, hi, f, g, hp, hR, hz, e0, e1 => by
    have hin : i < n := by omega
    have i24 : i < 24 := by omega
    have b6 := mb_6 i24
    rw [mr_6, nI_clamp (by omega)] at b6
    obtain ⟨o1, o2⟩ := sv_pass_ok ok h0 i (by omega)
    have start : lp_it (mf_Mo_solve_95 K 186) (f + (k + 1) + 1) (nI i, g) = if g 191 i = 0 then lp_it (mf_Mo_solve_95 K 186) (f + k + 1) (nI (i + 1), g) else (mf_Mo_pass 186 (nI i) g).bind fun v11 => lp_it (mf_Mo_solve_95 K 186) (f + k + 1) (nI (i + 1), v11) := by
      show mf_Mo_solve_95 K 186 (lp_it (mf_Mo_solve_95 K 186) (f + k + 1)) _ = _
      generalize lp_it (mf_Mo_solve_95 K 186) (f + k + 1) = Kf
      unfold mf_Mo_solve_95 mf_Mo_solve_117
      dsimp only
      rw [if_neg (show ¬ g 186 0 ≤ nI i by rw [hp.1]; exact n_nle (by omega) (by omega) hin), mr_6, nI_clamp (by omega), if_neg b6, nI_1]
    rw [start]
    have hfl := (hR i hin).1
    have hstep : sv_pass n p (i + 1) σ0 = if (sv_pass n p i σ0 i).1 = true then sv_step n p i (sv_pass n p i σ0) else sv_pass n p i σ0 := rfl
    by_cases l : (sv_pass n p i σ0 i).1 = true
    · rw [if_neg (show ¬ g 191 i = 0 by rw [hfl, l]; decide)]
      rw [if_pos l] at hstep
      obtain ⟨g1, a1, a2, a3, a4, a5, a6⟩ := pf_Mo_pass hn hin hp hR o1 l (ok i hin) hz
      have hmu : mu_n (sv_step n p i (sv_pass n p i σ0)) n ≤ mu_n (sv_pass n p i σ0) n := (mu_sum (fun j => (mu_s1 o1 l (ok i hin) j).1) n).1
      rw [a1, Option.bind_some]
      obtain ⟨g', c1, c2, c3, c4, c5, c6⟩ := sp_loop hn ok h0 K k (i + 1) (by omega) f g1 (mp_R_f2 hp a2) (by rw [hstep]; exact a3) a4 (fun h => by
        obtain ⟨x1, x2⟩ := a5 h
        rw [hstep, x2]; exact e0 x1) (fun h => by
        rw [hstep]
        rcases a6 h with x | x
        · have := e1 x; omega
        · rcases hz with z | z
          · have := e0 z
            rw [this] at x ⊢; exact x
          · have := e1 z; omega)
      exact ⟨g', c1, mo_f2_trans a2 c2, c3, c4, c5, c6⟩
    · have l' : (sv_pass n p i σ0 i).1 = false := by cases hb : (sv_pass n p i σ0 i).1 <;> simp_all
      rw [if_pos (show g 191 i = 0 by rw [hfl, l']; rfl)]
      rw [if_neg l] at hstep
      obtain ⟨g', c1, c2, c3, c4, c5, c6⟩ := sp_loop hn ok h0 K k (i + 1) (by omega) f g hp (by rw [hstep]; exact hR) hz (by rw [hstep]; exact e0) (by rw [hstep]; exact e1)
      exact ⟨g', c1, c2, c3, c4, c5, c6⟩
theorem so_loop {n : Nat} {p : Nat → Nat → Int32} (hn : n ≤ 24) (ok : ∀ i, i < n → in_ok (p i)) : ∀ (m k : Nat), k + m ≤ 1999 → ∀ (f : Nat) (g : wm_Sg), mp_R n p g → ms_R n g (sv_it n p k (sv_0 n)) → g 186 10 = 1 → mu_n (sv_it n p k (sv_0 n)) n ≤ m →
    ∃ g', lp_it (mf_Mo_solve_81 186) (f + m + 2) g = some g' ∧ mo_f2 g g' ∧ ms_R n g' (sv_sol n p) ∧ g' 186 10 = 0 := by
  intro m
  induction m with
  | zero =>
    intro k hk f g hp hR h1 hm
    have h0 := sv_it_ok ok (sv_0_ok n) k
    have hu : mo_f2 g (wm_u g 186 10 0) := ⟨fun a h _ => wm_u_ne _ _ _ h, fun j h _ _ _ => by rw [wm_u_app, if_neg (fun z => h z.2)]⟩
    have hR0 : ms_R n (wm_u g 186 10 0) (sv_it n p k (sv_0 n)) := fun i hi => by
      have : ∀ q, ms_at (wm_u g 186 10 0) q = ms_at g q := fun q => by unfold ms_at; rw [wm_u_ne _ _ _ (by decide), wm_u_ne _ _ _ (by decide), wm_u_ne _ _ _ (by decide)]
      exact ⟨by rw [wm_u_ne _ _ _ (by decide)]; exact (hR i hi).1, fun l v hv => by rw [this]; exact (hR i hi).2 l v hv⟩
    have z0 : wm_u g 186 10 0 186 10 = 0 := by rw [wm_u_app, if_pos ⟨rfl, rfl⟩]
    obtain ⟨g1, a1, a2, a3, a4, a5, a6⟩ := sp_loop (σ0 := sv_it n p k (sv_0 n)) hn ok h0 (lp_it (mf_Mo_solve_81 186) (f + 0 + 1)) n 0 (by omega) (2099 - n) (wm_u g 186 10 0) (mp_R_f2 hp hu) hR0 (Or.inl z0) (fun _ => rfl) (fun h => by rw [z0] at h; exact absurd h (by decide))
    have g10 : g1 186 10 = 0 := by
      rcases a4 with z | z
      · exact z
      · have := a6 z; omega
    have hfix := a5 g10
    refine ⟨g1, ?_, mo_f2_trans hu a2, ?_, g10⟩
    · show mf_Mo_solve_81 186 (lp_it (mf_Mo_solve_81 186) (f + 0 + 1)) g = _
      have e2 : lp_it (mf_Mo_solve_81 186) (f + 0 + 1) g1 = some g1 := by
        show mf_Mo_solve_81 186 _ g1 = _
        unfold mf_Mo_solve_81
        rw [if_pos g10]
      generalize lp_it (mf_Mo_solve_81 186) (f + 0 + 1) = Kf at a1 e2 ⊢
      unfold mf_Mo_solve_81
      rw [if_neg (show ¬ g 186 10 = 0 by rw [h1]; decide)]
      have e : 2099 - n + n + 1 = 2100 := by omega
      rw [e] at a1
      exact a1.trans e2
    · have := sv_it_fix hfix 2000 (by omega)
      unfold sv_sol
      rw [this, ← hfix]; exact a3
  | succ m ih =>
    intro k hk f g hp hR h1 hm
    have h0 := sv_it_ok ok (sv_0_ok n) k
    have hu : mo_f2 g (wm_u g 186 10 0) := ⟨fun a h _ => wm_u_ne _ _ _ h, fun j h _ _ _ => by rw [wm_u_app, if_neg (fun z => h z.2)]⟩
    have hR0 : ms_R n (wm_u g 186 10 0) (sv_it n p k (sv_0 n)) := fun i hi => by
      have : ∀ q, ms_at (wm_u g 186 10 0) q = ms_at g q := fun q => by unfold ms_at; rw [wm_u_ne _ _ _ (by decide), wm_u_ne _ _ _ (by decide), wm_u_ne _ _ _ (by decide)]
      exact ⟨by rw [wm_u_ne _ _ _ (by decide)]; exact (hR i hi).1, fun l v hv => by rw [this]; exact (hR i hi).2 l v hv⟩
    have z0 : wm_u g 186 10 0 186 10 = 0 := by rw [wm_u_app, if_pos ⟨rfl, rfl⟩]
    obtain ⟨g1, a1, a2, a3, a4, a5, a6⟩ := sp_loop (σ0 := sv_it n p k (sv_0 n)) hn ok h0 (lp_it (mf_Mo_solve_81 186) (f + m + 2)) n 0 (by omega) (2099 - n) (wm_u g 186 10 0) (mp_R_f2 hp hu) hR0 (Or.inl z0) (fun _ => rfl) (fun h => by rw [z0] at h; exact absurd h (by decide))
    have stp : lp_it (mf_Mo_solve_81 186) (f + (m + 1) + 2) g = lp_it (mf_Mo_solve_81 186) (f + m + 2) g1 := by
      show mf_Mo_solve_81 186 (lp_it (mf_Mo_solve_81 186) (f + m + 2)) g = _
      generalize lp_it (mf_Mo_solve_81 186) (f + m + 2) = Kf at a1 ⊢
      unfold mf_Mo_solve_81
      rw [if_neg (show ¬ g 186 10 = 0 by rw [h1]; decide)]
      have e : 2099 - n + n + 1 = 2100 := by omega
      rw [e] at a1
      exact a1
    rw [stp]
    rcases a4 with z | z
    · have hfix := a5 z
      refine ⟨g1, ?_, mo_f2_trans hu a2, ?_, z⟩
      · show mf_Mo_solve_81 186 _ g1 = _
        unfold mf_Mo_solve_81
        rw [if_pos z]
      · have := sv_it_fix hfix 2000 (by omega)
        unfold sv_sol
        rw [this, ← hfix]; exact a3
    · have hlt := a6 z
      obtain ⟨g', c1, c2, c3⟩ := ih (k + 1) (by omega) f g1 (mp_R_f2 hp (mo_f2_trans hu a2)) a3 z (by show mu_n (sv_pass n p n (sv_it n p k (sv_0 n))) n ≤ m; omega)
      exact ⟨g', c1, mo_f2_trans hu (mo_f2_trans a2 c2), c3⟩
