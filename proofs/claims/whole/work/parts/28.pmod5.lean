/-! the reference solves -/
def mo_f3 (g g' : wm_Sg) : Prop := (∀ a, a ≠ 186 → ¬ (191 ≤ a ∧ a ≤ 197) → g' a = g a) ∧ ∀ j, j ≠ 5 → j ≠ 10 → j ≠ 14 → j ≠ 15 → j ≠ 16 → g' 186 j = g 186 j
theorem mo_f3_refl (g : wm_Sg) : mo_f3 g g := ⟨fun _ _ _ => rfl, fun _ _ _ _ _ _ => rfl⟩
theorem mo_f3_trans {g g' g'' : wm_Sg} (a : mo_f3 g g') (b : mo_f3 g' g'') : mo_f3 g g'' := ⟨fun x h1 h2 => (b.1 x h1 h2).trans (a.1 x h1 h2), fun j h0 h1 h2 h3 h4 => (b.2 j h0 h1 h2 h3 h4).trans (a.2 j h0 h1 h2 h3 h4)⟩
theorem mo_f23 {g g' : wm_Sg} (a : mo_f2 g g') : mo_f3 g g' := ⟨a.1, fun j _ h1 h2 h3 h4 => a.2 j h1 h2 h3 h4⟩
theorem s15_loop : ∀ (k i : Nat), i + k = 24 → ∀ (f : Nat) (g : wm_Sg), ∃ g', lp_it (mf_Mo_solve_15 186) (f + k + 1) (nI i, g) = lp_it (mf_Mo_solve_36 186) 2100 (0, g') ∧ (∀ a, a ≠ 191 → g' a = g a) ∧ (∀ j, i ≤ j → j < 24 → g' 191 j = 0) ∧ ∀ j, j < i → g' 191 j = g 191 j
  | 0, i, hi, f, g => by
    have e : i = 24 := by omega
    subst e
    refine ⟨g, ?_, fun _ _ => rfl, fun j h1 h2 => by omega, fun _ _ => rfl⟩
    show mf_Mo_solve_15 186 _ _ = _
    unfold mf_Mo_solve_15
    dsimp only
    rw [if_pos (by decide)]
  | k + 1, i, hi, f, g => by
    obtain ⟨g', h1, h2, h3, h4⟩ := s15_loop k (i + 1) (by omega) f (wm_u g 191 i 0)
    refine ⟨g', ?_, fun a ha => by rw [h2 a ha]; exact wm_u_ne _ _ _ ha, fun j j1 j2 => ?_, fun j hj => by rw [h4 j (by omega), wm_u_app, if_neg (fun z => by have := z.2; omega)]⟩
    · show mf_Mo_solve_15 186 (lp_it (mf_Mo_solve_15 186) (f + k + 1)) _ = _
      generalize lp_it (mf_Mo_solve_15 186) (f + k + 1) = Kf at h1 ⊢
      unfold mf_Mo_solve_15
      dsimp only
      rw [if_neg (n_nle24 (by omega)), if_neg (mb_6 (by omega)), mr_6, nI_clamp (by omega), nI_1]
      exact h1
    · by_cases e : j = i
      · subst e; rw [h4 j (by omega), wm_u_app, if_pos ⟨rfl, rfl⟩]
      · exact h3 j (by omega) j2
theorem s36_loop : ∀ (k v : Nat), v + k = 4 → ∀ (f : Nat) (g : wm_Sg), ∃ g', lp_it (mf_Mo_solve_36 186) (f + k + 1) (nI v, g) = ((mf_Mo_join 186 0 g').bind fun v13 => if (v13 186 0) ≤ (0 : Int32) then mf_Mo_solve_78 186 0 186 v13 else mf_Mo_solve_78 186 1 186 v13) ∧ mo_f1 g g' ∧ (∀ w, v ≤ w → w < 4 → kf_at g' w = (32, 0, 2)) ∧ ∀ w, w < v → kf_at g' w = kf_at g w
  | 0, v, hv, f, g => by
    have e : v = 4 := by omega
    subst e
    refine ⟨g, ?_, mo_f1_refl g, fun w h1 h2 => by omega, fun _ _ => rfl⟩
    show mf_Mo_solve_36 186 _ _ = _
    unfold mf_Mo_solve_36
    dsimp only
    rw [if_pos (by decide)]
  | k + 1, v, hv, f, g => by
    obtain ⟨g', h1, h2, h3, h4⟩ := s36_loop k (v + 1) (by omega) f (kf_set (nw_set g (32, 0, 2)) v (32, 0, 2))
    refine ⟨g', ?_, mo_f1_trans (mo_f1_trans (mo_f1_nw g _) (mo_f1_kf _ _ _)) h2, fun w w1 w2 => ?_, fun w hw => ?_⟩
    · show mf_Mo_solve_36 186 (lp_it (mf_Mo_solve_36 186) (f + k + 1)) _ = _
      generalize lp_it (mf_Mo_solve_36 186) (f + k + 1) = Kf at h1 ⊢
      unfold mf_Mo_solve_36
      dsimp only
      rw [if_neg (n_nle4 (by omega)), pf_Mo_result, Option.bind_some, pf_Mo_take (by omega), Option.bind_some, nw_set_at, nI_1]
      exact h1
    · by_cases e : w = v
      · subst e; rw [h4 w (by omega), kf_set_at, if_pos rfl]
      · exact h3 w (by omega) w2
    · rw [h4 w (by omega), kf_set_at, if_neg (by omega), kf_nw]
theorem pf_Mo_solve {n : Nat} {p : Nat → Nat → Int32} {g : wm_Sg} (hn : n ≤ 24) (ok : ∀ i, i < n → in_ok (p i)) (hp : mp_R n p g) (h0 : g 186 5 = 0) (hz : g 186 10 = 0 ∨ g 186 10 = 1) : ∃ g', mf_Mo_solve 186 g = some g' ∧ mo_f3 g g' ∧ ms_R n g' (sv_sol n p) ∧ g' 186 5 = 1 ∧ (g' 186 10 = 0 ∨ g' 186 10 = 1) := by
  obtain ⟨g1, a1, a2, a3, -⟩ := s15_loop 24 0 rfl 2075 (wm_u g 186 5 1)
  obtain ⟨g2, b1, b2, b3, -⟩ := s36_loop 4 0 rfl 2095 g1
  have f1 : mo_f3 g g1 := ⟨fun a h1 h2 => by rw [a2 a (by omega)]; exact wm_u_ne _ _ _ h1, fun j h1 _ _ _ _ => by rw [a2 186 (by decide), wm_u_app, if_neg (fun z => h1 z.2)]⟩
  have f2 : mo_f3 g g2 := mo_f3_trans f1 (mo_f23 (mo_f12 b2))
  have g5 : g2 186 5 = 1 := by rw [b2.2 5 (by decide) (by decide) (by decide), a2 186 (by decide), wm_u_app, if_pos ⟨rfl, rfl⟩]
  have hp2 : g2 186 0 = nI n := by rw [f2.2 0 (by decide) (by decide) (by decide) (by decide) (by decide)]; exact hp.1
  have g10 : g2 186 10 = 0 ∨ g2 186 10 = 1 := by rw [b2.2 10 (by decide) (by decide) (by decide), a2 186 (by decide), wm_u_app, if_neg (by decide)]; exact hz
  have hR2 : ms_R n g2 (fun _ => (false, fun _ => (32, 0, 2))) := fun i hi => ⟨by rw [b2.1 191 (by decide) (by decide) (by decide) (by decide), a3 i (by omega) (by omega)]; rfl, fun l => by cases l⟩
  have hI : sv_ok (fun _ => (false, fun _ => (32, 0, 2)) : sv_S) := fun i l => by cases l
  obtain ⟨g3, c1, c2, c3, c4, -, -⟩ := pf_Mo_join (t := 0) (c := fun _ => (32, 0, 2)) hn (by decide) hp2 hR2 (fun v hv => b3 v (by omega) hv) hI (fun v hv => ft_zero_ok) g10
  have e0 : sv_jn n 0 (fun _ => (32, 0, 2)) (fun _ => (false, fun _ => (32, 0, 2))) = sv_0 n := funext (fun i => by
    unfold sv_jn sv_0
    by_cases h : i = 0 ∧ 0 < n
    · rw [if_pos h, decide_eq_true h, if_neg (by decide)]
    · rw [if_neg h, decide_eq_false h])
  rw [e0] at c3
  have f3 : mo_f3 g g3 := mo_f3_trans f2 (mo_f23 c2)
  have g5' : g3 186 5 = 1 := by rw [c2.2 5 (by decide) (by decide) (by decide) (by decide)]; exact g5
  have hp3 : g3 186 0 = nI n := by rw [c2.2 0 (by decide) (by decide) (by decide) (by decide)]; exact hp2
  have start : mf_Mo_solve 186 g = if g3 186 0 ≤ (0 : Int32) then mf_Mo_solve_78 186 0 186 g3 else mf_Mo_solve_78 186 1 186 g3 := by
    unfold mf_Mo_solve
    rw [if_pos h0]
    have c1 : mf_Mo_join 186 0 g2 = some g3 := c1
    rw [c1, Option.bind_some] at b1
    exact a1.trans b1
  rw [start]
  have hu : ∀ x : Int32, mo_f2 g3 (wm_u g3 186 10 x) := fun x => ⟨fun a h _ => wm_u_ne _ _ _ h, fun j h _ _ _ => by rw [wm_u_app, if_neg (fun z => h z.2)]⟩
  have hmR : ∀ x : Int32, ms_R n (wm_u g3 186 10 x) (sv_0 n) := fun x i hi => by
    have : ∀ q, ms_at (wm_u g3 186 10 x) q = ms_at g3 q := fun q => by unfold ms_at; rw [wm_u_ne _ _ _ (by decide), wm_u_ne _ _ _ (by decide), wm_u_ne _ _ _ (by decide)]
    exact ⟨by rw [wm_u_ne _ _ _ (by decide)]; exact (c3 i hi).1, fun l v hv => by rw [this]; exact (c3 i hi).2 l v hv⟩
  rcases Nat.eq_zero_or_pos n with e | e
  · rw [if_pos (show g3 186 0 ≤ (0 : Int32) by rw [hp3, e]; decide)]
    refine ⟨wm_u g3 186 10 0, ?_, mo_f3_trans f3 (mo_f23 (hu 0)), fun i hi => by omega, ?_, Or.inl ?_⟩
    · unfold mf_Mo_solve_78
      rw [if_pos (Or.inl rfl)]
      show mf_Mo_solve_81 186 _ _ = _
      unfold mf_Mo_solve_81
      rw [if_pos (by rw [wm_u_app, if_pos ⟨rfl, rfl⟩])]
    · rw [wm_u_app, if_neg (by decide)]; exact g5'
    · rw [wm_u_app, if_pos ⟨rfl, rfl⟩]
  · rw [if_neg (show ¬ g3 186 0 ≤ (0 : Int32) by rw [hp3]; exact n_nle (b := 0) (by omega) (by decide) e)]
    have hmp : mp_R n p (wm_u g3 186 10 1) := by
      have f4 := mo_f3_trans f3 (mo_f23 (hu 1))
      refine ⟨by rw [f4.2 0 (by decide) (by decide) (by decide) (by decide) (by decide)]; exact hp.1, fun i hi => ?_⟩
      rw [f4.1 187 (by decide) (by omega), f4.1 188 (by decide) (by omega), f4.1 189 (by decide) (by omega), f4.1 190 (by decide) (by omega)]; exact hp.2 i hi
    have hm := mu_n_le (sv_0_ok n) n
    obtain ⟨g', d1, d2, d3, d4⟩ := so_loop hn ok 1848 0 (by decide) 250 (wm_u g3 186 10 1) hmp (hmR 1) (by rw [wm_u_app, if_pos ⟨rfl, rfl⟩]) (by show mu_n (sv_0 n) n ≤ 1848; omega)
    refine ⟨g', ?_, mo_f3_trans f3 (mo_f3_trans (mo_f23 (hu 1)) (mo_f23 d2)), d3, ?_, ?_⟩
    · unfold mf_Mo_solve_78
      rw [if_pos (Or.inr rfl)]
      exact d1
    · rw [d2.2 5 (by decide) (by decide) (by decide) (by decide), wm_u_app, if_neg (by decide)]; exact g5'
    · exact Or.inl d4
