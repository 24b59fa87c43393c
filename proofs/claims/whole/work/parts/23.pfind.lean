/-! finding the solution, in the class -/
theorem bg_loop : ∀ (k i : Nat), i + k = 24 → ∀ (f : Nat) (g : wm_Sg), ∃ g', lp_it (mf_So_begin_2 28) (f + k + 1) (nI i, g) = some g' ∧ (∀ a, a ≠ 30 → ¬ (37 ≤ a ∧ a < 181) → g' a = g a) ∧ (∀ j, 24 ≤ j → g' 30 j = g 30 j) ∧ (∀ j, i ≤ j → j < 24 → g' 30 j = if j = 0 then 1 else 0) ∧ (∀ j, j < i → 0 < j → g' 30 j = g 30 j) ∧ (∀ j, i ≤ j → j < 24 → 0 < j → g' (37 + 6 * j) 1 = 1) ∧ (∀ j, j < i → 0 < j → g' (37 + 6 * j) 1 = g (37 + 6 * j) 1) ∧ (g' 30 0 = 1) ∧ g' 37 1 = 0 ∧ ∀ v, v < 4 → st_f g' 37 v = (32, 0, 2)
  | 0, i, hi, f, g => by
    obtain ⟨k1, k2, k3, k4, k5, k6, k7, k8⟩ := so_k
    have e : i = 24 := by omega
    subst e
    obtain ⟨g1, a1, a2, a3, a4⟩ := pf_St_becomeZeros (o := 37) (st_kd 0 (by decide)) g
    have hu : ∀ a, a ≠ 30 → wm_u g1 30 0 1 a = g1 a := fun a ha => wm_u_ne _ _ _ ha
    refine ⟨wm_u g1 30 0 1, ?_, fun a h1 h2 => ?_, fun j hj => ?_, fun j h1 h2 => by omega, fun j h1 h2 => ?_, fun j h1 h2 => by omega, fun j h1 h2 => ?_, ?_, ?_, fun v hv => ?_⟩
    · show mf_So_begin_2 28 _ _ = _
      unfold mf_So_begin_2
      dsimp only
      have z0 : ((0 : Int32)).toNatClampNeg = 0 := rfl
      rw [if_pos (by decide), k1, k4, k2, k5, z0, so_s, if_neg (by decide), a1]
      show (if (0 : Int32) < 0 ∨ 24 ≤ 0 then none else some (wm_u g1 30 0 1)) = _
      rw [if_neg (by decide)]
    · rw [hu a h1]; exact a2.1 a (by omega) (by omega)
    · rw [wm_u_app, if_neg (fun z => by have := z.2; omega), a2.1 30 (by decide) (by omega)]
    · rw [wm_u_app, if_neg (fun z => by have := z.2; omega), a2.1 30 (by decide) (by omega)]
    · rw [hu _ (by omega), a2.1 _ (by omega) (by omega)]
    · rw [wm_u_app, if_pos ⟨rfl, rfl⟩]
    · rw [hu 37 (by decide)]; exact a3
    · have : st_f (wm_u g1 30 0 1) 37 v = st_f g1 37 v := fa_at_congr (hu _ (by omega))
      rw [this]; exact a4 v hv
  | k + 1, i, hi, f, g => by
    obtain ⟨k1, k2, k3, k4, k5, k6, k7, k8⟩ := so_k
    obtain ⟨g', h1, h2, h3, h4, h5, h6, h7, h8, h9, h10⟩ := bg_loop k (i + 1) (by omega) f (wm_u (wm_u g (37 + 6 * i) 1 1) 30 i 0)
    have c1 : ∀ a, a ≠ 30 → a ≠ 37 + 6 * i → wm_u (wm_u g (37 + 6 * i) 1 1) 30 i 0 a = g a := fun a b1 b2 => by rw [wm_u_ne _ _ _ b1, wm_u_ne _ _ _ b2]
    have c2 : ∀ j, j ≠ i → wm_u (wm_u g (37 + 6 * i) 1 1) 30 i 0 30 j = g 30 j := fun j hj => by rw [wm_u_app, if_neg (fun z => hj z.2), wm_u_ne _ _ _ (by omega)]
    have c3 : wm_u (wm_u g (37 + 6 * i) 1 1) 30 i 0 30 i = 0 := by rw [wm_u_app, if_pos ⟨rfl, rfl⟩]
    have c4 : wm_u (wm_u g (37 + 6 * i) 1 1) 30 i 0 (37 + 6 * i) 1 = 1 := by rw [wm_u_ne _ _ _ (by omega), wm_u_app, if_pos ⟨rfl, rfl⟩]
    refine ⟨g', ?_, fun a a1 a2 => ?_, fun j hj => ?_, fun j j1 j2 => ?_, fun j j1 j2 => ?_, fun j j1 j2 j3 => ?_, fun j j1 j2 => ?_, h8, h9, h10⟩
    · show mf_So_begin_2 28 (lp_it (mf_So_begin_2 28) (f + k + 1)) _ = _
      generalize lp_it (mf_So_begin_2 28) (f + k + 1) = Kf at h1 ⊢
      unfold mf_So_begin_2
      dsimp only
      rw [if_neg (n_nle24 (by omega)), k1, k4, k2, k5, if_neg (in24 (by omega)), if_neg (in24 (by omega)), nI_clamp (by omega), so_s, nI_1]
      exact h1
    · rw [h2 a a1 a2]; exact c1 a a1 (by omega)
    · rw [h3 j hj]; exact c2 j (by omega)
    · by_cases e : j = i
      · subst e
        by_cases z : j = 0
        · subst z; rw [if_pos rfl]; exact h8
        · rw [if_neg z, h5 j (by omega) (by omega)]; exact c3
      · exact h4 j (by omega) j2
    · rw [h5 j (by omega) j2]; exact c2 j (by omega)
    · by_cases e : j = i
      · subst e; rw [h7 j (by omega) j3]; exact c4
      · exact h6 j (by omega) j2 j3
    · rw [h7 j (by omega) j2, c1 _ (by omega) (by omega)]
def so_w0 (j : Nat) : Bool := decide (j = 0)
theorem pf_So_begin {n : Nat} (hn : n ≤ 24) (g : wm_Sg) : ∃ g', mf_So_begin 28 g = some g' ∧ so_fr g g' ∧ so_R n g' (sv_0 n) so_w0 := by
  obtain ⟨g', h1, h2, h3, h4, h5, h6, h7, h8, h9, h10⟩ := bg_loop 24 0 rfl 2075 g
  refine ⟨g', h1, ⟨fun a a1 a2 a3 => h2 a a1 (by omega), h3⟩, fun i hi => ?_, fun i hi => ?_⟩
  · by_cases e : i = 0
    · subst e
      have l : (sv_0 n 0).1 = true := decide_eq_true ⟨rfl, hi⟩
      rw [l]
      exact ⟨h9, fun _ v hv => h10 v hv⟩
    · have l : (sv_0 n i).1 = false := decide_eq_false (fun z => e z.1)
      rw [l]
      exact ⟨h6 i (by omega) (by omega) (by omega), fun z => by cases z⟩
  · rw [h4 i (by omega) hi]
    unfold so_w0
    by_cases e : i = 0
    · rw [if_pos e, decide_eq_true e]; rfl
    · rw [if_neg e, decide_eq_false e]; rfl
theorem fi_pass {n : Nat} {p : Nat → Nat → Int32} {σ0 : sv_S} (hn : n ≤ 24) (ok : ∀ i, i < n → in_ok (p i)) (K : Int32 × Int32 × wm_Sg → Option wm_Sg) (b3 : Int32) : ∀ (k i : Nat), i + k = n → ∀ (f : Nat) (m : Bool) (g : wm_Sg) (w : Nat → Bool), pr_R n p g → so_R n g (sv_pass n p i σ0) w → sv_inv n p (sv_pass n p i σ0) w →
    ∃ g' w' m', lp_it (mf_So_find_32 K 28 1 b3) (f + k + 1) (b_i m, nI i, g) = K (b_i m', b3 + 1, g') ∧ so_fr g g' ∧ so_R n g' (sv_pass n p n σ0) w' ∧ sv_inv n p (sv_pass n p n σ0) w' ∧ (m' = false → m = false ∧ (∀ j, i ≤ j → j < n → w j = false) ∧ w' = w ∧ sv_pass n p n σ0 = sv_pass n p i σ0)
  | 0, i, hi, f, m, g, w, hp, hR, hI => by
    have e : i = n := by omega
    subst e
    refine ⟨g, w, m, ?_, so_fr_refl g, hR, hI, fun h => ⟨h, fun j h1 h2 => by omega, rfl, rfl⟩⟩
    show mf_So_find_32 K 28 1 b3 _ _ = _
    unfold mf_So_find_32
    dsimp only
    rw [if_pos (show g 1 1 ≤ nI i by rw [hp.1]; exact n_le (by omega) (by omega) (Nat.le_refl _))]
  | k + 1, i, hi, f, m, g, w, hp, hR, hI => by
    obtain ⟨k1, k2, k3, k4, k5, k6, k7, k8⟩ := so_k
    have i24 : i < 24 := by omega
    have hin : i < n := by omega
    have hwi := hR.2 i i24
    have start : lp_it (mf_So_find_32 K 28 1 b3) (f + (k + 1) + 1) (b_i m, nI i, g) = if g 30 i = 0 then lp_it (mf_So_find_32 K 28 1 b3) (f + k + 1) (b_i m, nI i + 1, g) else (mf_So_carry 28 1 (nI i) (wm_u g 30 i 0)).bind fun v4 => lp_it (mf_So_find_32 K 28 1 b3) (f + k + 1) (1, nI i + 1, v4) := by
      show mf_So_find_32 K 28 1 b3 (lp_it (mf_So_find_32 K 28 1 b3) (f + k + 1)) _ = _
      generalize lp_it (mf_So_find_32 K 28 1 b3) (f + k + 1) = Kf
      unfold mf_So_find_32 mf_So_find_68
      dsimp only
      rw [if_neg (show ¬ g 1 1 ≤ nI i by rw [hp.1]; exact n_nle (by omega) (by omega) hin), k2, k5, if_neg (in24 i24), if_neg (in24 i24), nI_clamp (by omega)]
    rw [start, nI_1, hwi]
    have hstep : sv_pass n p (i + 1) σ0 = if (sv_pass n p i σ0 i).1 = true then sv_step n p i (sv_pass n p i σ0) else sv_pass n p i σ0 := rfl
    cases hw : w i with
    | false =>
      rw [if_pos (show b_i false = 0 from rfl)]
      have hs := sv_inv_skip hI hin hw
      rw [hs] at hstep
      obtain ⟨g', w', m', a1, a2, a3, a4, a5⟩ := fi_pass hn ok K b3 k (i + 1) (by omega) f m g w hp (by rw [hstep]; exact hR) (by rw [hstep]; exact hI)
      refine ⟨g', w', m', a1, a2, a3, a4, fun h => ?_⟩
      obtain ⟨b1, b2, b3, b4⟩ := a5 h
      refine ⟨b1, fun j h1 h2 => ?_, b3, b4.trans hstep⟩
      by_cases e : j = i
      · rw [e]; exact hw
      · exact b2 j (by omega) h2
    | true =>
      rw [if_neg (by decide)]
      have hl := hI.2.1 i hin hw
      rw [if_pos hl] at hstep
      have hR1 : so_R n (wm_u g 30 i 0) (sv_pass n p i σ0) (fun j => if j = i then false else w j) := by
        refine ⟨fun j hj => ?_, fun j hj => ?_⟩
        · have hc : ∀ a, 37 ≤ a → wm_u g 30 i 0 a = g a := fun a ha => wm_u_ne _ _ _ (by omega)
          refine ⟨by rw [hc _ (by omega)]; exact (hR.1 j hj).1, fun l v hv => ?_⟩
          have : st_f (wm_u g 30 i 0) (37 + 6 * j) v = st_f g (37 + 6 * j) v := fa_at_congr (hc _ (by omega))
          rw [this]; exact (hR.1 j hj).2 l v hv
        · rw [wm_u_app]
          show _ = b_i (if j = i then false else w j)
          by_cases e : j = i
          · rw [if_pos ⟨rfl, e⟩, if_pos e]; rfl
          · rw [if_neg (fun z => e z.2), if_neg e]; exact hR.2 j hj
      have hfr1 : so_fr g (wm_u g 30 i 0) := ⟨fun a h1 _ _ => wm_u_ne _ _ _ h1, fun j hj => by rw [wm_u_app, if_neg (fun z => by have := z.2; omega)]⟩
      obtain ⟨g2, w2, c1, c2, c3, c4, c5⟩ := pf_So_carry hn hin (pr_R_fr hn hp hfr1) hR1 hI.1 hl (ok i hin)
      rw [c1]
      obtain ⟨-, gl, -⟩ := sv_step_grow (n := n) hI.1 hl (ok i hin)
      have hI2 : sv_inv n p (sv_step n p i (sv_pass n p i σ0)) w2 := sv_inv_do hI hin hw (ok i hin) (fun j hj h => by
        obtain ⟨x1, x2⟩ := c4 j h
        refine ⟨x2, ?_⟩
        by_cases e : j = i
        · exact Or.inl e
        · have x1 : (if j = i then false else w j) = false := x1
          rw [if_neg e] at x1
          exact Or.inr x1) (fun j hj h => by
        rcases c5 j h with x | x
        · have x : (if j = i then false else w j) = true := x
          by_cases e : j = i
          · rw [if_pos e] at x; cases x
          · rw [if_neg e] at x
            exact (gl j (hI.2.1 j hj x)).1
        · exact x)
      have hfr2 := so_fr_trans hfr1 c2
      obtain ⟨g', w', m', a1, a2, a3, a4, a5⟩ := fi_pass hn ok K b3 k (i + 1) (by omega) f true g2 w2 (pr_R_fr hn hp hfr2) (by rw [hstep]; exact c3) (by rw [hstep]; exact hI2)
      exact ⟨g', w', m', a1, so_fr_trans hfr2 a2, a3, a4, fun h => absurd (a5 h).1 (by decide)⟩
theorem fi_out {n : Nat} {p : Nat → Nat → Int32} (hn : n ≤ 24) (ok : ∀ i, i < n → in_ok (p i)) : ∀ (k q : Nat), q + k = 2000 → ∀ (f : Nat) (m : Bool) (g : wm_Sg) (w : Nat → Bool), pr_R n p g → so_R n g (sv_it n p q (sv_0 n)) w → sv_inv n p (sv_it n p q (sv_0 n)) w → (m = false → sv_pass n p n (sv_it n p q (sv_0 n)) = sv_it n p q (sv_0 n)) →
    ∃ g' w', lp_it (mf_So_find_16 28 1) (f + k + 1) (b_i m, nI q, g) = some (wm_u g' 28 1 1) ∧ so_fr g g' ∧ so_R n g' (sv_sol n p) w'
  | k, q, hq, f, false, g, w, hp, hR, hI, hm => by
    refine ⟨g, w, ?_, so_fr_refl g, ?_⟩
    · show mf_So_find_16 28 1 _ _ = _
      unfold mf_So_find_16 mf_So_find_80
      dsimp only
      rw [if_pos (show b_i false = 0 from rfl)]
    · have := sv_it_fix (hm rfl) 2000 (by omega)
      unfold sv_sol
      rw [this]; exact hR
  | 0, q, hq, f, true, g, w, hp, hR, hI, hm => by
    have e : q = 2000 := by omega
    subst e
    refine ⟨g, w, ?_, so_fr_refl g, hR⟩
    show mf_So_find_16 28 1 _ _ = _
    unfold mf_So_find_16 mf_So_find_80
    dsimp only
    rw [if_neg (by decide), if_pos (by decide)]
  | k + 1, q, hq, f, true, g, w, hp, hR, hI, hm => by
    obtain ⟨g1, w1, m1, a1, a2, a3, a4, a5⟩ := fi_pass (σ0 := sv_it n p q (sv_0 n)) hn ok (lp_it (mf_So_find_16 28 1) (f + k + 1)) (nI q) n 0 (by omega) (2099 - n) false g w hp hR hI
    obtain ⟨g', w', b1, b2, b3⟩ := fi_out hn ok k (q + 1) (by omega) f m1 g1 w1 (pr_R_fr hn hp a2) a3 a4 (fun h => by
      obtain ⟨c1, c2, c3, c4⟩ := a5 h
      subst c3
      exact sv_inv_end a4 (fun j hj => c2 j (Nat.zero_le _) hj))
    refine ⟨g', w', ?_, so_fr_trans a2 b2, b3⟩
    rw [nI_1] at a1
    show mf_So_find_16 28 1 (lp_it (mf_So_find_16 28 1) (f + k + 1)) _ = _
    generalize lp_it (mf_So_find_16 28 1) (f + k + 1) = Kf at a1 b1 ⊢
    unfold mf_So_find_16
    dsimp only
    rw [if_neg (by decide), if_neg (show ¬ (2000 : Int32) ≤ nI q from n_nle (a := 2000) (by decide) (by omega) (by omega))]
    have e : 2099 - n + n + 1 = 2100 := by omega
    rw [e] at a1
    exact a1.trans b1
/-- find: the states are the solution's, found is told -/
theorem pf_So_find {n : Nat} {p : Nat → Nat → Int32} {g : wm_Sg} (hn : n ≤ 24) (ok : ∀ i, i < n → in_ok (p i)) (hp : pr_R n p g) (h0 : g 28 1 = 0) : ∃ g' w, mf_So_find 28 1 g = some (wm_u g' 28 1 1) ∧ so_fr g g' ∧ so_R n g' (sv_sol n p) w := by
  obtain ⟨g1, a1, a2, a3⟩ := pf_So_begin hn g
  have hI : sv_inv n p (sv_0 n) so_w0 := by
    rcases Nat.eq_zero_or_pos n with e | e
    · subst e
      exact ⟨sv_0_ok 0, fun j hj => absurd hj (Nat.not_lt_zero _), fun j hj => absurd hj (Nat.not_lt_zero _)⟩
    · exact sv_inv_0 e (decide_eq_true rfl) (fun j h1 _ => decide_eq_false (by omega))
  obtain ⟨g', w, b1, b2, b3⟩ := fi_out hn ok 2000 0 rfl 99 true g1 so_w0 (pr_R_fr hn hp a2) a3 hI (fun h => by cases h)
  refine ⟨g', w, ?_, so_fr_trans a2 b2, b3⟩
  unfold mf_So_find
  rw [if_pos h0, a1]
  exact b1
