/-! states: one at o has its flag (1: NONE) in g o 1, its facts at o + 2 + v -/
theorem st_form : ∀ o, kd o = 4 → o = 31 ∨ ∃ i, i < 24 ∧ o = 37 + 6 * i := by
  intro o h
  have h1 := kd_lt (o := o) (by rw [h]; decide)
  have := (by decide +kernel : ∀ o, o < 201 → kd o = 4 → o = 31 ∨ (o - 37) / 6 < 24 ∧ o = 37 + 6 * ((o - 37) / 6)) o h1 h
  rcases this with e | e
  · exact Or.inl e
  · exact Or.inr ⟨_, e.1, e.2⟩
theorem st_kd (i : Nat) (h : i < 24) : kd (37 + 6 * i) = 4 := (by decide +kernel : ∀ i, i < 24 → kd (37 + 6 * i) = 4) i h
theorem st_ap {o q : Nat} (ho : kd o = 4) (hq : kd q = 4) (h : o ≠ q) : o + 6 ≤ q ∨ q + 6 ≤ o := by
  rcases st_form o ho with rfl | ⟨i, hi, rfl⟩ <;> rcases st_form q hq with rfl | ⟨j, hj, rfl⟩ <;> omega
theorem st_r {o : Nat} (h : kd o = 4) : sh_r o 0 = o + 1 := by unfold sh_r; rw [h] <;> rfl
theorem st_n {o : Nat} (h : kd o = 4) : sh_n (o + 1) = 4 := (by decide +kernel : ∀ o, o < 201 → kd o = 4 → sh_n (o + 1) = 4) o (kd_lt (by rw [h]; decide)) h
theorem st_e {o : Nat} (h : kd o = 4) (v : Nat) : sh_r (o + 1) v = o + 2 + v := by
  have e : kd (o + 1) = 23 := (by decide +kernel : ∀ o, o < 201 → kd o = 4 → kd (o + 1) = 23) o (kd_lt (by rw [h]; decide)) h
  unfold sh_r
  rw [e]
  show o + 1 + 1 + v = _
  omega
def st_f (g : wm_Sg) (o : Nat) : sv_F := fun v => fa_at g (o + 2 + v)
/-- outside of the state at o nothing changes -/
def st_fr (o : Nat) (g g' : wm_Sg) : Prop := (∀ a, a ≠ o → ¬ (o + 2 ≤ a ∧ a < o + 6) → g' a = g a) ∧ ∀ j, j ≠ 1 → g' o j = g o j
theorem st_in {v : Nat} (h : v < 4) : ¬ (nI v < 0 ∨ 4 ≤ (nI v).toNatClampNeg) := nI_in h (by decide)
theorem n_le {a b : Nat} (ha : a < 2 ^ 31) (hb : b < 2 ^ 31) (h : a ≤ b) : nI a ≤ nI b := (nI_leI ha hb).mpr h
theorem n_nle {a b : Nat} (ha : a < 2 ^ 31) (hb : b < 2 ^ 31) (h : b < a) : ¬ nI a ≤ nI b := fun q => by have := (nI_leI ha hb).mp q; omega
theorem n_nle4 {v : Nat} (h : v < 4) : ¬ (4 : Int32) ≤ nI v := n_nle (a := 4) (by decide) (by omega) h
theorem n_nle24 {v : Nat} (h : v < 24) : ¬ (24 : Int32) ≤ nI v := n_nle (a := 24) (by decide) (by omega) h
theorem fa_at_congr {g h : wm_Sg} {a : Nat} (e : g a = h a) : fa_at g a = fa_at h a := by
  unfold fa_at; rw [e]
theorem sm_loop {o q : Nat} (ho : kd o = 4) (hq : kd q = 4) (hne : o ≠ q) : ∀ (k v : Nat), v + k = 4 → ∀ (f : Nat) (g : wm_Sg), ∃ g', lp_it (mf_St_becomeSame_10 o q) (f + k + 1) (nI v, g) = some g' ∧ (∀ a, ¬ (o + 2 + v ≤ a ∧ a < o + 6) → g' a = g a) ∧ ∀ w, v ≤ w → w < 4 → fa_at g' (o + 2 + w) = fa_at g (q + 2 + w)
  | 0, v, hv, f, g => by
    have e : v = 4 := by omega
    subst e
    refine ⟨g, ?_, fun _ _ => rfl, fun w h1 h2 => by omega⟩
    show mf_St_becomeSame_10 o q _ _ = _
    unfold mf_St_becomeSame_10
    dsimp only
    rw [if_pos (by decide)]
  | k + 1, v, hv, f, g => by
    obtain ⟨g', h1, h2, h3⟩ := sm_loop ho hq hne k (v + 1) (by omega) f (fa_set g (o + 2 + v) (fa_at g (q + 2 + v)))
    have hap := st_ap ho hq hne
    refine ⟨g', ?_, fun a ha => ?_, fun w w1 w2 => ?_⟩
    · show mf_St_becomeSame_10 o q (lp_it (mf_St_becomeSame_10 o q) (f + k + 1)) _ = _
      generalize lp_it (mf_St_becomeSame_10 o q) (f + k + 1) = Kf at h1 ⊢
      unfold mf_St_becomeSame_10
      dsimp only
      rw [if_neg (n_nle4 (by omega)), st_r ho, st_r hq, st_n ho, st_n hq, if_neg (st_in (by omega)), if_neg (st_in (by omega)), nI_clamp (by omega), st_e ho, st_e hq, pf_Fa_becomeSame]
      show Kf (nI v + 1, _) = _
      rw [nI_1]
      exact h1
    · rw [h2 a (by omega)]
      exact fa_set_ne _ _ (by omega)
    · by_cases e : w = v
      · subst e
        have : fa_at g' (o + 2 + w) = fa_at (fa_set g (o + 2 + w) (fa_at g (q + 2 + w))) (o + 2 + w) := fa_at_congr (h2 (o + 2 + w) (by omega))
        rw [this, fa_set_at]
      · rw [h3 w (by omega) w2]
        exact fa_at_ne _ _ (by omega)
theorem pf_St_becomeSame {o q : Nat} (ho : kd o = 4) (hq : kd q = 4) (hne : o ≠ q) {g : wm_Sg} (hz : g q 1 = 0 ∨ g q 1 = 1) : ∃ g', mf_St_becomeSame o q g = some g' ∧ st_fr o g g' ∧ g' o 1 = g q 1 ∧ ∀ v, v < 4 → st_f g' o v = st_f g q v := by
  have hap := st_ap ho hq hne
  obtain ⟨g', h1, h2, h3⟩ := sm_loop ho hq hne 4 0 rfl 2095 (wm_u g o 1 (g q 1))
  refine ⟨g', ?_, ⟨fun a a1 a2 => ?_, fun j hj => ?_⟩, ?_, fun v hv => ?_⟩
  · unfold mf_St_becomeSame
    rw [if_pos hz]; exact h1
  · rw [h2 a (by omega)]; exact wm_u_ne _ _ _ a1
  · rw [h2 o (by omega), wm_u_app, if_neg (fun z => hj z.2)]
  · rw [h2 o (by omega), wm_u_app, if_pos ⟨rfl, rfl⟩]
  · show fa_at g' (o + 2 + v) = fa_at g (q + 2 + v)
    rw [h3 v (by omega) hv]
    exact fa_at_congr (wm_u_ne g 1 _ (show q + 2 + v ≠ o by omega))
theorem sz_loop {o : Nat} (ho : kd o = 4) : ∀ (k v : Nat), v + k = 4 → ∀ (f : Nat) (g : wm_Sg), ∃ g', lp_it (mf_St_becomeZeros_7 o) (f + k + 1) (nI v, g) = some g' ∧ (∀ a, ¬ (o + 2 + v ≤ a ∧ a < o + 6) → g' a = g a) ∧ ∀ w, v ≤ w → w < 4 → fa_at g' (o + 2 + w) = (32, 0, 2)
  | 0, v, hv, f, g => by
    have e : v = 4 := by omega
    subst e
    refine ⟨g, ?_, fun _ _ => rfl, fun w h1 h2 => by omega⟩
    show mf_St_becomeZeros_7 o _ _ = _
    unfold mf_St_becomeZeros_7
    dsimp only
    rw [if_pos (by decide)]
  | k + 1, v, hv, f, g => by
    obtain ⟨g', h1, h2, h3⟩ := sz_loop ho k (v + 1) (by omega) f (fa_set g (o + 2 + v) (ft_num 0))
    refine ⟨g', ?_, fun a ha => ?_, fun w w1 w2 => ?_⟩
    · show mf_St_becomeZeros_7 o (lp_it (mf_St_becomeZeros_7 o) (f + k + 1)) _ = _
      generalize lp_it (mf_St_becomeZeros_7 o) (f + k + 1) = Kf at h1 ⊢
      unfold mf_St_becomeZeros_7
      dsimp only
      rw [if_neg (n_nle4 (by omega)), st_r ho, st_n ho, if_neg (st_in (by omega)), nI_clamp (by omega), st_e ho, pf_Fa_becomeNumber]
      show Kf (nI v + 1, _) = _
      rw [nI_1]
      exact h1
    · rw [h2 a (by omega)]
      exact fa_set_ne _ _ (by omega)
    · by_cases e : w = v
      · subst e
        have : fa_at g' (o + 2 + w) = fa_at (fa_set g (o + 2 + w) (ft_num 0)) (o + 2 + w) := fa_at_congr (h2 (o + 2 + w) (by omega))
        rw [this, fa_set_at]; rfl
      · exact h3 w (by omega) w2
theorem pf_St_becomeZeros {o : Nat} (ho : kd o = 4) (g : wm_Sg) : ∃ g', mf_St_becomeZeros o g = some g' ∧ st_fr o g g' ∧ g' o 1 = 0 ∧ ∀ v, v < 4 → st_f g' o v = (32, 0, 2) := by
  obtain ⟨g', h1, h2, h3⟩ := sz_loop ho 4 0 rfl 2095 (wm_u g o 1 0)
  refine ⟨g', h1, ⟨fun a a1 a2 => ?_, fun j hj => ?_⟩, ?_, fun v hv => h3 v (by omega) hv⟩
  · rw [h2 a (by omega)]; exact wm_u_ne _ _ _ a1
  · rw [h2 o (by omega), wm_u_app, if_neg (fun z => hj z.2)]
  · rw [h2 o (by omega), wm_u_app, if_pos ⟨rfl, rfl⟩]
theorem pf_St_keepSigns {o a : Nat} (ho : kd o = 4) (ha : a < 4) (kept : Int32) (g : wm_Sg) : ∃ g', mf_St_keepSigns o (nI a) kept g = some g' ∧ st_fr o g g' ∧ g' o 1 = (if (ft_keep (st_f g o a) kept).2.2 = 0 then 1 else g o 1) ∧ ∀ v, v < 4 → st_f g' o v = sv_up (st_f g o) a (ft_keep (st_f g o a) kept) v := by
  have hcl : (nI a).toNatClampNeg = a := nI_clamp (by omega)
  have key : mf_St_keepSigns o (nI a) kept g = some (if (ft_keep (st_f g o a) kept).2.2 = 0 then wm_u (fa_set g (o + 2 + a) (ft_keep (st_f g o a) kept)) o 1 1 else fa_set g (o + 2 + a) (ft_keep (st_f g o a) kept)) := by
    unfold mf_St_keepSigns mf_St_keepSigns_27
    rw [st_r ho, st_n ho, if_neg (st_in ha), hcl, st_e ho, pf_Fa_keepSigns]
    show (if nI a < 0 ∨ 4 ≤ a then none else if fa_set g (o + 2 + a) (ft_keep (st_f g o a) kept) (o + 2 + a) 2 = 0 then _ else _) = _
    rw [if_neg (fun q => by rcases q with q | q; exact nI_pos (n := a) (by omega) q; omega), fa_s2]
    by_cases h : (ft_keep (st_f g o a) kept).2.2 = 0
    · rw [if_pos h, if_pos h]; rfl
    · rw [if_neg h, if_neg h]; rfl
  rw [key]
  have hv : ∀ v, v < 4 → fa_at (fa_set g (o + 2 + a) (ft_keep (st_f g o a) kept)) (o + 2 + v) = sv_up (st_f g o) a (ft_keep (st_f g o a) kept) v := by
    intro v hv
    unfold sv_up
    by_cases e : v = a
    · subst e; rw [if_pos rfl, fa_set_at]
    · rw [if_neg e]; exact fa_at_ne _ _ (by omega)
  by_cases h : (ft_keep (st_f g o a) kept).2.2 = 0
  · rw [if_pos h, if_pos h]
    refine ⟨_, rfl, ⟨fun b b1 b2 => ?_, fun j hj => ?_⟩, ?_, fun v v4 => ?_⟩
    · rw [wm_u_ne _ _ _ b1]; exact fa_set_ne _ _ (by omega)
    · rw [wm_u_app, if_neg (fun z => hj z.2), fa_set_ne _ _ (by omega)]
    · rw [wm_u_app, if_pos ⟨rfl, rfl⟩]
    · have : st_f (wm_u (fa_set g (o + 2 + a) (ft_keep (st_f g o a) kept)) o 1 1) o v = fa_at (fa_set g (o + 2 + a) (ft_keep (st_f g o a) kept)) (o + 2 + v) := fa_at_congr (wm_u_ne _ _ _ (show o + 2 + v ≠ o by omega))
      rw [this, hv v v4]
  · rw [if_neg h, if_neg h]
    refine ⟨_, rfl, ⟨fun b b1 b2 => ?_, fun j hj => ?_⟩, ?_, hv⟩
    · exact fa_set_ne _ _ (by omega)
    · rw [fa_set_ne _ _ (by omega)]
    · rw [fa_set_ne _ _ (by omega)]
theorem b_i_0 (b : Bool) : b_i b = 0 ↔ b = false := by cases b <;> decide
theorem b_i_z (b : Bool) : b_i b = 0 ∨ b_i b = 1 := by cases b <;> decide
theorem sj_loop {o q : Nat} (ho : kd o = 4) (hq : kd q = 4) (hne : o ≠ q) : ∀ (k v : Nat), v + k = 4 → ∀ (f : Nat) (m : Bool) (g : wm_Sg), ∃ r g', lp_it (mf_St_joinWith_27 o q) (f + k + 1) (b_i m, nI v, g) = some (b_i r, g') ∧ (∀ a, ¬ (o + 2 + v ≤ a ∧ a < o + 6) → g' a = g a) ∧ (∀ w, v ≤ w → w < 4 → fa_at g' (o + 2 + w) = ft_jn (fa_at g (o + 2 + w)) (fa_at g (q + 2 + w))) ∧ (r = false → m = false ∧ ∀ w, v ≤ w → w < 4 → ft_more (fa_at g (o + 2 + w)) (fa_at g (q + 2 + w)) = false) ∧ (r = true → m = true ∨ ∃ w, v ≤ w ∧ w < 4 ∧ ft_more (fa_at g (o + 2 + w)) (fa_at g (q + 2 + w)) = true)
  | 0, v, hv, f, m, g => by
    have e : v = 4 := by omega
    subst e
    refine ⟨m, g, ?_, fun _ _ => rfl, fun w h1 h2 => by omega, fun h => ⟨h, fun w h1 h2 => by omega⟩, fun h => Or.inl h⟩
    show mf_St_joinWith_27 o q _ _ = _
    unfold mf_St_joinWith_27
    dsimp only
    rw [if_pos (by decide), if_pos (b_i_z m)]
  | k + 1, v, hv, f, m, g => by
    have hap := st_ap ho hq hne
    obtain ⟨r, g', h1, h2, h3, h4, h5⟩ := sj_loop ho hq hne k (v + 1) (by omega) f (m || ft_more (fa_at g (o + 2 + v)) (fa_at g (q + 2 + v))) (fa_set g (o + 2 + v) (ft_jn (fa_at g (o + 2 + v)) (fa_at g (q + 2 + v))))
    have ho' : ∀ w, v + 1 ≤ w → w < 4 → fa_at (fa_set g (o + 2 + v) (ft_jn (fa_at g (o + 2 + v)) (fa_at g (q + 2 + v)))) (o + 2 + w) = fa_at g (o + 2 + w) := fun w w1 w2 => fa_at_ne _ _ (by omega)
    have hq' : ∀ w, v + 1 ≤ w → w < 4 → fa_at (fa_set g (o + 2 + v) (ft_jn (fa_at g (o + 2 + v)) (fa_at g (q + 2 + v)))) (q + 2 + w) = fa_at g (q + 2 + w) := fun w w1 w2 => fa_at_ne _ _ (by omega)
    refine ⟨r, g', ?_, fun a ha => ?_, fun w w1 w2 => ?_, fun hr => ?_, fun hr => ?_⟩
    · show mf_St_joinWith_27 o q (lp_it (mf_St_joinWith_27 o q) (f + k + 1)) _ = _
      generalize lp_it (mf_St_joinWith_27 o q) (f + k + 1) = Kf at h1 ⊢
      unfold mf_St_joinWith_27 mf_St_joinWith_52
      dsimp only
      rw [if_neg (n_nle4 (by omega)), st_r ho, st_r hq, st_n ho, st_n hq, if_neg (st_in (by omega)), if_neg (st_in (by omega)), nI_clamp (by omega), st_e ho, st_e hq, pf_Fa_joinWith]
      show (if b_i (ft_more (fa_at g (o + 2 + v)) (fa_at g (q + 2 + v))) = 0 then Kf (b_i m, nI v + 1, _) else Kf (1, nI v + 1, _)) = _
      rw [nI_1]
      by_cases c : ft_more (fa_at g (o + 2 + v)) (fa_at g (q + 2 + v)) = true
      · rw [if_neg (fun z => by rw [(b_i_0 _).mp z] at c; cases c)]
        rw [c, Bool.or_true] at h1
        exact h1
      · have c' : ft_more (fa_at g (o + 2 + v)) (fa_at g (q + 2 + v)) = false := by cases hz : ft_more (fa_at g (o + 2 + v)) (fa_at g (q + 2 + v)) <;> simp_all
        rw [if_pos ((b_i_0 _).mpr c')]
        rw [c', Bool.or_false] at h1
        exact h1
    · rw [h2 a (by omega)]
      exact fa_set_ne _ _ (by omega)
    · by_cases e : w = v
      · subst e
        have : fa_at g' (o + 2 + w) = fa_at (fa_set g (o + 2 + w) (ft_jn (fa_at g (o + 2 + w)) (fa_at g (q + 2 + w)))) (o + 2 + w) := fa_at_congr (h2 (o + 2 + w) (by omega))
        rw [this, fa_set_at]
      · rw [h3 w (by omega) w2, ho' w (by omega) w2, hq' w (by omega) w2]
    · obtain ⟨e1, e2⟩ := h4 hr
      have e1' := Bool.or_eq_false_iff.mp e1
      refine ⟨e1'.1, fun w w1 w2 => ?_⟩
      by_cases e : w = v
      · subst e; exact e1'.2
      · have := e2 w (by omega) w2
        rw [ho' w (by omega) w2, hq' w (by omega) w2] at this
        exact this
    · rcases h5 hr with e | ⟨w, w1, w2, e⟩
      · rcases Bool.or_eq_true_iff.mp e with e | e
        · exact Or.inl e
        · exact Or.inr ⟨v, Nat.le_refl _, by omega, e⟩
      · rw [ho' w w1 w2, hq' w w1 w2] at e
        exact Or.inr ⟨w, by omega, w2, e⟩
/-- a coming state q that isn't NONE comes to the state o -/
theorem pf_St_joinWith {o q : Nat} (ho : kd o = 4) (hq : kd q = 4) (hne : o ≠ q) {g : wm_Sg} (hzq : g q 1 = 0) (hzo : g o 1 = 0 ∨ g o 1 = 1) : ∃ r g', mf_St_joinWith o q g = some (b_i r, g') ∧ st_fr o g g' ∧ g' o 1 = 0 ∧ (∀ v, v < 4 → st_f g' o v = if g o 1 = 0 then ft_jn (st_f g o v) (st_f g q v) else st_f g q v) ∧ (r = false → g o 1 = 0 ∧ ∀ v, v < 4 → ft_more (st_f g o v) (st_f g q v) = false) ∧ (r = true → g o 1 = 1 ∨ ∃ v, v < 4 ∧ ft_more (st_f g o v) (st_f g q v) = true) := by
  by_cases h : g o 1 = 0
  · obtain ⟨r, g', h1, h2, h3, h4, h5⟩ := sj_loop ho hq hne 4 0 rfl 2095 false g
    refine ⟨r, g', ?_, ⟨fun a a1 a2 => h2 a (by omega), fun j hj => by rw [h2 o (by omega)]⟩, by rw [h2 o (by omega)]; exact h, fun v hv => ?_, fun e => ⟨h, fun v hv => (h4 e).2 v (Nat.zero_le _) hv⟩, fun e => ?_⟩
    · unfold mf_St_joinWith
      rw [if_pos hzq, if_pos h]
      exact h1
    · rw [if_pos h]; exact h3 v (Nat.zero_le _) hv
    · rcases h5 e with z | ⟨w, -, w2, z⟩
      · cases z
      · exact Or.inr ⟨w, w2, z⟩
  · have h1 : g o 1 = 1 := by
      rcases hzo with z | z
      · exact absurd z h
      · exact z
    obtain ⟨g', a1, a2, a3, a4⟩ := pf_St_becomeSame ho hq hne (Or.inl hzq)
    refine ⟨true, g', ?_, a2, by rw [a3]; exact hzq, fun v hv => ?_, fun e => (by cases e), fun _ => Or.inl h1⟩
    · unfold mf_St_joinWith
      rw [if_pos hzq, if_neg h, a1]
      rfl
    · rw [if_neg h]; exact a4 v hv
theorem pf_St_joinNone {o q : Nat} {g : wm_Sg} (hzq : g q 1 ≠ 0) : mf_St_joinWith o q g = some (0, g) := by
  unfold mf_St_joinWith
  rw [if_neg hzq]
