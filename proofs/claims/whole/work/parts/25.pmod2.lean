/-! the reference's states: live at 191, facts of instruction i at 4 i + v in 192, 193, 194 -/
def ms_at (g : wm_Sg) (k : Nat) : ft_T := (g 192 k, g 193 k, g 194 k)
def ms_set (g : wm_Sg) (k : Nat) (f : ft_T) : wm_Sg := wm_u (wm_u (wm_u g 192 k f.1) 193 k f.2.1) 194 k f.2.2
theorem ms_set_at (g : wm_Sg) (v w : Nat) (f : ft_T) : ms_at (ms_set g v f) w = if w = v then f else ms_at g w := by
  unfold ms_at ms_set
  simp only [wm_u_app]
  by_cases h : w = v
  · simp [h]
  · simp [h]
theorem ms_set_ne (g : wm_Sg) {a : Nat} (v : Nat) (f : ft_T) (h1 : a ≠ 192) (h2 : a ≠ 193) (h3 : a ≠ 194) : ms_set g v f a = g a := by
  unfold ms_set
  rw [wm_u_ne _ _ _ h3, wm_u_ne _ _ _ h2, wm_u_ne _ _ _ h1]
theorem i4 (i v : Nat) : (4 : Int32) * nI i + nI v = nI (4 * i + v) := by
  show nI 4 * nI i + nI v = _
  rw [pk_mul, nI_add]
theorem ld_loop {i : Nat} (hi : i < 24) : ∀ (k v : Nat), v + k = 4 → ∀ (f : Nat) (g : wm_Sg), ∃ g', lp_it (mf_Mo_load_2 186 (nI i)) (f + k + 1) (nI v, g) = some g' ∧ (∀ a, a ≠ 195 → a ≠ 196 → a ≠ 197 → g' a = g a) ∧ (∀ w, v ≤ w → w < 4 → kf_at g' w = ms_at g (4 * i + w)) ∧ ∀ w, w < v → kf_at g' w = kf_at g w
  | 0, v, hv, f, g => by
    have e : v = 4 := by omega
    subst e
    refine ⟨g, ?_, fun _ _ _ _ => rfl, fun w h1 h2 => by omega, fun _ _ => rfl⟩
    show mf_Mo_load_2 186 (nI i) _ _ = _
    unfold mf_Mo_load_2
    dsimp only
    rw [if_pos (by decide)]
  | k + 1, v, hv, f, g => by
    obtain ⟨g', h1, h2, h3, h4⟩ := ld_loop hi k (v + 1) (by omega) f (kf_set g v (ms_at g (4 * i + v)))
    refine ⟨g', ?_, fun a a1 a2 a3 => by rw [h2 a a1 a2 a3]; exact kf_set_ne g v _ a1 a2 a3, fun w w1 w2 => ?_, fun w hw => ?_⟩
    · show mf_Mo_load_2 186 (nI i) (lp_it (mf_Mo_load_2 186 (nI i)) (f + k + 1)) _ = _
      generalize lp_it (mf_Mo_load_2 186 (nI i)) (f + k + 1) = Kf at h1 ⊢
      unfold mf_Mo_load_2
      dsimp only
      rw [i4, if_neg (n_nle4 (by omega)), if_neg (mb_7 (by omega)), if_neg (mb_11 (by omega)), if_neg (mb_8 (by omega)), if_neg (mb_12 (by omega)), if_neg (mb_9 (by omega)), if_neg (mb_13 (by omega)), mr_7, mr_8, mr_9, mr_11, mr_12, mr_13, nI_clamp (by omega), nI_clamp (by omega), nI_1, wm_u_ne _ _ _ (show (194 : Nat) ≠ 196 by decide), wm_u_ne _ _ _ (show (194 : Nat) ≠ 195 by decide), wm_u_ne _ _ _ (show (193 : Nat) ≠ 195 by decide)]
      exact h1
    · by_cases e : w = v
      · subst e
        rw [h4 w (by omega), kf_set_at, if_pos rfl]
      · rw [h3 w (by omega) w2]
        unfold ms_at
        rw [kf_set_ne g v _ (by decide) (by decide) (by decide), kf_set_ne g v _ (by decide) (by decide) (by decide), kf_set_ne g v _ (by decide) (by decide) (by decide)]
    · rw [h4 w (by omega), kf_set_at, if_neg (by omega)]
theorem pf_Mo_load {i : Nat} (hi : i < 24) (g : wm_Sg) : ∃ g', mf_Mo_load 186 (nI i) g = some g' ∧ (∀ a, a ≠ 195 → a ≠ 196 → a ≠ 197 → g' a = g a) ∧ ∀ v, v < 4 → kf_at g' v = ms_at g (4 * i + v) := by
  obtain ⟨g', h1, h2, h3, -⟩ := ld_loop hi 4 0 rfl 2095 g
  exact ⟨g', h1, h2, fun v hv => h3 v (by omega) hv⟩
theorem fc_min_comm (a b : Int32) : fc_min a b = fc_min b a := by
  unfold fc_min
  by_cases h : b < a
  · rw [if_pos h, if_neg (Int32.not_lt.mpr (Int32.le_of_lt h))]
  · rw [if_neg h]
    by_cases h2 : a < b
    · rw [if_pos h2]
    · rw [if_neg h2]; exact Int32.le_antisymm (Int32.not_lt.mp h) (Int32.not_lt.mp h2)
theorem xor_0 {x y : Int32} : x ^^^ y = 0 ↔ x = y := by
  constructor
  · intro h
    apply b_ext
    intro i hi
    have : bt (x ^^^ y) i = false := by rw [h, b_0]
    rw [b_xor] at this
    cases h1 : bt x i <;> cases h2 : bt y i <;> simp_all
  · intro h
    subst h
    exact b_zero (fun i _ => by rw [b_xor]; simp)
theorem pf_Mo_joinFact {a v : Nat} (ha : a < 96) (hv : v < 4) (g : wm_Sg) : mf_Mo_joinFact 186 (nI a) (nI v) g = some (ms_set (wm_u g 186 10 (if g 186 10 = 0 then b_i (ft_more (ms_at g a) (kf_at g v)) else 1)) a (ft_jn (ms_at g a) (kf_at g v))) := by
  have ca : (nI a).toNatClampNeg = a := nI_clamp (by omega)
  have cv : (nI v).toNatClampNeg = v := nI_clamp (by omega)
  have k147 : ∀ k s x : Int32, (x = 0 ∨ x = 1) → mf_Mo_joinFact_147 186 (nI a) k s x 186 g = some (ms_set (wm_u g 186 10 x) a (k, fc_cut (g 193 a) k, s)) := by
    intro k s x hx
    unfold mf_Mo_joinFact_147
    rw [if_pos hx, if_neg (mb_7 ha), if_neg (mb_8 ha), mr_7, mr_8, mr_9, ca, wm_u_ne _ _ _ (show (193 : Nat) ≠ 192 by decide), wm_u_ne _ _ _ (show (193 : Nat) ≠ 186 by decide), pf_Mo_cut, Option.bind_some]
    have b8 := mb_8 ha
    have b9 := mb_9 ha
    rw [mr_8, ca] at b8
    rw [mr_9, ca] at b9
    rw [if_neg b8, if_neg b9]
    rfl
  have k127 : ∀ k s : Int32, ∀ m : Bool, mf_Mo_joinFact_127 186 (nI a) k s (b_i m) g = some (ms_set (wm_u g 186 10 (if g 186 10 = 0 then b_i (!m) else 1)) a (k, fc_cut (g 193 a) k, s)) := by
    intro k s m
    unfold mf_Mo_joinFact_127 mf_Mo_joinFact_142
    by_cases h : g 186 10 = 0
    · rw [if_pos h, if_pos h]
      cases m
      · rw [if_pos (show b_i false = 0 from rfl), k147 _ _ _ (Or.inr rfl)]; rfl
      · rw [if_neg (show ¬ b_i true = 0 by decide), k147 _ _ _ (Or.inl rfl)]; rfl
    · rw [if_neg h, if_neg h, k147 _ _ _ (Or.inr rfl)]
  have k83 : ∀ k : Int32, mf_Mo_joinFact_83 186 (nI a) (nI v) k g = some (ms_set (wm_u g 186 10 (if g 186 10 = 0 then b_i (!(decide (k = g 192 a) && decide (g 194 a ||| g 197 v = g 194 a))) else 1)) a (k, fc_cut (g 193 a) k, g 194 a ||| g 197 v)) := by
    intro k
    unfold mf_Mo_joinFact_83 mf_Mo_joinFact_126
    rw [if_neg (mb_9 ha), if_neg (mb_13 hv), if_neg (mb_7 ha), mr_7, mr_9, mr_13, ca, cv]
    have b9 := mb_9 ha
    rw [mr_9, ca] at b9
    by_cases h1 : k = g 192 a
    · rw [if_pos h1, if_neg b9, decide_eq_true h1]
      by_cases h2 : g 194 a ||| g 197 v = g 194 a
      · rw [if_pos h2, decide_eq_true h2]; exact k127 _ _ true
      · rw [if_neg h2, decide_eq_false h2]; exact k127 _ _ false
    · rw [if_neg h1, decide_eq_false h1]; exact k127 _ _ false
  have k42 : ∀ (n : Int32) (m : Bool), mf_Mo_joinFact_42 186 (nI a) (nI v) n (b_i m) g = mf_Mo_joinFact_83 186 (nI a) (nI v) (if m = true then 32 else fc_min 16 (fc_min n (fc_tz (g 193 a ^^^ g 196 v)))) g := by
    intro n m
    unfold mf_Mo_joinFact_42
    rw [if_neg (mb_8 ha), if_neg (mb_12 hv), mr_8, mr_12, ca, cv, pf_Mo_zeros, Option.bind_some]
    dsimp only
    cases m
    · rw [if_pos (show b_i false = 0 from rfl), pf_Mo_least, Option.bind_some]
      dsimp only
      rw [pf_Mo_least, Option.bind_some, fc_min_comm _ 16]
      rfl
    · rw [if_neg (show ¬ b_i true = 0 by decide)]; rfl
  have k42t : ∀ n : Int32, mf_Mo_joinFact_42 186 (nI a) (nI v) n 1 g = mf_Mo_joinFact_83 186 (nI a) (nI v) 32 g := fun n => k42 n true
  have k42f : ∀ n : Int32, mf_Mo_joinFact_42 186 (nI a) (nI v) n 0 g = mf_Mo_joinFact_83 186 (nI a) (nI v) (fc_min 16 (fc_min n (fc_tz (g 193 a ^^^ g 196 v)))) g := fun n => k42 n false
  unfold mf_Mo_joinFact mf_Mo_joinFact_41
  rw [if_neg (mb_7 ha), if_neg (mb_11 hv), mr_7, mr_11, mr_8, mr_12, ca, cv, pf_Mo_least, Option.bind_some]
  dsimp only
  have b8 := mb_8 ha
  have b12 := mb_12 hv
  rw [mr_8, ca] at b8
  rw [mr_12, cv] at b12
  unfold ft_more ft_jn ms_at kf_at
  dsimp only
  by_cases h1 : fc_min (g 192 a) (g 195 v) = 32
  · rw [if_pos h1, if_neg b8, if_neg b12]
    by_cases h2 : g 193 a = g 196 v
    · rw [if_pos h2, k42t, k83, if_pos (show fc_min (g 192 a) (g 195 v) = 32 ∧ g 193 a ^^^ g 196 v = 0 from ⟨h1, xor_0.mpr h2⟩)]
    · rw [if_neg h2, k42f, k83, if_neg (show ¬ (fc_min (g 192 a) (g 195 v) = 32 ∧ g 193 a ^^^ g 196 v = 0) from fun z => h2 (xor_0.mp z.2))]
  · rw [if_neg h1, k42f, k83, if_neg (show ¬ (fc_min (g 192 a) (g 195 v) = 32 ∧ g 193 a ^^^ g 196 v = 0) from fun z => h1 z.1)]
/-- the states of the first n instructions in the reference -/
def ms_R (n : Nat) (g : wm_Sg) (σ : sv_S) : Prop := ∀ i, i < n → g 191 i = b_i (σ i).1 ∧ ((σ i).1 = true → ∀ v, v < 4 → ms_at g (4 * i + v) = (σ i).2 v)
/-- what solving may change in the reference -/
def mo_f2 (g g' : wm_Sg) : Prop := (∀ a, a ≠ 186 → ¬ (191 ≤ a ∧ a ≤ 197) → g' a = g a) ∧ ∀ j, j ≠ 10 → j ≠ 14 → j ≠ 15 → j ≠ 16 → g' 186 j = g 186 j
theorem mo_f2_refl (g : wm_Sg) : mo_f2 g g := ⟨fun _ _ _ => rfl, fun _ _ _ _ _ => rfl⟩
theorem mo_f2_trans {g g' g'' : wm_Sg} (a : mo_f2 g g') (b : mo_f2 g' g'') : mo_f2 g g'' := ⟨fun x h1 h2 => (b.1 x h1 h2).trans (a.1 x h1 h2), fun j h0 h1 h2 h3 => (b.2 j h0 h1 h2 h3).trans (a.2 j h0 h1 h2 h3)⟩
theorem mo_f12 {g g' : wm_Sg} (a : mo_f1 g g') : mo_f2 g g' := ⟨fun x h1 h2 => a.1 x h1 (by omega) (by omega) (by omega), fun j _ h1 h2 h3 => a.2 j h1 h2 h3⟩
theorem ms_R_f1 {n : Nat} {g g' : wm_Sg} {σ : sv_S} (h : ms_R n g σ) (f : mo_f1 g g') : ms_R n g' σ := fun i hi => by
  have hc : ∀ a, a ≠ 186 → a ≠ 195 → a ≠ 196 → a ≠ 197 → g' a = g a := f.1
  refine ⟨by rw [hc 191 (by decide) (by decide) (by decide) (by decide)]; exact (h i hi).1, fun l v hv => ?_⟩
  have : ms_at g' (4 * i + v) = ms_at g (4 * i + v) := by
    unfold ms_at
    rw [hc 192 (by decide) (by decide) (by decide) (by decide), hc 193 (by decide) (by decide) (by decide) (by decide), hc 194 (by decide) (by decide) (by decide) (by decide)]
  rw [this]; exact (h i hi).2 l v hv
theorem jc_loop {t : Nat} (ht : t < 24) : ∀ (k v : Nat), v + k = 4 → ∀ (f : Nat) (g : wm_Sg), ∃ g', lp_it (mf_Mo_join_32 186 (nI t)) (f + k + 1) (nI v, g) = some g' ∧ (∀ a, a ≠ 192 → a ≠ 193 → a ≠ 194 → g' a = g a) ∧ (∀ w, v ≤ w → w < 4 → ms_at g' (4 * t + w) = kf_at g w) ∧ ∀ q, (q < 4 * t + v ∨ 4 * t + 4 ≤ q) → ms_at g' q = ms_at g q
  | 0, v, hv, f, g => by
    have e : v = 4 := by omega
    subst e
    refine ⟨g, ?_, fun _ _ _ _ => rfl, fun w h1 h2 => by omega, fun _ _ => rfl⟩
    show mf_Mo_join_32 186 (nI t) _ _ = _
    unfold mf_Mo_join_32
    dsimp only
    rw [if_pos (by decide)]
  | k + 1, v, hv, f, g => by
    obtain ⟨g', h1, h2, h3, h4⟩ := jc_loop ht k (v + 1) (by omega) f (ms_set g (4 * t + v) (kf_at g v))
    refine ⟨g', ?_, fun a a1 a2 a3 => by rw [h2 a a1 a2 a3]; exact ms_set_ne g _ _ a1 a2 a3, fun w w1 w2 => ?_, fun q hq => ?_⟩
    · show mf_Mo_join_32 186 (nI t) (lp_it (mf_Mo_join_32 186 (nI t)) (f + k + 1)) _ = _
      generalize lp_it (mf_Mo_join_32 186 (nI t)) (f + k + 1) = Kf at h1 ⊢
      unfold mf_Mo_join_32
      dsimp only
      rw [i4, if_neg (n_nle4 (by omega)), if_neg (mb_11 (by omega)), if_neg (mb_7 (by omega)), if_neg (mb_12 (by omega)), if_neg (mb_8 (by omega)), if_neg (mb_13 (by omega)), if_neg (mb_9 (by omega)), mr_7, mr_8, mr_9, mr_11, mr_12, mr_13, nI_clamp (by omega), nI_clamp (by omega), nI_1, wm_u_ne _ _ _ (show (197 : Nat) ≠ 193 by decide), wm_u_ne _ _ _ (show (197 : Nat) ≠ 192 by decide), wm_u_ne _ _ _ (show (196 : Nat) ≠ 192 by decide)]
      exact h1
    · by_cases e : w = v
      · subst e
        rw [h4 (4 * t + w) (by omega), ms_set_at, if_pos rfl]
      · rw [h3 w (by omega) w2]
        unfold kf_at
        rw [ms_set_ne g _ _ (by decide) (by decide) (by decide), ms_set_ne g _ _ (by decide) (by decide) (by decide), ms_set_ne g _ _ (by decide) (by decide) (by decide)]
    · rw [h4 q (by omega), ms_set_at, if_neg (by omega)]
theorem jj_loop {t : Nat} (ht : t < 24) : ∀ (k v : Nat), v + k = 4 → ∀ (f : Nat) (g : wm_Sg), (g 186 10 = 0 ∨ g 186 10 = 1) → ∃ g', lp_it (mf_Mo_join_94 186 (nI t)) (f + k + 1) (nI v, g) = some g' ∧ (∀ a, a ≠ 186 → a ≠ 192 → a ≠ 193 → a ≠ 194 → g' a = g a) ∧ (∀ j, j ≠ 10 → g' 186 j = g 186 j) ∧ (∀ w, v ≤ w → w < 4 → ms_at g' (4 * t + w) = ft_jn (ms_at g (4 * t + w)) (kf_at g w)) ∧ (∀ q, (q < 4 * t + v ∨ 4 * t + 4 ≤ q) → ms_at g' q = ms_at g q) ∧ (g' 186 10 = 0 ∨ g' 186 10 = 1) ∧ (g' 186 10 = 0 → g 186 10 = 0 ∧ ∀ w, v ≤ w → w < 4 → ft_more (ms_at g (4 * t + w)) (kf_at g w) = false) ∧ (g' 186 10 = 1 → g 186 10 = 1 ∨ ∃ w, v ≤ w ∧ w < 4 ∧ ft_more (ms_at g (4 * t + w)) (kf_at g w) = true)
  | 0, v, hv, f, g, hz => by
    have e : v = 4 := by omega
    subst e
    refine ⟨g, ?_, fun _ _ _ _ _ => rfl, fun _ _ => rfl, fun w h1 h2 => by omega, fun _ _ => rfl, hz, fun h => ⟨h, fun w h1 h2 => by omega⟩, fun h => Or.inl h⟩
    show mf_Mo_join_94 186 (nI t) _ _ = _
    unfold mf_Mo_join_94
    dsimp only
    rw [if_pos (by decide)]
  | k + 1, v, hv, f, g, hz => by
    generalize hx : (if g 186 10 = 0 then b_i (ft_more (ms_at g (4 * t + v)) (kf_at g v)) else 1) = x
    have hx01 : x = 0 ∨ x = 1 := by
      rw [← hx]
      by_cases h : g 186 10 = 0
      · rw [if_pos h]; exact b_i_z _
      · rw [if_neg h]; exact Or.inr rfl
    have g10 : ms_set (wm_u g 186 10 x) (4 * t + v) (ft_jn (ms_at g (4 * t + v)) (kf_at g v)) 186 10 = x := by rw [ms_set_ne _ _ _ (by decide) (by decide) (by decide), wm_u_app, if_pos ⟨rfl, rfl⟩]
    obtain ⟨g', h1, h2, h3, h4, h5, h6, h7, h8⟩ := jj_loop ht k (v + 1) (by omega) f (ms_set (wm_u g 186 10 x) (4 * t + v) (ft_jn (ms_at g (4 * t + v)) (kf_at g v))) (by rw [g10]; exact hx01)
    have hk : ∀ w, kf_at (ms_set (wm_u g 186 10 x) (4 * t + v) (ft_jn (ms_at g (4 * t + v)) (kf_at g v))) w = kf_at g w := fun w => by
      unfold kf_at
      rw [ms_set_ne _ _ _ (by decide) (by decide) (by decide), ms_set_ne _ _ _ (by decide) (by decide) (by decide), ms_set_ne _ _ _ (by decide) (by decide) (by decide), wm_u_ne _ _ _ (by decide), wm_u_ne _ _ _ (by decide), wm_u_ne _ _ _ (by decide)]
    have hm : ∀ q, q ≠ 4 * t + v → ms_at (ms_set (wm_u g 186 10 x) (4 * t + v) (ft_jn (ms_at g (4 * t + v)) (kf_at g v))) q = ms_at g q := fun q hq => by
      rw [ms_set_at, if_neg hq]
      unfold ms_at
      rw [wm_u_ne _ _ _ (by decide), wm_u_ne _ _ _ (by decide), wm_u_ne _ _ _ (by decide)]
    refine ⟨g', ?_, fun a a0 a1 a2 a3 => ?_, fun j hj => ?_, fun w w1 w2 => ?_, fun q hq => ?_, h6, fun h => ?_, fun h => ?_⟩
    · show mf_Mo_join_94 186 (nI t) (lp_it (mf_Mo_join_94 186 (nI t)) (f + k + 1)) _ = _
      generalize lp_it (mf_Mo_join_94 186 (nI t)) (f + k + 1) = Kf at h1 ⊢
      unfold mf_Mo_join_94
      dsimp only
      rw [i4, if_neg (n_nle4 (by omega)), pf_Mo_joinFact (by omega) (by omega), Option.bind_some, nI_1, hx]
      exact h1
    · rw [h2 a a0 a1 a2 a3, ms_set_ne _ _ _ a1 a2 a3, wm_u_ne _ _ _ a0]
    · rw [h3 j hj, ms_set_ne _ _ _ (by decide) (by decide) (by decide), wm_u_app, if_neg (fun z => hj z.2)]
    · by_cases e : w = v
      · subst e
        rw [h5 (4 * t + w) (by omega), ms_set_at, if_pos rfl]
      · rw [h4 w (by omega) w2, hk, hm _ (by omega)]
    · rw [h5 q (by omega), hm q (by omega)]
    · obtain ⟨e1, e2⟩ := h7 h
      rw [g10, ← hx] at e1
      by_cases h0 : g 186 10 = 0
      · rw [if_pos h0] at e1
        refine ⟨h0, fun w w1 w2 => ?_⟩
        by_cases e : w = v
        · subst e; exact (b_i_0 _).mp e1
        · have := e2 w (by omega) w2
          rw [hk, hm _ (by omega)] at this
          exact this
      · rw [if_neg h0] at e1
        exact absurd e1 (by decide)
    · rcases h8 h with e | ⟨w, w1, w2, e⟩
      · rw [g10, ← hx] at e
        by_cases h0 : g 186 10 = 0
        · rw [if_pos h0] at e
          refine Or.inr ⟨v, Nat.le_refl _, by omega, ?_⟩
          cases hb : ft_more (ms_at g (4 * t + v)) (kf_at g v) with
          | true => rfl
          | false => rw [hb] at e; exact absurd e (by decide)
        · rcases hz with z | z
          · exact absurd z h0
          · exact Or.inl z
      · rw [hk, hm _ (by omega)] at e
        exact Or.inr ⟨w, by omega, w2, e⟩
theorem pf_Mo_join {n t : Nat} {g : wm_Sg} {σ : sv_S} {c : sv_F} (hn : n ≤ 24) (ht : t < 2 ^ 31) (hp : g 186 0 = nI n) (hR : ms_R n g σ) (hc : kf_R g c) (hσ : sv_ok σ) (hcok : sv_fok c) (hz : g 186 10 = 0 ∨ g 186 10 = 1) :
    ∃ g', mf_Mo_join 186 (nI t) g = some g' ∧ mo_f2 g g' ∧ ms_R n g' (sv_jn n t c σ) ∧ (g' 186 10 = 0 ∨ g' 186 10 = 1) ∧ (g' 186 10 = 0 → g 186 10 = 0 ∧ sv_jn n t c σ = σ) ∧ (g' 186 10 = 1 → g 186 10 = 1 ∨ ∃ j, j < n ∧ sv_jn n t c σ j ≠ σ j) := by
  by_cases q : t < n
  · have q24 : t < 24 := by omega
    have hother : ∀ i, i ≠ t → sv_jn n t c σ i = σ i := fun i hi => by unfold sv_jn; rw [if_neg (fun z => hi z.1)]
    have hself : sv_jn n t c σ t = (true, if (σ t).1 = true then fun v => if v < 4 then ft_jn ((σ t).2 v) (c v) else (σ t).2 v else c) := by unfold sv_jn; rw [if_pos ⟨rfl, q⟩]
    have hfl := (hR t q).1
    have b6 := mb_6 q24
    rw [mr_6, nI_clamp ht] at b6
    by_cases l : (σ t).1 = true
    · obtain ⟨g', h1, h2, h3, h4, h5, h6, h7, h8⟩ := jj_loop q24 4 0 rfl 2095 g hz
      have hst := (hR t q).2 l
      refine ⟨g', ?_, ⟨fun a a1 a2 => h2 a a1 (by omega) (by omega) (by omega), fun j j1 _ _ _ => h3 j j1⟩, fun i hi => ?_, h6, fun h => ?_, fun h => ?_⟩
      · unfold mf_Mo_join
        rw [if_pos (show nI t < g 186 0 by rw [hp]; exact (nI_ltI ht (by omega)).mpr q), mr_6, nI_clamp ht, if_neg b6, if_neg (show ¬ g 191 t = 0 by rw [hfl, l]; decide)]
        exact h1
      · by_cases e : i = t
        · subst e
          rw [hself, if_pos l]
          refine ⟨by rw [h2 191 (by decide) (by decide) (by decide) (by decide), hfl, l], fun _ v hv => ?_⟩
          rw [h4 v (by omega) hv, hst v hv, hc v hv]
          show _ = if v < 4 then _ else _
          rw [if_pos hv]
        · rw [hother i e]
          refine ⟨by rw [h2 191 (by decide) (by decide) (by decide) (by decide)]; exact (hR i hi).1, fun l2 v hv => ?_⟩
          rw [h5 (4 * i + v) (by omega)]; exact (hR i hi).2 l2 v hv
      · obtain ⟨e1, e2⟩ := h7 h
        refine ⟨e1, funext (fun i => ?_)⟩
        by_cases e : i = t
        · subst e
          rw [hself, if_pos l]
          refine Prod.ext l.symm (funext (fun v => ?_))
          show (if v < 4 then _ else _) = _
          by_cases hv : v < 4
          · rw [if_pos hv]
            have e3 := e2 v (by omega) hv
            rw [hst v hv, hc v hv] at e3
            unfold ft_more at e3
            simp only [Bool.not_eq_false', Bool.and_eq_true, decide_eq_true_eq] at e3
            exact ft_jn_same (hσ i l v hv) (hcok v hv) e3.1 e3.2
          · rw [if_neg hv]
        · exact hother i e
      · rcases h8 h with e | ⟨w, w1, w2, e⟩
        · exact Or.inl e
        · refine Or.inr ⟨t, q, fun z => ?_⟩
          rw [hself, if_pos l] at z
          have z2 := congrFun (congrArg Prod.snd z) w
          have z2 : (if w < 4 then ft_jn ((σ t).2 w) (c w) else (σ t).2 w) = (σ t).2 w := z2
          rw [if_pos w2] at z2
          rw [hst w w2, hc w w2] at e
          unfold ft_more at e
          rw [z2] at e
          simp at e
    · have l' : (σ t).1 = false := by cases hb : (σ t).1 <;> simp_all
      obtain ⟨g', h1, h2, h3, h4⟩ := jc_loop q24 4 0 rfl 2095 (wm_u (wm_u g 191 t 1) 186 10 1)
      have g10 : g' 186 10 = 1 := by rw [h2 186 (by decide) (by decide) (by decide), wm_u_app, if_pos ⟨rfl, rfl⟩]
      have g191 : ∀ j, j ≠ t → g' 191 j = g 191 j := fun j hj => by rw [h2 191 (by decide) (by decide) (by decide), wm_u_ne _ _ _ (by decide), wm_u_app, if_neg (fun z => hj z.2)]
      have hms : ∀ k, ms_at (wm_u (wm_u g 191 t 1) 186 10 1) k = ms_at g k := fun k => by
        unfold ms_at
        rw [wm_u_ne _ _ _ (by decide), wm_u_ne _ _ _ (by decide), wm_u_ne _ _ _ (by decide), wm_u_ne _ _ _ (by decide), wm_u_ne _ _ _ (by decide), wm_u_ne _ _ _ (by decide)]
      have hkf : ∀ k, kf_at (wm_u (wm_u g 191 t 1) 186 10 1) k = kf_at g k := fun k => by
        unfold kf_at
        rw [wm_u_ne _ _ _ (by decide), wm_u_ne _ _ _ (by decide), wm_u_ne _ _ _ (by decide), wm_u_ne _ _ _ (by decide), wm_u_ne _ _ _ (by decide), wm_u_ne _ _ _ (by decide)]
      refine ⟨g', ?_, ⟨fun a a1 a2 => ?_, fun j j1 _ _ _ => ?_⟩, fun i hi => ?_, Or.inr g10, fun h => ?_, fun _ => Or.inr ⟨t, q, fun z => ?_⟩⟩
      · unfold mf_Mo_join
        rw [if_pos (show nI t < g 186 0 by rw [hp]; exact (nI_ltI ht (by omega)).mpr q), mr_6, nI_clamp ht, if_neg b6, if_pos (show g 191 t = 0 by rw [hfl, l']; rfl), if_neg b6]
        exact h1
      · rw [h2 a (by omega) (by omega) (by omega), wm_u_ne _ _ _ a1, wm_u_ne _ _ _ (by omega)]
      · rw [h2 186 (by decide) (by decide) (by decide), wm_u_app, if_neg (fun z => j1 z.2), wm_u_ne _ _ _ (by decide)]
      · by_cases e : i = t
        · subst e
          rw [hself, if_neg l]
          refine ⟨by rw [h2 191 (by decide) (by decide) (by decide), wm_u_ne _ _ _ (by decide), wm_u_app, if_pos ⟨rfl, rfl⟩]; rfl, fun _ v hv => ?_⟩
          rw [h3 v (by omega) hv, hkf]; exact hc v hv
        · rw [hother i e]
          refine ⟨by rw [g191 i e]; exact (hR i hi).1, fun l2 v hv => ?_⟩
          rw [h4 (4 * i + v) (by omega), hms]; exact (hR i hi).2 l2 v hv
      · rw [g10] at h; exact absurd h (by decide)
      · rw [hself] at z
        have : true = (σ t).1 := congrArg Prod.fst z
        rw [l'] at this
        cases this
  · have e : sv_jn n t c σ = σ := funext (fun i => by unfold sv_jn; rw [if_neg (fun z => q z.2)])
    refine ⟨g, ?_, mo_f2_refl g, by rw [e]; exact hR, hz, fun h => ⟨h, e⟩, fun h => Or.inl h⟩
    unfold mf_Mo_join
    rw [if_neg (show ¬ nI t < g 186 0 by rw [hp]; exact fun z => q ((nI_ltI ht (by omega)).mp z))]
