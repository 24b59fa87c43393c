/-! running: the reference's loops -/
theorem rn_117 {n t d : Nat} (hn : n ≤ 24) (ht : t ≤ 24) {m : mx_T} {g : wm_Sg} (hp : g 186 0 = nI n) (h : mmd m d t g) : mf_Mo_run_117 186 0 g = some (if t < n then (0, wm_u g 186 20 (nI t)) else (1, wm_u g 186 20 (-1))) := by
  unfold mf_Mo_run_117 mf_Mo_run_136 mf_Mo_run_137 mf_Mo_run_152
  rw [if_pos rfl, if_neg (show ¬ ((0 : Int32) = 1) by decide), if_pos rfl, h.2.2.1]
  by_cases z : t < n
  · rw [if_pos (show nI t < g 186 0 by rw [hp]; exact (nI_ltI (by omega) (by omega)).mpr z), if_pos z]
  · rw [if_neg (show ¬ nI t < g 186 0 by rw [hp]; exact fun q => z ((nI_ltI (by omega) (by omega)).mp q)), if_neg z]
theorem mmd_q {m : mx_T} {d t : Nat} {g : wm_Sg} (h : mmd m d t g) (x : Int32) : md_mac m.2.1 (nI d) x m.1 m.2.2.1 (wm_u g 186 20 x) := by
  obtain ⟨h1, h2, h3, h4, h5, h6⟩ := h
  refine ⟨?_, ?_, ?_, fun v hv => ?_, fun j hj => ?_⟩
  · rw [wm_u_app, if_neg (by decide)]; exact h1
  · rw [wm_u_app, if_neg (by decide)]; exact h2
  · rw [wm_u_app, if_pos ⟨rfl, rfl⟩]
  · rw [wm_u_ne _ _ _ (by decide)]; exact h5 v hv
  · rw [wm_u_ne _ _ _ (by decide)]; exact h6 j hj
theorem mmd_d {m : mx_T} {d t : Nat} {g : wm_Sg} (h : mmd m d t g) : mmf g (wm_u g 186 19 (g 186 19 + 1)) ∧ mmd m (d + 1) t (wm_u g 186 19 (g 186 19 + 1)) := by
  obtain ⟨h1, h2, h3, h4, h5, h6⟩ := h
  refine ⟨mmf_u _ _ (by omega), ?_, ?_, ?_, ?_, fun v hv => ?_, fun j hj => ?_⟩
  · rw [wm_u_app, if_neg (by decide)]; exact h1
  · rw [wm_u_app, if_pos ⟨rfl, rfl⟩, h2, nI_1]
  · rw [wm_u_app, if_neg (by decide)]; exact h3
  · rw [wm_u_app, if_neg (by decide)]; exact h4
  · rw [wm_u_ne _ _ _ (by decide)]; exact h5 v hv
  · rw [wm_u_ne _ _ _ (by decide)]; exact h6 j hj
def mx_m (r : Int32 × Nat × Int32 × mx_T) (g : wm_Sg) : Prop := md_mac r.2.2.2.2.1 (nI r.2.1) r.2.2.1 r.2.2.2.1 r.2.2.2.2.2.1 g
theorem mp_R_mmf {n : Nat} {p : Nat → Nat → Int32} {g g' : wm_Sg} (h : mp_R n p g) (f : mmf g g') : mp_R n p g' := ⟨by rw [f.2 0 (by decide) (by decide) (by decide) (by decide)]; exact h.1, fun i hi => by rw [f.1 187 (by decide) (by decide) (by decide), f.1 188 (by decide) (by decide) (by decide), f.1 189 (by decide) (by decide) (by decide), f.1 190 (by decide) (by decide) (by decide)]; exact h.2 i hi⟩
theorem md_inp_mmf {c : Nat} {fi : Nat → Int32} {g g' : wm_Sg} (h : md_inp c fi g) (f : mmf g g') : md_inp c fi g' := ⟨by rw [f.2 17 (by decide) (by decide) (by decide) (by decide)]; exact h.1, fun j hj => by rw [f.1 198 (by decide) (by decide) (by decide)]; exact h.2 j hj⟩
theorem rn_en (N : Nat) (f : Nat) (x : Int32) (g1 : wm_Sg) (hx : x = 1 ∨ x = 2) : lp_it (mf_Mo_run_76 186 (nI N)) (f + 1) (x, g1) = some (x, wm_u g1 186 20 (if x = 1 then -1 else g1 186 20)) := by
  show mf_Mo_run_76 186 (nI N) (lp_it _ f) _ = _
  generalize lp_it (mf_Mo_run_76 186 (nI N)) f = Kf
  unfold mf_Mo_run_76 mf_Mo_run_117 mf_Mo_run_136 mf_Mo_run_137 mf_Mo_run_152
  dsimp only
  rcases hx with z | z
  · rw [z, if_neg (show ¬ ((1 : Int32) = 0) by decide), if_neg (show ¬ ((1 : Int32) = 0) by decide), if_pos rfl, if_pos rfl]
  · rw [z, if_neg (show ¬ ((2 : Int32) = 0) by decide), if_neg (show ¬ ((2 : Int32) = 0) by decide), if_neg (show ¬ ((2 : Int32) = 1) by decide), if_neg (show ¬ ((2 : Int32) = 1) by decide)]
def rn_G (n : Nat) (p : Nat → Nat → Int32) (c : Nat) (fi : Nat → Int32) (K : Int32 × wm_Sg → Option (Int32 × wm_Sg)) (r d t : Nat) (m : mx_T) : Prop := ∀ g : wm_Sg, mp_R n p g → md_inp c fi g → mmd m d t g → ∃ g', K (0, g) = some ((mx_go n p c fi r d t m).1, g') ∧ mmf g g' ∧ mx_m (mx_go n p c fi r d t m) g'
theorem rn_z {n : Nat} {p : Nat → Nat → Int32} {c : Nat} {fi : Nat → Int32} {N : Nat} (hn : n ≤ 24) (hN : N ≤ 2000) (Kf : Int32 × wm_Sg → Option (Int32 × wm_Sg)) {d t : Nat} {m : mx_T} (ht : t ≤ 24) (hd : d = N) : rn_G n p c fi (mf_Mo_run_76 186 (nI N) Kf) 0 d t m := by
  intro g hp hi hm
  unfold mf_Mo_run_76
  dsimp only
  rw [if_pos rfl, if_pos (show nI N ≤ g 186 19 by rw [hm.2.1]; exact n_le (by omega) (by omega) (by omega)), rn_117 hn ht hp.1 hm, ite_self]
  by_cases z : t < n
  · rw [if_pos z, show mx_go n p c fi 0 d t m = (0, d, nI t, m) from if_pos z]
    exact ⟨_, rfl, mmf_u _ _ (by omega), mmd_q hm _⟩
  · rw [if_neg z, show mx_go n p c fi 0 d t m = (1, d, -1, m) from if_neg z]
    exact ⟨_, rfl, mmf_u _ _ (by omega), mmd_q hm _⟩
theorem rn_o {n : Nat} {p : Nat → Nat → Int32} {c : Nat} {fi : Nat → Int32} {N : Nat} (hn : n ≤ 24) (Kf : Int32 × wm_Sg → Option (Int32 × wm_Sg)) {r d t : Nat} {m : mx_T} (ht : t ≤ 24) (z : ¬ t < n) : rn_G n p c fi (mf_Mo_run_76 186 (nI N) Kf) r d t m := by
  intro g hp hi hm
  unfold mf_Mo_run_76
  dsimp only
  rw [if_pos rfl, if_pos (show g 186 0 ≤ g 186 20 by rw [hp.1, hm.2.2.1]; exact n_le (by omega) (by omega) (by omega)), rn_117 hn ht hp.1 hm, if_neg z, mx_out p c fi r d m z]
  exact ⟨_, rfl, mmf_u _ _ (by omega), mmd_q hm _⟩
theorem rn_s {n : Nat} {p : Nat → Nat → Int32} {c : Nat} {fi : Nat → Int32} {N : Nat} (hn : n ≤ 24) (ok : ∀ i, i < n → in_ok (p i)) (hc : c ≤ 16) (hN : N ≤ 2000) (Kf : Int32 × wm_Sg → Option (Int32 × wm_Sg)) {r d t : Nat} {m : mx_T} (z : t < n) (hd : d < N) (mo : mx_ok m d) (en : ∀ (x : Int32) (g1 : wm_Sg), x = 1 ∨ x = 2 → Kf (x, g1) = some (x, wm_u g1 186 20 (if x = 1 then -1 else g1 186 20))) (ih : rn_G n p c fi Kf r (d + 1) (mx_next (p t) t m) (mx_do (p t) c fi m)) : rn_G n p c fi (mf_Mo_run_76 186 (nI N) Kf) (r + 1) d t m := by
  intro g hp hi hm
  have nN : ¬ nI N ≤ g 186 19 := by rw [hm.2.1]; exact n_nle (by omega) (by omega) (by omega)
  have st := pf_Mo_step (c := c) (f := fi) hn z hp (ok t z) hc hi hm mo (by omega)
  unfold mf_Mo_run_76
  dsimp only
  rw [if_pos rfl, if_neg (show ¬ g 186 0 ≤ g 186 20 by rw [hp.1, hm.2.2.1]; exact n_nle (by omega) (by omega) z), if_neg nN]
  by_cases nf : p t 0 = 5 ∧ m.1 (p t 3).toNatClampNeg = 0
  · rw [if_pos nf] at st
    rw [st, Option.bind_some]
    dsimp only
    have eg : mx_go n p c fi (r + 1) d t m = (2, d + 1, nI t, m) := by
      show (if t < n then _ else _) = _
      rw [if_pos z, if_pos nf]
    obtain ⟨u, v⟩ := mmd_d hm
    rw [en 2 _ (Or.inr rfl), if_neg (show ¬ ((2 : Int32) = 1) by decide), eg, v.2.2.1]
    exact ⟨_, rfl, mmf_trans u (mmf_u _ _ (by omega)), mmd_q v _⟩
  · rw [if_neg nf] at st
    obtain ⟨g1, e1, f1, h1⟩ := st
    have eg : mx_go n p c fi (r + 1) d t m = mx_go n p c fi r (d + 1) (mx_next (p t) t m) (mx_do (p t) c fi m) := by
      show (if t < n then _ else _) = _
      rw [if_pos z, if_neg nf]
    rw [e1, Option.bind_some, eg]
    dsimp only
    obtain ⟨u, v⟩ := mmd_d h1
    by_cases c11 : p t 0 = 11
    · rw [if_pos c11] at v
      have e24 : mx_next (p t) t m = 24 := by
        unfold mx_next
        rw [if_neg (show ¬ p t 0 = 7 by rw [c11]; decide), if_neg (show ¬ p t 0 = 8 by rw [c11]; decide), if_neg (show ¬ p t 0 = 9 by rw [c11]; decide), if_pos c11]
      rw [if_pos c11, en 1 _ (Or.inl rfl), if_pos rfl, e24, mx_out p c fi r (d + 1) _ (show ¬ 24 < n by omega)]
      exact ⟨_, rfl, mmf_trans f1 (mmf_trans u (mmf_u _ _ (by omega))), mmd_q v _⟩
    · rw [if_neg c11] at v
      rw [if_neg c11]
      obtain ⟨g2, a1, a2, a3⟩ := ih _ (mp_R_mmf hp (mmf_trans f1 u)) (md_inp_mmf hi (mmf_trans f1 u)) v
      exact ⟨g2, a1, mmf_trans f1 (mmf_trans u a2), a3⟩
theorem rn_loop {n : Nat} {p : Nat → Nat → Int32} {c : Nat} {fi : Nat → Int32} {N : Nat} (hn : n ≤ 24) (ok : ∀ i, i < n → in_ok (p i)) (hc : c ≤ 16) (hN : N ≤ 2000) (f : Nat) : ∀ (r d t : Nat) (m : mx_T), t ≤ 24 → d + r = N → mx_ok m d → rn_G n p c fi (lp_it (mf_Mo_run_76 186 (nI N)) (f + r + 1)) r d t m := by
  intro r
  induction r with
  | zero => exact fun d t m ht hd mo => rn_z hn hN _ ht (by omega)
  | succ r ih =>
    intro d t m ht hd mo
    by_cases z : t < n
    · exact rn_s hn ok hc hN _ z (by omega) mo (rn_en N (f + r)) (ih (d + 1) _ _ (mx_next_le (ok t z) (by omega) m) (by omega) (mx_do_ok mo _ _ _))
    · exact rn_o hn _ ht z
theorem lp_s {α β : Type} (F : (α → Option β) → α → Option β) (n : Nat) (a : α) : lp_it F (n + 1) a = F (lp_it F n) a := rfl
def rn_K (b : Int32) (g : wm_Sg) : Option (Int32 × wm_Sg) := lp_it (mf_Mo_run_76 186 b) 2100 (0, g)
def rn_L (b : Int32) (g : wm_Sg) : Option (Int32 × wm_Sg) := lp_it (mf_Mo_run_55 186 b) 2100 (0, g)
theorem z55_0 (b : Int32) (K : Int32 × wm_Sg → Option (Int32 × wm_Sg)) (x : Int32) (g : wm_Sg) (h : (40 : Int32) ≤ x) : mf_Mo_run_55 186 b K (x, g) = rn_K b g := by
  unfold mf_Mo_run_55 rn_K
  exact if_pos h
theorem z55_s (b : Int32) (K : Int32 × wm_Sg → Option (Int32 × wm_Sg)) {v : Nat} (hv : v < 40) (g : wm_Sg) : mf_Mo_run_55 186 b K (nI v, g) = K (nI (v + 1), wm_u g 200 v 0) := by
  unfold mf_Mo_run_55
  generalize lp_it (mf_Mo_run_76 186 b) 2100 = X
  dsimp only
  rw [if_neg (show ¬ (40 : Int32) ≤ nI v from n_nle (a := 40) (by decide) (by omega) hv), if_neg (mb_23 hv), mr_23, nI_clamp (by omega), nI_1]
theorem z35_0 (b : Int32) (K : Int32 × wm_Sg → Option (Int32 × wm_Sg)) (x : Int32) (g : wm_Sg) (h : (4 : Int32) ≤ x) : mf_Mo_run_35 186 b K (x, g) = rn_L b g := by
  unfold mf_Mo_run_35 rn_L
  exact if_pos h
theorem z35_s (b : Int32) (K : Int32 × wm_Sg → Option (Int32 × wm_Sg)) {v : Nat} (hv : v < 4) (g : wm_Sg) : mf_Mo_run_35 186 b K (nI v, g) = K (nI (v + 1), wm_u g 199 v 0) := by
  unfold mf_Mo_run_35
  generalize lp_it (mf_Mo_run_55 186 b) 2100 = X
  dsimp only
  rw [if_neg (n_nle4 hv), if_neg (mb_21 hv), mr_21, nI_clamp (by omega), nI_1]
def z_G (o M : Nat) (K : Int32 × wm_Sg → Option (Int32 × wm_Sg)) (X : wm_Sg → Option (Int32 × wm_Sg)) (v : Nat) : Prop := ∀ g : wm_Sg, (∀ u, u < v → g o u = 0) → ∃ g', K (nI v, g) = X g' ∧ (∀ a, a ≠ o → g' a = g a) ∧ ∀ u, u < M → g' o u = 0
theorem z_s {o M : Nat} {K K' : Int32 × wm_Sg → Option (Int32 × wm_Sg)} {X : wm_Sg → Option (Int32 × wm_Sg)} {v : Nat} (h : ∀ g, K' (nI v, g) = K (nI (v + 1), wm_u g o v 0)) (ih : z_G o M K X (v + 1)) : z_G o M K' X v := by
  intro g hz
  obtain ⟨g', e1, e2, e3⟩ := ih (wm_u g o v 0) (fun u hu => by
    rw [wm_u_app]
    by_cases z : u = v
    · rw [if_pos ⟨rfl, z⟩]
    · rw [if_neg (fun q => z q.2)]; exact hz u (by omega))
  exact ⟨g', by rw [h]; exact e1, fun a ha => by rw [e2 a ha, wm_u_ne _ _ _ ha], e3⟩
theorem z_0 {o M : Nat} {K' : Int32 × wm_Sg → Option (Int32 × wm_Sg)} {X : wm_Sg → Option (Int32 × wm_Sg)} (h : ∀ g, K' (nI M, g) = X g) : z_G o M K' X M := fun g hz => ⟨g, h g, fun _ _ => rfl, hz⟩
theorem z55_loop (b : Int32) (f : Nat) : ∀ k v : Nat, v + k = 40 → z_G 200 40 (lp_it (mf_Mo_run_55 186 b) (f + k + 1)) (rn_K b) v := by
  intro k
  induction k with
  | zero =>
    intro v h
    have e : v = 40 := by omega
    subst e
    exact z_0 (fun g => by rw [lp_s]; exact z55_0 b _ _ g (by decide))
  | succ k ih => exact fun v h => z_s (fun g => by rw [lp_s]; exact z55_s b _ (by omega) g) (ih (v + 1) (by omega))
theorem z35_loop (b : Int32) (f : Nat) : ∀ k v : Nat, v + k = 4 → z_G 199 4 (lp_it (mf_Mo_run_35 186 b) (f + k + 1)) (rn_L b) v := by
  intro k
  induction k with
  | zero =>
    intro v h
    have e : v = 4 := by omega
    subst e
    exact z_0 (fun g => by rw [lp_s]; exact z35_0 b _ _ g (by decide))
  | succ k ih => exact fun v h => z_s (fun g => by rw [lp_s]; exact z35_s b _ (by omega) g) (ih (v + 1) (by omega))
theorem md_run {A : ab_T} (ok : ab_ok A) {g : wm_Sg} (h : md_R A g) (x : Int32) : ∃ g', mf_Mo_run 186 x g = some ((ab_run A x).1, g') ∧ md_fr g g' ∧ md_R (ab_run A x).2 g' := by
  unfold mf_Mo_run mf_Mo_run_11 ab_run
  rcases ru_x x with z | ⟨z1, z2, N, hN, rfl⟩
  · rw [if_pos z]
    rcases z with z | z
    · rw [if_pos z]; exact ⟨g, rfl, fun _ _ => rfl, h⟩
    · by_cases q : x < 0
      · rw [if_pos q]; exact ⟨g, rfl, fun _ _ => rfl, h⟩
      · rw [if_neg q, if_neg z]; exact ⟨g, rfl, fun _ _ => rfl, h⟩
  · rw [if_neg z1, if_pos z2, if_neg (by rintro (q | q); exact z1 q; exact q z2)]
    obtain ⟨h1, h2, h3, h4⟩ := h
    have f0 : mmf g (wm_u (wm_u (wm_u (wm_u g 186 19 0) 186 20 0) 186 22 0) 186 24 0) := mmf_trans (mmf_u _ _ (by omega)) (mmf_trans (mmf_u _ _ (by omega)) (mmf_trans (mmf_u _ _ (by omega)) (mmf_u _ _ (by omega))))
    have v19 : wm_u (wm_u (wm_u (wm_u g 186 19 0) 186 20 0) 186 22 0) 186 24 0 186 19 = 0 := by simp only [wm_u_app]; rfl
    have v20 : wm_u (wm_u (wm_u (wm_u g 186 19 0) 186 20 0) 186 22 0) 186 24 0 186 20 = 0 := by simp only [wm_u_app]; rfl
    have v22 : wm_u (wm_u (wm_u (wm_u g 186 19 0) 186 20 0) 186 22 0) 186 24 0 186 22 = 0 := by simp only [wm_u_app]; rfl
    have v24 : wm_u (wm_u (wm_u (wm_u g 186 19 0) 186 20 0) 186 22 0) 186 24 0 186 24 = 0 := by simp only [wm_u_app]; rfl
    generalize wm_u (wm_u (wm_u (wm_u g 186 19 0) 186 20 0) 186 22 0) 186 24 0 = g0 at f0 v19 v20 v22 v24 ⊢
    obtain ⟨g1, a1, a2, a3⟩ := z35_loop (nI N) 2095 4 0 rfl g0 (fun u hu => absurd hu (by omega))
    obtain ⟨g2, b1, b2, b3⟩ := z55_loop (nI N) 2059 40 0 rfl g1 (fun u hu => absurd hu (by omega))
    have f2 : mmf g g2 := ⟨fun a h1 h2 h3 => by rw [b2 a h3, a2 a h2]; exact f0.1 a h1 h2 h3, fun j h1 h2 h3 h4 => by rw [b2 186 (by decide), a2 186 (by decide)]; exact f0.2 j h1 h2 h3 h4⟩
    have e186 : g2 186 = g0 186 := by rw [b2 186 (by decide), a2 186 (by decide)]
    have m2 : mmd mx_0 0 0 g2 := by
      refine ⟨by rw [e186]; exact v22, by rw [e186]; exact v19, by rw [e186]; exact v20, by rw [e186]; exact v24, fun v hv => by rw [b2 199 (by decide)]; exact a3 v hv, fun j hj => by rw [b3 j hj, if_neg (show ¬ j < mx_0.2.1 from Nat.not_lt_zero j)]⟩
    obtain ⟨g3, c1, c2, c3⟩ := rn_loop (fi := A.2.1.2) ok.1 ok.2.1 ok.2.2.1 hN (2099 - N) N 0 0 mx_0 (by omega) (by omega) ⟨Nat.le_refl 0, Nat.le_refl 0⟩ g2 (mp_R_mmf h1 f2) (md_inp_mmf h3 f2) m2
    rw [show 2099 - N + N + 1 = 2100 by omega] at c1
    have a1' : lp_it (mf_Mo_run_35 186 (nI N)) 2100 (0, g0) = rn_L (nI N) g1 := a1
    have b1' : rn_L (nI N) g1 = rn_K (nI N) g2 := b1
    have c1' : rn_K (nI N) g2 = some ((ab_go A N).1, g3) := c1
    rw [a1', b1', c1', nI_clamp (by omega)]
    have f3 := mmf_trans f2 c2
    refine ⟨g3, rfl, fun a ha => f3.1 a (by omega) (by omega) (by omega), mp_R_mmf h1 f3, ?_, md_inp_mmf h3 f3, c3⟩
    refine ⟨?_, by rw [f3.2 10 (by decide) (by decide) (by decide) (by decide)]; exact h2.2⟩
    rw [f3.2 5 (by decide) (by decide) (by decide) (by decide)]
    rcases h2.1 with z | ⟨z, hR⟩
    · exact Or.inl z
    · refine Or.inr ⟨z, fun i hi => ?_⟩
      have : ∀ q, ms_at g3 q = ms_at g q := fun q => by unfold ms_at; rw [f3.1 192 (by decide) (by decide) (by decide), f3.1 193 (by decide) (by decide) (by decide), f3.1 194 (by decide) (by decide) (by decide)]
      exact ⟨by rw [f3.1 191 (by decide) (by decide) (by decide)]; exact (hR i hi).1, fun l v hv => by rw [this]; exact (hR i hi).2 l v hv⟩
