/-! running: the reference -/
def mmd (m : mx_T) (d t : Nat) (g : wm_Sg) : Prop := g 186 22 = nI m.2.1 ∧ g 186 19 = nI d ∧ g 186 20 = nI t ∧ g 186 24 = nI m.2.2.2 ∧ (∀ v, v < 4 → g 199 v = m.1 v) ∧ ∀ j, j < 40 → g 200 j = if j < m.2.1 then m.2.2.1 j else 0
def mmf (g g' : wm_Sg) : Prop := (∀ a, a ≠ 186 → a ≠ 199 → a ≠ 200 → g' a = g a) ∧ ∀ j, j ≠ 19 → j ≠ 20 → j ≠ 22 → j ≠ 24 → g' 186 j = g 186 j
theorem mmf_refl (g : wm_Sg) : mmf g g := ⟨fun _ _ _ _ => rfl, fun _ _ _ _ _ => rfl⟩
theorem mmf_trans {g g' g'' : wm_Sg} (a : mmf g g') (b : mmf g' g'') : mmf g g'' := ⟨fun x h1 h2 h3 => (b.1 x h1 h2 h3).trans (a.1 x h1 h2 h3), fun j h1 h2 h3 h4 => (b.2 j h1 h2 h3 h4).trans (a.2 j h1 h2 h3 h4)⟩
theorem mmf_u {g : wm_Sg} {o : Nat} (j : Nat) (x : Int32) (h : o = 199 ∨ o = 200 ∨ (o = 186 ∧ (j = 19 ∨ j = 20 ∨ j = 22 ∨ j = 24))) : mmf g (wm_u g o j x) := by
  refine ⟨fun a h1 h2 h3 => wm_u_ne _ _ _ (by omega), fun i h1 h2 h3 h4 => ?_⟩
  rw [wm_u_app, if_neg (by omega)]
theorem mmd_up {m : mx_T} {d t : Nat} {g : wm_Sg} (h : mmd m d t g) (a : Nat) (x : Int32) : mmf g (wm_u g 199 a x) ∧ mmd (mx_up m.1 a x, m.2) d t (wm_u g 199 a x) := by
  obtain ⟨h1, h2, h3, h4, h5, h6⟩ := h
  refine ⟨mmf_u _ _ (by omega), ?_, ?_, ?_, ?_, fun v hv => ?_, fun j hj => ?_⟩
  · rw [wm_u_ne _ _ _ (by decide)]; exact h1
  · rw [wm_u_ne _ _ _ (by decide)]; exact h2
  · rw [wm_u_ne _ _ _ (by decide)]; exact h3
  · rw [wm_u_ne _ _ _ (by decide)]; exact h4
  · rw [wm_u_app]
    show _ = mx_up m.1 a x v
    unfold mx_up
    by_cases e : v = a
    · rw [if_pos ⟨rfl, e⟩, if_pos e]
    · rw [if_neg (fun q => e q.2), if_neg e]; exact h5 v hv
  · rw [wm_u_ne _ _ _ (by decide)]; exact h6 j hj
theorem mmd_pl {m : mx_T} {d t : Nat} {g : wm_Sg} (h : mmd m d t g) {s : Nat} {x : Int32} (e : x = nI s) : mmf g (wm_u g 186 20 x) ∧ mmd m d s (wm_u g 186 20 x) := by
  obtain ⟨h1, h2, h3, h4, h5, h6⟩ := h
  refine ⟨mmf_u _ _ (by omega), ?_, ?_, ?_, ?_, fun v hv => ?_, fun j hj => ?_⟩
  · rw [wm_u_app, if_neg (by decide)]; exact h1
  · rw [wm_u_app, if_neg (by decide)]; exact h2
  · rw [wm_u_app, if_pos ⟨rfl, rfl⟩]; exact e
  · rw [wm_u_app, if_neg (by decide)]; exact h4
  · rw [wm_u_ne _ _ _ (by decide)]; exact h5 v hv
  · rw [wm_u_ne _ _ _ (by decide)]; exact h6 j hj
theorem pf_Mo_print {m : mx_T} {d t : Nat} {g : wm_Sg} (h : mmd m d t g) (hk : m.2.1 ≤ 2000) (x : Int32) : ∃ g', mf_Mo_print 186 x g = some g' ∧ mmf g g' ∧ mmd (m.1, m.2.1 + 1, mx_up m.2.2.1 m.2.1 x, m.2.2.2) d t g' := by
  obtain ⟨h1, h2, h3, h4, h5, h6⟩ := h
  unfold mf_Mo_print mf_Mo_print_19
  by_cases e : m.2.1 < 40
  · rw [if_neg (show ¬ (40 : Int32) ≤ g 186 22 by rw [h1]; exact n_nle (a := 40) (by decide) (by omega) e), if_neg (show ¬ (g 186 22 < 0 ∨ sh_n (sh_r 186 23) ≤ (g 186 22).toNatClampNeg) by rw [h1]; exact mb_23 e), mr_23, h1, nI_clamp (by omega)]
    refine ⟨_, rfl, mmf_trans (mmf_u _ _ (by omega)) (mmf_u _ _ (by omega)), ?_, ?_, ?_, ?_, fun v hv => ?_, fun j hj => ?_⟩
    · rw [wm_u_app, if_pos ⟨rfl, rfl⟩, wm_u_ne _ _ _ (by decide), h1, nI_1]
    · rw [wm_u_app, if_neg (by decide), wm_u_ne _ _ _ (by decide)]; exact h2
    · rw [wm_u_app, if_neg (by decide), wm_u_ne _ _ _ (by decide)]; exact h3
    · rw [wm_u_app, if_neg (by decide), wm_u_ne _ _ _ (by decide)]; exact h4
    · rw [wm_u_ne _ _ _ (by decide), wm_u_ne _ _ _ (by decide)]; exact h5 v hv
    · rw [wm_u_ne _ _ _ (by decide), wm_u_app]
      show _ = if j < m.2.1 + 1 then mx_up m.2.2.1 m.2.1 x j else 0
      unfold mx_up
      by_cases z : j = m.2.1
      · rw [if_pos ⟨rfl, z⟩, if_pos (by omega), if_pos z]
      · rw [if_neg (fun q => z q.2), if_neg z, h6 j hj]
        by_cases y : j < m.2.1
        · rw [if_pos y, if_pos (by omega)]
        · rw [if_neg y, if_neg (by omega)]
  · rw [if_pos (show (40 : Int32) ≤ g 186 22 by rw [h1]; exact n_le (a := 40) (by decide) (by omega) (by omega))]
    refine ⟨_, rfl, mmf_u _ _ (by omega), ?_, ?_, ?_, ?_, fun v hv => ?_, fun j hj => ?_⟩
    · rw [wm_u_app, if_pos ⟨rfl, rfl⟩, h1, nI_1]
    · rw [wm_u_app, if_neg (by decide)]; exact h2
    · rw [wm_u_app, if_neg (by decide)]; exact h3
    · rw [wm_u_app, if_neg (by decide)]; exact h4
    · rw [wm_u_ne _ _ _ (by decide)]; exact h5 v hv
    · rw [wm_u_ne _ _ _ (by decide)]
      show _ = if j < m.2.1 + 1 then mx_up m.2.2.1 m.2.1 x j else 0
      unfold mx_up
      rw [if_pos (by omega), if_neg (by omega), h6 j hj, if_pos (by omega)]
theorem pf_Mo_read {m : mx_T} {d t : Nat} {g : wm_Sg} {c : Nat} {f : Nat → Int32} (hc : c ≤ 16) (hf : md_inp c f g) (h : mmd m d t g) (hk : m.2.2.2 ≤ 2000) {a : Nat} (ha : a < 4) : ∃ g', mf_Mo_read 186 (nI a) g = some g' ∧ mmf g g' ∧ mmd (mx_up m.1 a (if m.2.2.2 < c then f m.2.2.2 else 0), m.2.1, m.2.2.1, m.2.2.2 + 1) d t g' := by
  have h24 : g 186 24 = nI m.2.2.2 := h.2.2.2.1
  have key : ∀ x : Int32, ∃ g', mf_Mo_read_29 186 x (nI a) 199 g = some g' ∧ mmf g g' ∧ mmd (mx_up m.1 a x, m.2.1, m.2.2.1, m.2.2.2 + 1) d t g' := by
    intro x
    obtain ⟨u, v1, v2, v3, v4, v5, v6⟩ := mmd_up h a x
    have b := mb_21 ha
    rw [mr_21] at b
    unfold mf_Mo_read_29
    rw [if_neg b, nI_clamp (by omega)]
    refine ⟨_, rfl, mmf_trans u (mmf_u _ _ (by omega)), ?_, ?_, ?_, ?_, fun v hv => ?_, fun j hj => ?_⟩
    · rw [wm_u_app, if_neg (by decide)]; exact v1
    · rw [wm_u_app, if_neg (by decide)]; exact v2
    · rw [wm_u_app, if_neg (by decide)]; exact v3
    · rw [wm_u_app, if_pos ⟨rfl, rfl⟩, v4, nI_1]
    · rw [wm_u_ne _ _ _ (by decide)]; exact v5 v hv
    · rw [wm_u_ne _ _ _ (by decide)]; exact v6 j hj
  unfold mf_Mo_read
  rw [mr_21]
  by_cases e : m.2.2.2 < c
  · rw [if_neg (show ¬ g 186 17 ≤ g 186 24 by rw [hf.1, h24]; exact n_nle (by omega) (by omega) e), if_neg (show ¬ (g 186 24 < 0 ∨ sh_n (sh_r 186 18) ≤ (g 186 24).toNatClampNeg) by rw [h24]; exact mb_18 (by omega)), mr_18, h24, nI_clamp (by omega), hf.2 _ e, if_pos e]
    exact key _
  · rw [if_pos (show g 186 17 ≤ g 186 24 by rw [hf.1, h24]; exact n_le (by omega) (by omega) (by omega)), if_neg e]
    exact key _
theorem pf_Mo_worth {o x y : Int32} (ho : o = 2 ∨ o = 3 ∨ o = 4 ∨ (o = 5 ∧ y ≠ 0)) (g : wm_Sg) : mf_Mo_worth 186 o x y g = some (fc_calc o x y, g) := by
  unfold mf_Mo_worth fc_calc
  rcases ho with rfl | rfl | rfl | ⟨rfl, z⟩
  · rfl
  · rfl
  · rfl
  · rw [if_neg (by decide), if_neg (by decide), if_neg (by decide), if_neg (by decide), if_neg (by decide), if_neg (by decide), if_neg z, pf_Mo_divided z, Option.bind_some]
/-- whether an instruction jumps -/
def mx_j (q : Nat → Int32) (m : mx_T) : Bool := decide (q 0 = 9) || (decide (q 0 = 7) && decide (m.1 (q 1).toNatClampNeg = 0)) || (decide (q 0 = 8) && !(decide ((0 : Int32) ≤ m.1 (q 1).toNatClampNeg)))
theorem mx_next_j (q : Nat → Int32) (t : Nat) (m : mx_T) (h : q 0 ≠ 11) : mx_next q t m = if mx_j q m = true then (q 3).toNatClampNeg else t + 1 := by
  unfold mx_next mx_j
  by_cases c7 : q 0 = 7
  · rw [if_pos c7, decide_eq_false (show ¬ q 0 = 9 by rw [c7]; decide), decide_eq_true c7, decide_eq_false (show ¬ q 0 = 8 by rw [c7]; decide)]
    by_cases z : m.1 (q 1).toNatClampNeg = 0
    · rw [if_pos z, decide_eq_true z]; rfl
    · rw [if_neg z, decide_eq_false z]; rfl
  · rw [if_neg c7, decide_eq_false c7]
    by_cases c8 : q 0 = 8
    · rw [if_pos c8, decide_eq_false (show ¬ q 0 = 9 by rw [c8]; decide), decide_eq_true c8]
      by_cases z : (0 : Int32) ≤ m.1 (q 1).toNatClampNeg
      · rw [if_pos z, decide_eq_true z]; rfl
      · rw [if_neg z, decide_eq_false z]; rfl
    · rw [if_neg c8, decide_eq_false c8]
      by_cases c9 : q 0 = 9
      · rw [if_pos c9, decide_eq_true c9]; rfl
      · rw [if_neg c9, if_neg h, decide_eq_false c9]; rfl
theorem pf_Mo_step {n t : Nat} {p : Nat → Nat → Int32} {g : wm_Sg} {c : Nat} {f : Nat → Int32} {m : mx_T} {d : Nat} (hn : n ≤ 24) (ht : t < n) (hp : mp_R n p g) (ok : in_ok (p t)) (hc : c ≤ 16) (hf : md_inp c f g) (h : mmd m d t g) (mo : mx_ok m d) (hd : d ≤ 2000) :
    if p t 0 = 5 ∧ m.1 (p t 3).toNatClampNeg = 0 then mf_Mo_step 186 g = some (2, g) else ∃ g', mf_Mo_step 186 g = some (if p t 0 = 11 then 1 else 0, g') ∧ mmf g g' ∧ mmd (mx_do (p t) c f m) d (if p t 0 = 11 then t + 1 else mx_next (p t) t m) g' := by
  have t24 : t < 24 := by omega
  obtain ⟨p0, p1, p2, p3⟩ := hp.2 t ht
  have ci : (nI t).toNatClampNeg = t := nI_clamp (by omega)
  have h20 : g 186 20 = nI t := h.2.2.1
  have h5 := h.2.2.2.2.1
  -- the ends
  have e200 : ∀ (b : Bool) (g1 : wm_Sg), b = mx_j (p t) m → mmf g g1 → mmd (mx_do (p t) c f m) d t g1 → ∃ g', mf_Mo_step_200 186 (nI t) (p t 0) (p t 3) (b_i b) g1 = some (if p t 0 = 11 then 1 else 0, g') ∧ mmf g g' ∧ mmd (mx_do (p t) c f m) d (if p t 0 = 11 then t + 1 else mx_next (p t) t m) g' := by
    intro b g1 eb f1 h1
    have tj : mx_j (p t) m = true → nI (p t 3).toNatClampNeg = p t 3 := fun z => by
      have : p t 0 = 7 ∨ p t 0 = 8 ∨ p t 0 = 9 := by
        unfold mx_j at z
        by_cases d9 : p t 0 = 9
        · exact Or.inr (Or.inr d9)
        · by_cases d7 : p t 0 = 7
          · exact Or.inl d7
          · by_cases d8 : p t 0 = 8
            · exact Or.inr (Or.inl d8)
            · rw [decide_eq_false d9, decide_eq_false d7, decide_eq_false d8] at z; exact absurd z (by simp)
      obtain ⟨x, hx, e⟩ := in_t ok this
      rw [e, nI_clamp (by omega)]
    unfold mf_Mo_step_200 mf_Mo_step_214 mf_Mo_step_228
    rw [nI_1]
    by_cases c11 : p t 0 = 11
    · have j0 : mx_j (p t) m = false := by
        unfold mx_j
        rw [c11]; rfl
      rw [j0] at eb
      rw [eb, if_pos (show b_i false = 0 from rfl), if_pos c11, if_pos c11, if_pos c11]
      obtain ⟨u, v⟩ := mmd_pl h1 (s := t + 1) rfl
      exact ⟨_, rfl, mmf_trans f1 u, v⟩
    · rw [if_neg c11, if_neg c11, if_neg c11, if_neg c11, mx_next_j _ _ _ c11]
      cases b with
      | false =>
        rw [if_pos (show b_i false = 0 from rfl), if_neg (show ¬ mx_j (p t) m = true by rw [← eb]; decide)]
        obtain ⟨u, v⟩ := mmd_pl h1 (s := t + 1) rfl
        exact ⟨_, rfl, mmf_trans f1 u, v⟩
      | true =>
        rw [if_neg (show ¬ b_i true = 0 by decide), if_pos eb.symm]
        obtain ⟨u, v⟩ := mmd_pl h1 (tj eb.symm).symm
        exact ⟨_, rfl, mmf_trans f1 u, v⟩
  have e85 : ∀ b : Bool, b = mx_j (p t) m → ¬ (p t 0 = 5 ∧ m.1 (p t 3).toNatClampNeg = 0) → ∃ g', mf_Mo_step_85 186 (nI t) (p t 0) (p t 1) (p t 3) (b_i b) g = some (if p t 0 = 11 then 1 else 0, g') ∧ mmf g g' ∧ mmd (mx_do (p t) c f m) d (if p t 0 = 11 then t + 1 else mx_next (p t) t m) g' := by
    intro b eb nf
    have e2 := e200 b
    unfold mf_Mo_step_85
    rw [mr_21, mr_3]
    by_cases c0 : p t 0 = 0
    · obtain ⟨a, ha, ea⟩ := in_1 ok (by rw [c0]; decide)
      have w : ¬ (p t 1 < 0 ∨ sh_n 199 ≤ (p t 1).toNatClampNeg) := by rw [ea, ← mr_21]; exact mb_21 ha
      have er : mx_do (p t) c f m = (mx_up m.1 (p t 1).toNatClampNeg (p t 3), m.2) := by unfold mx_do; rw [if_pos c0]
      rw [if_pos c0, if_neg w]
      obtain ⟨u, v⟩ := mmd_up h (p t 1).toNatClampNeg (p t 3)
      exact e2 _ eb u (by rw [er]; exact v)
    · rw [if_neg c0]
      by_cases c1 : p t 0 = 1
      · obtain ⟨a, ha, ea⟩ := in_1 ok (by rw [c1]; decide)
        obtain ⟨b', hb, eb'⟩ := in_2 ok (Or.inl c1)
        have w : ¬ (p t 1 < 0 ∨ sh_n 199 ≤ (p t 1).toNatClampNeg) := by rw [ea, ← mr_21]; exact mb_21 ha
        have w2 : ¬ (g 189 (nI t).toNatClampNeg < 0 ∨ sh_n 199 ≤ (g 189 (nI t).toNatClampNeg).toNatClampNeg) := by rw [ci, p2, eb', ← mr_21]; exact mb_21 hb
        have b3 := mb_3 t24
        rw [mr_3] at b3
        have er : mx_do (p t) c f m = (mx_up m.1 (p t 1).toNatClampNeg (m.1 (p t 2).toNatClampNeg), m.2) := by unfold mx_do; rw [if_neg c0, if_pos c1]
        have ev : g 199 (g 189 (nI t).toNatClampNeg).toNatClampNeg = m.1 (p t 2).toNatClampNeg := by rw [ci, p2]; exact h5 _ (by rw [eb', nI_clamp (by omega)]; exact hb)
        rw [if_pos c1, if_neg b3, if_neg w2, if_neg w, ev]
        obtain ⟨u, v⟩ := mmd_up h (p t 1).toNatClampNeg (m.1 (p t 2).toNatClampNeg)
        exact e2 _ eb u (by rw [er]; exact v)
      · rw [if_neg c1]
        by_cases c2 : p t 0 = 2 ∨ p t 0 = 3 ∨ p t 0 = 4 ∨ p t 0 = 5
        · obtain ⟨a, ha, ea⟩ := in_1 ok (by rcases c2 with z | z | z | z <;> (rw [z]; decide))
          obtain ⟨b', hb, eb'⟩ := in_2 ok (Or.inr c2)
          obtain ⟨e, he, ee⟩ := in_3 ok c2
          have w : ¬ (p t 1 < 0 ∨ sh_n 199 ≤ (p t 1).toNatClampNeg) := by rw [ea, ← mr_21]; exact mb_21 ha
          have w2 : ¬ (g 189 (nI t).toNatClampNeg < 0 ∨ sh_n 199 ≤ (g 189 (nI t).toNatClampNeg).toNatClampNeg) := by rw [ci, p2, eb', ← mr_21]; exact mb_21 hb
          have w3 : ¬ (p t 3 < 0 ∨ sh_n 199 ≤ (p t 3).toNatClampNeg) := by rw [ee, ← mr_21]; exact mb_21 he
          have b3 := mb_3 t24
          rw [mr_3] at b3
          have er : mx_do (p t) c f m = (mx_up m.1 (p t 1).toNatClampNeg (fc_calc (p t 0) (m.1 (p t 2).toNatClampNeg) (m.1 (p t 3).toNatClampNeg)), m.2) := by unfold mx_do; rw [if_neg c0, if_neg c1, if_pos c2]
          have ev : g 199 (g 189 (nI t).toNatClampNeg).toNatClampNeg = m.1 (p t 2).toNatClampNeg := by rw [ci, p2]; exact h5 _ (by rw [eb', nI_clamp (by omega)]; exact hb)
          have ev3 : g 199 (p t 3).toNatClampNeg = m.1 (p t 3).toNatClampNeg := h5 _ (by rw [ee, nI_clamp (by omega)]; exact he)
          have hw : p t 0 = 2 ∨ p t 0 = 3 ∨ p t 0 = 4 ∨ (p t 0 = 5 ∧ m.1 (p t 3).toNatClampNeg ≠ 0) := by
            rcases c2 with z | z | z | z
            · exact Or.inl z
            · exact Or.inr (Or.inl z)
            · exact Or.inr (Or.inr (Or.inl z))
            · exact Or.inr (Or.inr (Or.inr ⟨z, fun y => nf ⟨z, y⟩⟩))
          rw [if_neg (show ¬ p t 0 ≤ 1 by rcases c2 with z | z | z | z <;> (rw [z]; decide)), if_neg (show ¬ (6 : Int32) ≤ p t 0 by rcases c2 with z | z | z | z <;> (rw [z]; decide)), if_neg b3, if_neg w2, if_neg w3, ev, ev3, pf_Mo_worth hw, Option.bind_some, if_neg w]
          obtain ⟨u, v⟩ := mmd_up h (p t 1).toNatClampNeg (fc_calc (p t 0) (m.1 (p t 2).toNatClampNeg) (m.1 (p t 3).toNatClampNeg))
          exact e2 _ eb u (by rw [er]; exact v)
        · have e170 : ∃ g', mf_Mo_step_170 186 (nI t) (p t 0) (p t 1) (p t 3) (b_i b) g = some (if p t 0 = 11 then 1 else 0, g') ∧ mmf g g' ∧ mmd (mx_do (p t) c f m) d (if p t 0 = 11 then t + 1 else mx_next (p t) t m) g' := by
            unfold mf_Mo_step_170
            rw [mr_21]
            by_cases c6 : p t 0 = 6
            · obtain ⟨a, ha, ea⟩ := in_1 ok (by rw [c6]; decide)
              have ca : (p t 1).toNatClampNeg = a := by rw [ea, nI_clamp (by omega)]
              have er : mx_do (p t) c f m = (mx_up m.1 a (if m.2.2.2 < c then f m.2.2.2 else 0), m.2.1, m.2.2.1, m.2.2.2 + 1) := by unfold mx_do; rw [if_neg c0, if_neg c1, if_neg c2, if_pos c6, ca]
              obtain ⟨g1, a1, a2, a3⟩ := pf_Mo_read hc hf h (Nat.le_trans mo.2 hd) ha
              have a1' : mf_Mo_read 186 (p t 1) g = some g1 := by rw [ea]; exact a1
              rw [if_pos c6, a1', Option.bind_some]
              exact e2 _ eb a2 (by rw [er]; exact a3)
            · rw [if_neg c6]
              by_cases c10 : p t 0 = 10
              · obtain ⟨a, ha, ea⟩ := in_1 ok (by rw [c10]; decide)
                have w : ¬ (p t 1 < 0 ∨ sh_n 199 ≤ (p t 1).toNatClampNeg) := by rw [ea, ← mr_21]; exact mb_21 ha
                have er : mx_do (p t) c f m = (m.1, m.2.1 + 1, mx_up m.2.2.1 m.2.1 (m.1 (p t 1).toNatClampNeg), m.2.2.2) := by unfold mx_do; rw [if_neg c0, if_neg c1, if_neg c2, if_neg c6, if_pos c10]
                obtain ⟨g1, a1, a2, a3⟩ := pf_Mo_print h (Nat.le_trans mo.1 hd) (m.1 (p t 1).toNatClampNeg)
                rw [if_pos c10, if_neg w, h5 (p t 1).toNatClampNeg (by rw [ea, nI_clamp (by omega)]; exact ha), a1, Option.bind_some]
                exact e2 _ eb a2 (by rw [er]; exact a3)
              · have er : mx_do (p t) c f m = m := by unfold mx_do; rw [if_neg c0, if_neg c1, if_neg c2, if_neg c6, if_neg c10]
                rw [if_neg c10]
                exact e2 g eb (mmf_refl g) (by rw [er]; exact h)
          by_cases l1 : p t 0 ≤ 1
          · rw [if_pos l1]; exact e170
          · rw [if_neg l1]
            by_cases l6 : (6 : Int32) ≤ p t 0
            · rw [if_pos l6]; exact e170
            · exfalso
              obtain ⟨o, ho, h0, -⟩ := ok
              rw [h0] at l1 l6 c2
              exact (by decide +kernel : ∀ k, k < 13 → ¬ nI k ≤ 1 → ¬ (6 : Int32) ≤ nI k → (nI k = 2 ∨ nI k = 3 ∨ nI k = 4 ∨ nI k = 5)) o ho l1 l6 |> c2
  have e44 : ¬ (p t 0 = 5 ∧ m.1 (p t 3).toNatClampNeg = 0) → ∃ g', mf_Mo_step_44 186 (nI t) (p t 0) (p t 1) (p t 3) g = some (if p t 0 = 11 then 1 else 0, g') ∧ mmf g g' ∧ mmd (mx_do (p t) c f m) d (if p t 0 = 11 then t + 1 else mx_next (p t) t m) g' := by
    intro nf
    have y1 : ∀ e : mx_j (p t) m = true, ∃ g', mf_Mo_step_80 186 (nI t) (p t 0) (p t 1) (p t 3) g = some (if p t 0 = 11 then 1 else 0, g') ∧ mmf g g' ∧ mmd (mx_do (p t) c f m) d (if p t 0 = 11 then t + 1 else mx_next (p t) t m) g' := fun e => e85 true e.symm nf
    have y0 : ∀ e : mx_j (p t) m = false, ∃ g', mf_Mo_step_84 186 (nI t) (p t 0) (p t 1) (p t 3) g = some (if p t 0 = 11 then 1 else 0, g') ∧ mmf g g' ∧ mmd (mx_do (p t) c f m) d (if p t 0 = 11 then t + 1 else mx_next (p t) t m) g' := fun e => e85 false e.symm nf
    unfold mf_Mo_step_44 mf_Mo_step_65
    rw [mr_21]
    by_cases c9 : p t 0 = 9
    · rw [if_pos c9]
      exact y1 (by unfold mx_j; rw [decide_eq_true c9]; rfl)
    · rw [if_neg c9]
      by_cases c7 : p t 0 = 7
      · obtain ⟨a, ha, ea⟩ := in_a' ok (Or.inl c7)
        have w : ¬ (p t 1 < 0 ∨ sh_n 199 ≤ (p t 1).toNatClampNeg) := by rw [ea, ← mr_21]; exact mb_21 ha
        rw [if_pos c7, if_neg w, h5 (p t 1).toNatClampNeg (by rw [ea, nI_clamp (by omega)]; exact ha), if_neg (show ¬ p t 0 = 8 by rw [c7]; decide)]
        by_cases z : m.1 (p t 1).toNatClampNeg = 0
        · rw [if_pos z]
          exact y1 (by unfold mx_j; rw [decide_eq_false c9, decide_eq_true c7, decide_eq_true z]; rfl)
        · rw [if_neg z]
          exact y0 (by unfold mx_j; rw [decide_eq_false c9, decide_eq_true c7, decide_eq_false z, decide_eq_false (show ¬ p t 0 = 8 by rw [c7]; decide)]; rfl)
      · rw [if_neg c7]
        by_cases c8 : p t 0 = 8
        · obtain ⟨a, ha, ea⟩ := in_a' ok (Or.inr c8)
          have w : ¬ (p t 1 < 0 ∨ sh_n 199 ≤ (p t 1).toNatClampNeg) := by rw [ea, ← mr_21]; exact mb_21 ha
          rw [if_pos c8, if_neg w, h5 (p t 1).toNatClampNeg (by rw [ea, nI_clamp (by omega)]; exact ha)]
          by_cases z : (0 : Int32) ≤ m.1 (p t 1).toNatClampNeg
          · rw [if_pos z]
            exact y0 (by unfold mx_j; rw [decide_eq_false c9, decide_eq_false c7, decide_eq_true c8, decide_eq_true z]; rfl)
          · rw [if_neg z]
            exact y1 (by unfold mx_j; rw [decide_eq_false c9, decide_eq_false c7, decide_eq_true c8, decide_eq_false z]; rfl)
        · rw [if_neg c8]
          exact y0 (by unfold mx_j; rw [decide_eq_false c9, decide_eq_false c7, decide_eq_false c8]; rfl)
  unfold mf_Mo_step
  simp only [h20]
  rw [if_neg (mb_1 t24), if_neg (mb_2 t24), if_neg (mb_4 t24), mr_1, mr_2, mr_4, mr_21, ci]
  simp only [p0, p1, p3]
  by_cases c5 : p t 0 = 5
  · obtain ⟨e, he, ee⟩ := in_3 ok (Or.inr (Or.inr (Or.inr c5)))
    have w3 : ¬ (p t 3 < 0 ∨ sh_n 199 ≤ (p t 3).toNatClampNeg) := by rw [ee, ← mr_21]; exact mb_21 he
    rw [if_pos c5, if_neg w3, h5 (p t 3).toNatClampNeg (by rw [ee, nI_clamp (by omega)]; exact he)]
    by_cases z : m.1 (p t 3).toNatClampNeg = 0
    · rw [if_pos (show p t 0 = 5 ∧ m.1 (p t 3).toNatClampNeg = 0 from ⟨c5, z⟩), if_pos z]
    · rw [if_neg (show ¬ (p t 0 = 5 ∧ m.1 (p t 3).toNatClampNeg = 0) from fun q => z q.2), if_neg z]
      exact e44 (fun q => z q.2)
  · rw [if_neg (show ¬ (p t 0 = 5 ∧ m.1 (p t 3).toNatClampNeg = 0) from fun q => c5 q.1), if_neg c5]
    exact e44 (fun q => c5 q.1)
