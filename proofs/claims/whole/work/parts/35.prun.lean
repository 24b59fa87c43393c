/-! running -/
abbrev mx_T : Type := (Nat → Int32) × Nat × (Nat → Int32) × Nat
def mx_up (f : Nat → Int32) (a : Nat) (x : Int32) : Nat → Int32 := fun v => if v = a then x else f v
def mx_do (q : Nat → Int32) (c : Nat) (f : Nat → Int32) (m : mx_T) : mx_T :=
  if q 0 = 0 then (mx_up m.1 (q 1).toNatClampNeg (q 3), m.2)
  else if q 0 = 1 then (mx_up m.1 (q 1).toNatClampNeg (m.1 (q 2).toNatClampNeg), m.2)
  else if q 0 = 2 ∨ q 0 = 3 ∨ q 0 = 4 ∨ q 0 = 5 then (mx_up m.1 (q 1).toNatClampNeg (fc_calc (q 0) (m.1 (q 2).toNatClampNeg) (m.1 (q 3).toNatClampNeg)), m.2)
  else if q 0 = 6 then (mx_up m.1 (q 1).toNatClampNeg (if m.2.2.2 < c then f m.2.2.2 else 0), m.2.1, m.2.2.1, m.2.2.2 + 1)
  else if q 0 = 10 then (m.1, m.2.1 + 1, mx_up m.2.2.1 m.2.1 (m.1 (q 1).toNatClampNeg), m.2.2.2)
  else m
def mx_next (q : Nat → Int32) (t : Nat) (m : mx_T) : Nat :=
  if q 0 = 7 then (if m.1 (q 1).toNatClampNeg = 0 then (q 3).toNatClampNeg else t + 1)
  else if q 0 = 8 then (if (0 : Int32) ≤ m.1 (q 1).toNatClampNeg then t + 1 else (q 3).toNatClampNeg)
  else if q 0 = 9 then (q 3).toNatClampNeg
  else if q 0 = 11 then 24 else t + 1
def mx_go (n : Nat) (p : Nat → Nat → Int32) (c : Nat) (f : Nat → Int32) : Nat → Nat → Nat → mx_T → Int32 × Nat × Int32 × mx_T
  | 0, d, t, m => if t < n then (0, d, nI t, m) else (1, d, -1, m)
  | r + 1, d, t, m => if t < n then (if p t 0 = 5 ∧ m.1 (p t 3).toNatClampNeg = 0 then (2, d + 1, nI t, m) else mx_go n p c f r (d + 1) (mx_next (p t) t m) (mx_do (p t) c f m)) else (1, d, -1, m)
def mx_ok (m : mx_T) (d : Nat) : Prop := m.2.1 ≤ d ∧ m.2.2.2 ≤ d
theorem mx_do_ok {m : mx_T} {d : Nat} (h : mx_ok m d) (q : Nat → Int32) (c : Nat) (f : Nat → Int32) : mx_ok (mx_do q c f m) (d + 1) := by
  obtain ⟨h1, h2⟩ := h
  unfold mx_do mx_ok
  by_cases c0 : q 0 = 0
  · rw [if_pos c0]; exact ⟨by show m.2.1 ≤ _; omega, by show m.2.2.2 ≤ _; omega⟩
  · rw [if_neg c0]
    by_cases c1 : q 0 = 1
    · rw [if_pos c1]; exact ⟨by show m.2.1 ≤ _; omega, by show m.2.2.2 ≤ _; omega⟩
    · rw [if_neg c1]
      by_cases c2 : q 0 = 2 ∨ q 0 = 3 ∨ q 0 = 4 ∨ q 0 = 5
      · rw [if_pos c2]; exact ⟨by show m.2.1 ≤ _; omega, by show m.2.2.2 ≤ _; omega⟩
      · rw [if_neg c2]
        by_cases c6 : q 0 = 6
        · rw [if_pos c6]; exact ⟨by show m.2.1 ≤ _; omega, by show m.2.2.2 + 1 ≤ _; omega⟩
        · rw [if_neg c6]
          by_cases c10 : q 0 = 10
          · rw [if_pos c10]; exact ⟨by show m.2.1 + 1 ≤ _; omega, by show m.2.2.2 ≤ _; omega⟩
          · rw [if_neg c10]; exact ⟨by omega, by omega⟩
theorem mx_next_le {q : Nat → Int32} (ok : in_ok q) {t : Nat} (ht : t < 24) (m : mx_T) : mx_next q t m ≤ 24 := by
  have k : (q 0 = 7 ∨ q 0 = 8 ∨ q 0 = 9) → (q 3).toNatClampNeg ≤ 24 := fun z => by
    obtain ⟨x, hx, e⟩ := in_t ok z
    rw [e, nI_clamp (by omega)]; exact hx
  unfold mx_next
  by_cases c7 : q 0 = 7
  · rw [if_pos c7]
    by_cases z : m.1 (q 1).toNatClampNeg = 0
    · rw [if_pos z]; exact k (Or.inl c7)
    · rw [if_neg z]; omega
  · rw [if_neg c7]
    by_cases c8 : q 0 = 8
    · rw [if_pos c8]
      by_cases z : (0 : Int32) ≤ m.1 (q 1).toNatClampNeg
      · rw [if_pos z]; omega
      · rw [if_neg z]; exact k (Or.inr (Or.inl c8))
    · rw [if_neg c8]
      by_cases c9 : q 0 = 9
      · rw [if_pos c9]; exact k (Or.inr (Or.inr c9))
      · rw [if_neg c9]
        by_cases c11 : q 0 = 11
        · rw [if_pos c11]; omega
        · rw [if_neg c11]; omega
theorem mx_out {n : Nat} (p : Nat → Nat → Int32) (c : Nat) (f : Nat → Int32) (r d : Nat) {t : Nat} (m : mx_T) (h : ¬ t < n) : mx_go n p c f r d t m = (1, d, -1, m) := by
  cases r with
  | zero => exact if_neg h
  | succ r => exact if_neg h
theorem hs_n {n t : Nat} (hn : n ≤ 24) (ht : t ≤ 24) : hs_b n (nI t) = decide (t < n) := by
  unfold hs_b
  rw [decide_eq_false (show ¬ nI t < 0 from fun q => by have := (nI_ltI (b := 0) (show t < 2 ^ 31 by omega) (by decide)).mp q; omega)]
  by_cases e : t < n
  · rw [decide_eq_true e, decide_eq_false (n_nle (by omega) (by omega) e)]; rfl
  · rw [decide_eq_false e, decide_eq_true (n_le (by omega) (by omega) (by omega))]; rfl
/-- every instruction that uses a variable uses one of the four -/
theorem in_1 {q : Nat → Int32} (h : in_ok q) (e : ¬ (q 0 = 9 ∨ q 0 = 11 ∨ q 0 = 12)) : ∃ a, a < 4 ∧ q 1 = nI a := by
  obtain ⟨o, ho, h0, h1, -⟩ := h
  by_cases z : o = 9 ∨ o = 11 ∨ o = 12
  · exfalso
    apply e
    rw [h0]
    rcases z with z | z | z
    · subst z; exact Or.inl rfl
    · subst z; exact Or.inr (Or.inl rfl)
    · subst z; exact Or.inr (Or.inr rfl)
  · rw [if_neg z] at h1; exact h1
theorem in_2 {q : Nat → Int32} (h : in_ok q) (e : q 0 = 1 ∨ q 0 = 2 ∨ q 0 = 3 ∨ q 0 = 4 ∨ q 0 = 5) : ∃ a, a < 4 ∧ q 2 = nI a := by
  obtain ⟨o, ho, h0, -, h2, -⟩ := h
  rw [h0] at e
  have := (by decide +kernel : ∀ k, k < 13 → (nI k = 1 ∨ nI k = 2 ∨ nI k = 3 ∨ nI k = 4 ∨ nI k = 5) → 1 ≤ k ∧ k ≤ 5) o ho e
  rw [if_pos this] at h2; exact h2
theorem in_3 {q : Nat → Int32} (h : in_ok q) (e : q 0 = 2 ∨ q 0 = 3 ∨ q 0 = 4 ∨ q 0 = 5) : ∃ a, a < 4 ∧ q 3 = nI a := by
  obtain ⟨o, ho, h0, -, -, h3⟩ := h
  rw [h0] at e
  have := (by decide +kernel : ∀ k, k < 13 → (nI k = 2 ∨ nI k = 3 ∨ nI k = 4 ∨ nI k = 5) → 2 ≤ k ∧ k ≤ 5) o ho e
  rw [if_pos this] at h3; exact h3
def mcl (m : mx_T) (d : Nat) (g : wm_Sg) : Prop := g 183 2 = nI m.2.1 ∧ g 183 3 = nI d ∧ g 183 5 = nI m.2.2.2 ∧ (∀ v, v < 4 → g 184 v = m.1 v) ∧ ∀ j, j < 40 → j < m.2.1 → g 185 j = m.2.2.1 j
def mcf (g g' : wm_Sg) : Prop := ∀ a, ¬ (183 ≤ a ∧ a ≤ 185) → g' a = g a
theorem mcl_up {m : mx_T} {d : Nat} {g : wm_Sg} (h : mcl m d g) (a : Nat) (x : Int32) : mcf g (wm_u g 184 a x) ∧ mcl (mx_up m.1 a x, m.2) d (wm_u g 184 a x) := by
  obtain ⟨h1, h2, h3, h4, h5⟩ := h
  refine ⟨fun b hb => wm_u_ne _ _ _ (by omega), ?_, ?_, ?_, fun v hv => ?_, fun j hj hk => ?_⟩
  · rw [wm_u_ne _ _ _ (by decide)]; exact h1
  · rw [wm_u_ne _ _ _ (by decide)]; exact h2
  · rw [wm_u_ne _ _ _ (by decide)]; exact h3
  · rw [wm_u_app]
    show _ = mx_up m.1 a x v
    unfold mx_up
    by_cases e : v = a
    · rw [if_pos ⟨rfl, e⟩, if_pos e]
    · rw [if_neg (fun q => e q.2), if_neg e]; exact h4 v hv
  · rw [wm_u_ne _ _ _ (by decide)]; exact h5 j hj hk
theorem pf_Ma_print {m : mx_T} {d : Nat} {g : wm_Sg} (h : mcl m d g) (hk : m.2.1 ≤ 2000) (x : Int32) : ∃ g', mf_Ma_print 183 x g = some g' ∧ mcf g g' ∧ mcl (m.1, m.2.1 + 1, mx_up m.2.2.1 m.2.1 x, m.2.2.2) d g' := by
  obtain ⟨-, -, -, -, -, -, k1, k2, k3, k4⟩ := ff_k
  obtain ⟨h1, h2, h3, h4, h5⟩ := h
  unfold mf_Ma_print mf_Ma_print_19
  by_cases e : m.2.1 < 40
  · rw [if_neg (show ¬ (40 : Int32) ≤ g 183 2 by rw [h1]; exact n_nle (a := 40) (by decide) (by omega) e), if_neg (show ¬ (g 183 2 < 0 ∨ sh_n (sh_r 183 1) ≤ (g 183 2).toNatClampNeg) by rw [h1, k3, k4]; exact nI_in e (by decide)), k3, h1, nI_clamp (by omega)]
    refine ⟨_, rfl, fun b hb => by rw [wm_u_ne _ _ _ (by omega), wm_u_ne _ _ _ (by omega)], ?_, ?_, ?_, fun v hv => ?_, fun j hj hk => ?_⟩
    · rw [wm_u_app, if_pos ⟨rfl, rfl⟩, wm_u_ne _ _ _ (by decide), h1, nI_1]
    · rw [wm_u_app, if_neg (by decide), wm_u_ne _ _ _ (by decide)]; exact h2
    · rw [wm_u_app, if_neg (by decide), wm_u_ne _ _ _ (by decide)]; exact h3
    · rw [wm_u_ne _ _ _ (by decide), wm_u_ne _ _ _ (by decide)]; exact h4 v hv
    · rw [wm_u_ne _ _ _ (by decide), wm_u_app]
      have hk : j < m.2.1 + 1 := hk
      show _ = mx_up m.2.2.1 m.2.1 x j
      unfold mx_up
      by_cases z : j = m.2.1
      · rw [if_pos ⟨rfl, z⟩, if_pos z]
      · rw [if_neg (fun q => z q.2), if_neg z]; exact h5 j hj (by omega)
  · rw [if_pos (show (40 : Int32) ≤ g 183 2 by rw [h1]; exact n_le (a := 40) (by decide) (by omega) (by omega))]
    refine ⟨_, rfl, fun b hb => by rw [wm_u_ne _ _ _ (by omega)], ?_, ?_, ?_, fun v hv => ?_, fun j hj hk => ?_⟩
    · rw [wm_u_app, if_pos ⟨rfl, rfl⟩, h1, nI_1]
    · rw [wm_u_app, if_neg (by decide)]; exact h2
    · rw [wm_u_app, if_neg (by decide)]; exact h3
    · rw [wm_u_ne _ _ _ (by decide)]; exact h4 v hv
    · rw [wm_u_ne _ _ _ (by decide)]
      show _ = mx_up m.2.2.1 m.2.1 x j
      unfold mx_up
      rw [if_neg (by omega)]; exact h5 j hj (by omega)
theorem pf_Ip_numberOrZero {c : Nat} {f : Nat → Int32} {g : wm_Sg} (hc : c ≤ 16) (h : cl_inp c f g) {t : Nat} (ht : t ≤ 2000) : mf_Ip_numberOrZero 181 (nI t) g = some (if t < c then f t else 0, g) := by
  obtain ⟨-, -, -, -, k1, k2, -⟩ := ff_k
  unfold mf_Ip_numberOrZero mf_Ip_numberOrZero_18
  by_cases e : t < c
  · rw [if_neg (show ¬ g 181 1 ≤ nI t by rw [h.1]; exact n_nle (by omega) (by omega) e), if_pos e, k1, k2, if_neg (nI_in (show t < 16 by omega) (by decide)), nI_clamp (by omega), h.2 t e]
  · rw [if_pos (show g 181 1 ≤ nI t by rw [h.1]; exact n_le (by omega) (by omega) (by omega)), if_neg e]
theorem pf_Ma_change {i : Nat} {g : wm_Sg} {q : Nat → Int32} {c : Nat} {f : Nat → Int32} {m : mx_T} {d : Nat} (hq : ∀ j, j < 4 → g (4 + i) j = q j) (ok : in_ok q) (hc : c ≤ 16) (hf : cl_inp c f g) (h : mcl m d g) (mo : mx_ok m d) (hd : d ≤ 2000) : ∃ g', mf_Ma_change 183 (4 + i) 181 g = some g' ∧ mcf g g' ∧ mcl (mx_do q c f m) d g' := by
  obtain ⟨-, -, -, -, -, -, k1, k2, -⟩ := ff_k
  have q0 := hq 0 (by decide)
  have q1 := hq 1 (by decide)
  have q2 := hq 2 (by decide)
  have q3 := hq 3 (by decide)
  obtain ⟨h1, h2, h3, h4, h5⟩ := id h
  unfold mf_Ma_change mf_Ma_change_184 mx_do
  simp only [q0, q1, q2, q3, k1, k2, h3, pf_Ff_calculated, Option.bind_some, pf_Ip_numberOrZero hc hf (show m.2.2.2 ≤ 2000 from Nat.le_trans mo.2 hd)]
  by_cases c0 : q 0 = 0
  · obtain ⟨a, ha, ea⟩ := in_1 ok (by rw [c0]; decide)
    rw [if_pos c0, if_pos c0, if_neg (show ¬ (q 1 < 0 ∨ 4 ≤ (q 1).toNatClampNeg) by rw [ea]; exact st_in ha)]
    exact ⟨_, rfl, mcl_up h _ _⟩
  · rw [if_neg c0, if_neg c0]
    by_cases c1 : q 0 = 1
    · obtain ⟨a, ha, ea⟩ := in_1 ok (by rw [c1]; decide)
      obtain ⟨b, hb, eb⟩ := in_2 ok (Or.inl c1)
      rw [if_pos c1, if_pos c1, if_neg (show ¬ (q 2 < 0 ∨ 4 ≤ (q 2).toNatClampNeg) by rw [eb]; exact st_in hb), if_neg (show ¬ (q 1 < 0 ∨ 4 ≤ (q 1).toNatClampNeg) by rw [ea]; exact st_in ha), h4 (q 2).toNatClampNeg (by rw [eb, nI_clamp (by omega)]; exact hb)]
      exact ⟨_, rfl, mcl_up h _ _⟩
    · rw [if_neg c1, if_neg c1]
      by_cases c2 : q 0 = 2 ∨ q 0 = 3 ∨ q 0 = 4 ∨ q 0 = 5
      · obtain ⟨a, ha, ea⟩ := in_1 ok (by rcases c2 with z | z | z | z <;> (rw [z]; decide))
        obtain ⟨b, hb, eb⟩ := in_2 ok (Or.inr c2)
        obtain ⟨e, he, ee⟩ := in_3 ok c2
        have w1 : ¬ (q 1 < 0 ∨ 4 ≤ (q 1).toNatClampNeg) := by rw [ea]; exact st_in ha
        have w2 : ¬ (q 2 < 0 ∨ 4 ≤ (q 2).toNatClampNeg) := by rw [eb]; exact st_in hb
        have w3 : ¬ (q 3 < 0 ∨ 4 ≤ (q 3).toNatClampNeg) := by rw [ee]; exact st_in he
        have r2 := h4 (q 2).toNatClampNeg (by rw [eb, nI_clamp (by omega)]; exact hb)
        have r3 := h4 (q 3).toNatClampNeg (by rw [ee, nI_clamp (by omega)]; exact he)
        rw [if_pos c2, if_neg w1, if_neg w2, if_neg w3, r2, r3]
        have fin : ∃ g', some (wm_u g 184 (q 1).toNatClampNeg (fc_calc (q 0) (m.1 (q 2).toNatClampNeg) (m.1 (q 3).toNatClampNeg))) = some g' ∧ mcf g g' ∧ mcl (mx_up m.1 (q 1).toNatClampNeg (fc_calc (q 0) (m.1 (q 2).toNatClampNeg) (m.1 (q 3).toNatClampNeg)), m.2) d g' := ⟨_, rfl, mcl_up h _ _⟩
        by_cases d2 : q 0 = 2
        · rw [if_pos d2]; exact fin
        · rw [if_neg d2]
          by_cases d3 : q 0 = 3
          · rw [if_pos d3]; exact fin
          · rw [if_neg d3]
            by_cases d4 : q 0 = 4
            · rw [if_pos d4]; exact fin
            · rw [if_neg d4, if_pos (show q 0 = 5 by rcases c2 with z | z | z | z; exact absurd z d2; exact absurd z d3; exact absurd z d4; exact z)]; exact fin
      · rw [if_neg c2, if_neg (show ¬ q 0 = 2 from fun z => c2 (Or.inl z)), if_neg (show ¬ q 0 = 3 from fun z => c2 (Or.inr (Or.inl z))), if_neg (show ¬ q 0 = 4 from fun z => c2 (Or.inr (Or.inr (Or.inl z)))), if_neg (show ¬ q 0 = 5 from fun z => c2 (Or.inr (Or.inr (Or.inr z))))]
        by_cases c6 : q 0 = 6
        · obtain ⟨a, ha, ea⟩ := in_1 ok (by rw [c6]; decide)
          rw [if_pos c6, if_pos c6, if_neg (show ¬ (q 1 < 0 ∨ 4 ≤ (q 1).toNatClampNeg) by rw [ea]; exact st_in ha)]
          obtain ⟨u1, u2⟩ := mcl_up h (q 1).toNatClampNeg (if m.2.2.2 < c then f m.2.2.2 else 0)
          obtain ⟨v1, v2, v3, v4, v5⟩ := u2
          refine ⟨_, rfl, fun b hb => by rw [wm_u_ne _ _ _ (by omega)]; exact u1 b hb, ?_, ?_, ?_, fun v hv => ?_, fun j hj hk => ?_⟩
          · rw [wm_u_app, if_neg (by decide)]; exact v1
          · rw [wm_u_app, if_neg (by decide)]; exact v2
          · rw [wm_u_app, if_pos ⟨rfl, rfl⟩, v3, nI_1]
          · rw [wm_u_ne _ _ _ (by decide)]; exact v4 v hv
          · rw [wm_u_ne _ _ _ (by decide)]; exact v5 j hj hk
        · rw [if_neg c6, if_neg c6]
          have stay : ∃ g', some g = some g' ∧ mcf g g' ∧ mcl m d g' := ⟨g, rfl, fun _ _ => rfl, h⟩
          by_cases c10 : q 0 = 10
          · obtain ⟨a, ha, ea⟩ := in_1 ok (by rw [c10]; decide)
            rw [if_neg (show ¬ q 0 = 7 by rw [c10]; decide), if_neg (show ¬ q 0 = 8 by rw [c10]; decide), if_neg (show ¬ q 0 = 9 by rw [c10]; decide), if_pos c10, if_pos c10, if_neg (show ¬ (q 1 < 0 ∨ 4 ≤ (q 1).toNatClampNeg) by rw [ea]; exact st_in ha), h4 (q 1).toNatClampNeg (by rw [ea, nI_clamp (by omega)]; exact ha)]
            obtain ⟨g1, e1, f1, r1⟩ := pf_Ma_print h (Nat.le_trans mo.1 hd) (m.1 (q 1).toNatClampNeg)
            rw [e1, Option.bind_some]
            exact ⟨g1, rfl, f1, r1⟩
          · rw [if_neg c10, if_neg c10]
            by_cases d7 : q 0 = 7
            · rw [if_pos d7]; exact stay
            · rw [if_neg d7]
              by_cases d8 : q 0 = 8
              · rw [if_pos d8]; exact stay
              · rw [if_neg d8]
                by_cases d9 : q 0 = 9
                · rw [if_pos d9]; exact stay
                · rw [if_neg d9]; exact stay
/-- what an instruction does leaves the variable that a jump asks for -/
theorem mx_do_j {q : Nat → Int32} (c : Nat) (f : Nat → Int32) (m : mx_T) (e : q 0 = 7 ∨ q 0 = 8) : mx_do q c f m = m := by
  unfold mx_do
  rcases e with e | e
  · rw [e]; simp only [show ¬ ((7 : Int32) = 0) by decide, show ¬ ((7 : Int32) = 1) by decide, show ¬ ((7 : Int32) = 2 ∨ (7 : Int32) = 3 ∨ (7 : Int32) = 4 ∨ (7 : Int32) = 5) by decide, show ¬ ((7 : Int32) = 6) by decide, show ¬ ((7 : Int32) = 10) by decide, if_false]
  · rw [e]; simp only [show ¬ ((8 : Int32) = 0) by decide, show ¬ ((8 : Int32) = 1) by decide, show ¬ ((8 : Int32) = 2 ∨ (8 : Int32) = 3 ∨ (8 : Int32) = 4 ∨ (8 : Int32) = 5) by decide, show ¬ ((8 : Int32) = 6) by decide, show ¬ ((8 : Int32) = 10) by decide, if_false]
theorem pf_Ma_placeBehind {i t : Nat} {g : wm_Sg} {q : Nat → Int32} {c : Nat} {f : Nat → Int32} {m : mx_T} {d : Nat} (hq : ∀ j, j < 4 → g (4 + i) j = q j) (ok : in_ok q) (h : mcl (mx_do q c f m) d g) : mf_Ma_placeBehind 183 (4 + i) (nI t) g = some (nI (mx_next q t m), g) := by
  obtain ⟨-, -, -, -, -, -, k1, k2, -⟩ := ff_k
  have q0 := hq 0 (by decide)
  have q1 := hq 1 (by decide)
  have q3 := hq 3 (by decide)
  unfold mf_Ma_placeBehind mf_Ma_placeBehind_62 mf_Ma_placeBehind_85 mx_next
  simp only [q0, q1, q3, k1, k2, nI_1]
  have k : (q 0 = 7 ∨ q 0 = 8 ∨ q 0 = 9) → nI (q 3).toNatClampNeg = q 3 := fun z => by
    obtain ⟨x, hx, e⟩ := in_t ok z
    rw [e, nI_clamp (by omega)]
  by_cases c7 : q 0 = 7
  · obtain ⟨a, ha, ea⟩ := in_a' ok (Or.inl c7)
    rw [mx_do_j c f m (Or.inl c7)] at h
    rw [if_pos c7, if_pos c7, if_neg (show ¬ (q 1 < 0 ∨ 4 ≤ (q 1).toNatClampNeg) by rw [ea]; exact st_in ha), h.2.2.2.1 (q 1).toNatClampNeg (by rw [ea, nI_clamp (by omega)]; exact ha)]
    by_cases z : m.1 (q 1).toNatClampNeg = 0
    · rw [if_pos z, if_pos z, k (Or.inl c7)]
    · rw [if_neg z, if_neg z]
  · rw [if_neg c7, if_neg c7]
    by_cases c8 : q 0 = 8
    · obtain ⟨a, ha, ea⟩ := in_a' ok (Or.inr c8)
      rw [mx_do_j c f m (Or.inr c8)] at h
      rw [if_pos c8, if_pos c8, if_neg (show ¬ (q 1 < 0 ∨ 4 ≤ (q 1).toNatClampNeg) by rw [ea]; exact st_in ha), h.2.2.2.1 (q 1).toNatClampNeg (by rw [ea, nI_clamp (by omega)]; exact ha)]
      by_cases z : (0 : Int32) ≤ m.1 (q 1).toNatClampNeg
      · rw [if_pos z, if_pos z]
      · rw [if_neg z, if_neg z, k (Or.inr (Or.inl c8))]
    · rw [if_neg c8, if_neg c8]
      by_cases c9 : q 0 = 9
      · rw [if_pos c9, if_pos c9, k (Or.inr (Or.inr c9))]
      · rw [if_neg c9, if_neg c9]
        by_cases c11 : q 0 = 11
        · rw [if_pos c11, if_neg (show ¬ q 0 = 10 by rw [c11]; decide), if_pos c11]; rfl
        · rw [if_neg c11, if_neg c11]
          by_cases c10 : q 0 = 10
          · rw [if_pos c10]
          · rw [if_neg c10]
theorem mbg_loop : ∀ (k v : Nat), v + k = 4 → ∀ (f : Nat) (g : wm_Sg), (∀ u, u < v → g 184 u = 0) → ∃ g', lp_it (mf_Ma_begin_2 183) (f + k + 1) (nI v, g) = some (wm_u (wm_u (wm_u g' 183 2 0) 183 3 0) 183 5 0) ∧ (∀ a, a ≠ 184 → g' a = g a) ∧ ∀ u, u < 4 → g' 184 u = 0
  | 0, v, h, f, g, hz => by
    have e : v = 4 := by omega
    subst e
    show ∃ g', mf_Ma_begin_2 183 (lp_it _ (f + 0)) _ = _ ∧ _
    generalize lp_it (mf_Ma_begin_2 183) (f + 0) = Kf
    unfold mf_Ma_begin_2
    dsimp only
    rw [if_pos (show (4 : Int32) ≤ nI 4 by decide)]
    exact ⟨g, rfl, fun _ _ => rfl, hz⟩
  | k + 1, v, h, f, g, hz => by
    obtain ⟨-, -, -, -, -, -, k1, k2, -⟩ := ff_k
    have hv : v < 4 := by omega
    obtain ⟨g', e1, e2, e3⟩ := mbg_loop k (v + 1) (by omega) f (wm_u g 184 v 0) (fun u hu => by
      rw [wm_u_app]
      by_cases z : u = v
      · rw [if_pos ⟨rfl, z⟩]
      · rw [if_neg (fun q => z q.2)]; exact hz u (by omega))
    refine ⟨g', ?_, fun a ha => by rw [e2 a ha, wm_u_ne _ _ _ ha], e3⟩
    show mf_Ma_begin_2 183 (lp_it _ (f + k + 1)) _ = _
    generalize lp_it (mf_Ma_begin_2 183) (f + k + 1) = Kf at e1 ⊢
    unfold mf_Ma_begin_2
    dsimp only
    rw [if_neg (n_nle4 hv), k1, k2, if_neg (st_in hv), nI_clamp (by omega), nI_1]
    exact e1
def mx_0 : mx_T := (fun _ => 0, 0, fun _ => 0, 0)
theorem pf_Ma_begin (g : wm_Sg) : ∃ g', mf_Ma_begin 183 g = some g' ∧ mcf g g' ∧ mcl mx_0 0 g' := by
  obtain ⟨g', e1, e2, e3⟩ := mbg_loop 4 0 rfl 2095 g (fun u hu => absurd hu (by omega))
  refine ⟨_, e1, fun a ha => by rw [wm_u_ne _ _ _ (by omega), wm_u_ne _ _ _ (by omega), wm_u_ne _ _ _ (by omega)]; exact e2 a (by omega), ?_, ?_, ?_, fun v hv => ?_, fun j _ hk => absurd hk (by show ¬ j < 0; omega)⟩
  · simp only [wm_u_app]; rfl
  · simp only [wm_u_app]; rfl
  · simp only [wm_u_app]; rfl
  · rw [wm_u_ne _ _ _ (by decide), wm_u_ne _ _ _ (by decide), wm_u_ne _ _ _ (by decide)]; exact e3 v hv
theorem ex_93 {n t : Nat} (hn : n ≤ 24) (ht : t ≤ 24) {m : mx_T} {d : Nat} {g : wm_Sg} (hp : g 1 1 = nI n) (h : mcl m d g) : ∃ g', mf_Ma_execute_93 183 1 (nI t) g = some (if t < n then 0 else 1, g') ∧ mcf g g' ∧ g' 183 4 = (if t < n then nI t else -1) ∧ mcl m d g' := by
  have key : ∀ x : Int32, mcf g (wm_u g 183 4 x) ∧ wm_u g 183 4 x 183 4 = x ∧ mcl m d (wm_u g 183 4 x) := by
    intro x
    obtain ⟨h1, h2, h3, h4, h5⟩ := h
    refine ⟨fun a ha => wm_u_ne _ _ _ (by omega), by rw [wm_u_app, if_pos ⟨rfl, rfl⟩], ?_, ?_, ?_, fun v hv => ?_, fun j hj hk => ?_⟩
    · rw [wm_u_app, if_neg (by decide)]; exact h1
    · rw [wm_u_app, if_neg (by decide)]; exact h2
    · rw [wm_u_app, if_neg (by decide)]; exact h3
    · rw [wm_u_ne _ _ _ (by decide)]; exact h4 v hv
    · rw [wm_u_ne _ _ _ (by decide)]; exact h5 j hj hk
  have hp' : ∀ x : Int32, wm_u g 183 4 x 1 1 = nI n := fun x => by rw [wm_u_ne _ _ _ (by decide)]; exact hp
  unfold mf_Ma_execute_93 mf_Ma_execute_109 mf_Ma_execute_126
  rw [pf_Pr_has' (nI t) hp, Option.bind_some, hs_n hn ht]
  dsimp only
  rw [pf_Pr_has' (nI t) (hp' _), pf_Pr_has' (nI t) (hp' _), Option.bind_some, Option.bind_some, hs_n hn ht]
  by_cases e : t < n
  · rw [decide_eq_true e, if_neg (show ¬ b_i true = 0 by decide), if_pos e, if_pos e]
    exact ⟨_, rfl, key _⟩
  · rw [decide_eq_false e, if_pos (show b_i false = 0 from rfl), if_neg e, if_neg e]
    exact ⟨_, rfl, key _⟩
theorem ex_loop {n : Nat} {p : Nat → Nat → Int32} {c : Nat} {fi : Nat → Int32} {N : Nat} (hn : n ≤ 24) (ok : ∀ i, i < n → in_ok (p i)) (hc : c ≤ 16) (hN : N ≤ 2000) : ∀ (r d t : Nat) (m : mx_T), t ≤ 24 → d + r = N → mx_ok m d → ∀ (f : Nat) (g : wm_Sg), pr_R n p g → cl_inp c fi g → mcl m d g → ∃ g', lp_it (mf_Ma_execute_7 183 1 181 (nI N)) (f + r + 1) (nI t, g) = some ((mx_go n p c fi r d t m).1, g') ∧ mcf g g' ∧ g' 183 4 = (mx_go n p c fi r d t m).2.2.1 ∧ mcl (mx_go n p c fi r d t m).2.2.2 (mx_go n p c fi r d t m).2.1 g'
  | 0, d, t, m, ht, hd, mo, f, g, hp, hi, hm => by
    obtain ⟨g1, e1, e2, e3, e4⟩ := ex_93 hn ht hp.1 hm
    show ∃ g', mf_Ma_execute_7 183 1 181 (nI N) (lp_it _ (f + 0)) _ = _ ∧ _
    generalize lp_it (mf_Ma_execute_7 183 1 181 (nI N)) (f + 0) = Kf
    unfold mf_Ma_execute_7
    dsimp only
    rw [if_pos (show nI N ≤ g 183 3 by rw [hm.2.1]; exact n_le (by omega) (by omega) (by omega)), e1]
    unfold mx_go
    by_cases z : t < n
    · rw [if_pos z] at e3
      rw [if_pos z, if_pos z]; exact ⟨g1, rfl, e2, e3, e4⟩
    · rw [if_neg z] at e3
      rw [if_neg z, if_neg z]; exact ⟨g1, rfl, e2, e3, e4⟩
  | r + 1, d, t, m, ht, hd, mo, f, g, hp, hi, hm => by
    obtain ⟨-, -, -, -, -, -, k1, k2, -⟩ := ff_k
    have nN : ¬ nI N ≤ g 183 3 := by rw [hm.2.1]; exact n_nle (by omega) (by omega) (by omega)
    by_cases z : t < n
    · have t24 : t < 24 := by omega
      -- the step is counted
      have hm1 : mcf g (wm_u g 183 3 (g 183 3 + 1)) ∧ mcl m (d + 1) (wm_u g 183 3 (g 183 3 + 1)) := by
        obtain ⟨h1, h2, h3, h4, h5⟩ := hm
        refine ⟨fun a ha => wm_u_ne _ _ _ (by omega), ?_, ?_, ?_, fun v hv => ?_, fun j hj hk => ?_⟩
        · rw [wm_u_app, if_neg (by decide)]; exact h1
        · rw [wm_u_app, if_pos ⟨rfl, rfl⟩, h2, nI_1]
        · rw [wm_u_app, if_neg (by decide)]; exact h3
        · rw [wm_u_ne _ _ _ (by decide)]; exact h4 v hv
        · rw [wm_u_ne _ _ _ (by decide)]; exact h5 j hj hk
      have hq : ∀ j, j < 4 → wm_u g 183 3 (g 183 3 + 1) (4 + t) j = p t j := fun j hj => by rw [wm_u_ne _ _ _ (by omega)]; exact hp.2 t z j hj
      have hi1 : cl_inp c fi (wm_u g 183 3 (g 183 3 + 1)) := ⟨by rw [wm_u_ne _ _ _ (by decide)]; exact hi.1, fun j hj => by rw [wm_u_ne _ _ _ (by decide)]; exact hi.2 j hj⟩
      have hp1 : pr_R n p (wm_u g 183 3 (g 183 3 + 1)) := ⟨by rw [wm_u_ne _ _ _ (by decide)]; exact hp.1, fun i hi j hj => by rw [wm_u_ne _ _ _ (by omega)]; exact hp.2 i hi j hj⟩
      show ∃ g', mf_Ma_execute_7 183 1 181 (nI N) (lp_it _ (f + r + 1)) _ = _ ∧ _
      have ih := ex_loop (fi := fi) (N := N) hn ok hc hN r (d + 1) (mx_next (p t) t m) (mx_do (p t) c fi m) (mx_next_le (ok t z) t24 m) (by omega) (mx_do_ok mo _ _ _) f
      generalize lp_it (mf_Ma_execute_7 183 1 181 (nI N)) (f + r + 1) = Kf at ih ⊢
      unfold mf_Ma_execute_7
      dsimp only
      rw [if_neg nN, pf_Pr_has' (nI t) hp.1, Option.bind_some, hs_n hn ht, decide_eq_true z]
      dsimp only
      generalize wm_u g 183 3 (g 183 3 + 1) = g1 at hm1 hq hi1 hp1 ⊢
      obtain ⟨f1, hm1⟩ := hm1
      rw [if_neg (show ¬ b_i true = 0 by decide), so_k.2.2.2.2.2.1, so_k.2.2.2.2.2.2.1, if_neg (in24 t24), nI_clamp (by omega), so_i, k1, k2]
      have w73 : (¬ (p t 0 = 5 ∧ m.1 (p t 3).toNatClampNeg = 0)) → ∃ g', mf_Ma_execute_73 Kf 183 1 181 (nI N) (nI t) (4 + t) g1 = some ((mx_go n p c fi (r + 1) d t m).1, g') ∧ mcf g g' ∧ g' 183 4 = (mx_go n p c fi (r + 1) d t m).2.2.1 ∧ mcl (mx_go n p c fi (r + 1) d t m).2.2.2 (mx_go n p c fi (r + 1) d t m).2.1 g' := by
        intro nf
        have eg : mx_go n p c fi (r + 1) d t m = mx_go n p c fi r (d + 1) (mx_next (p t) t m) (mx_do (p t) c fi m) := by
          show (if t < n then _ else _) = _
          rw [if_pos z, if_neg nf]
        rw [eg]
        obtain ⟨g2, a1, a2, a3⟩ := pf_Ma_change hq (ok t z) hc hi1 hm1 ⟨by have := mo.1; omega, by have := mo.2; omega⟩ (show d + 1 ≤ 2000 by omega)
        have hq2 : ∀ j, j < 4 → g2 (4 + t) j = p t j := fun j hj => by rw [a2 _ (by omega)]; exact hq j hj
        obtain ⟨g3, b1, b2, b3, b4⟩ := ih g2 ⟨by rw [a2 1 (by omega)]; exact hp1.1, fun i hi j hj => by rw [a2 _ (by omega)]; exact hp1.2 i hi j hj⟩ ⟨by rw [a2 181 (by omega)]; exact hi1.1, fun j hj => by rw [a2 182 (by omega)]; exact hi1.2 j hj⟩ a3
        unfold mf_Ma_execute_73
        rw [a1, Option.bind_some, pf_Ma_placeBehind hq2 (ok t z) a3, Option.bind_some]
        exact ⟨g3, b1, fun a ha => by rw [b2 a ha, a2 a ha, f1 a ha], b3, b4⟩
      have q0 := hq 0 (by decide)
      have q3 := hq 3 (by decide)
      by_cases c5 : p t 0 = 5
      · obtain ⟨b, hb, eb⟩ := in_3 (ok t z) (Or.inr (Or.inr (Or.inr c5)))
        rw [if_pos (show g1 (4 + t) 0 = 5 by rw [q0]; exact c5), if_neg (show ¬ (g1 (4 + t) 3 < 0 ∨ 4 ≤ (g1 (4 + t) 3).toNatClampNeg) by rw [q3, eb]; exact st_in hb)]
        have er : g1 184 (g1 (4 + t) 3).toNatClampNeg = m.1 (p t 3).toNatClampNeg := by rw [q3]; exact hm1.2.2.2.1 _ (by rw [eb, nI_clamp (by omega)]; exact hb)
        by_cases zz : m.1 (p t 3).toNatClampNeg = 0
        · rw [if_pos (er.trans zz)]
          have eg : mx_go n p c fi (r + 1) d t m = (2, d + 1, nI t, m) := by
            show (if t < n then _ else _) = _
            rw [if_pos z, if_pos ⟨c5, zz⟩]
          rw [eg]
          obtain ⟨h1, h2, h3, h4, h5⟩ := hm1
          refine ⟨_, rfl, fun a ha => by rw [wm_u_ne _ _ _ (by omega)]; exact f1 a ha, by rw [wm_u_app, if_pos ⟨rfl, rfl⟩], ?_, ?_, ?_, fun v hv => ?_, fun j hj hk => ?_⟩
          · rw [wm_u_app, if_neg (by decide)]; exact h1
          · rw [wm_u_app, if_neg (by decide)]; exact h2
          · rw [wm_u_app, if_neg (by decide)]; exact h3
          · rw [wm_u_ne _ _ _ (by decide)]; exact h4 v hv
          · rw [wm_u_ne _ _ _ (by decide)]; exact h5 j hj hk
        · rw [if_neg (fun q => zz (er.symm.trans q))]
          exact w73 (fun q => zz q.2)
      · rw [if_neg (show ¬ g1 (4 + t) 0 = 5 by rw [q0]; exact c5)]
        exact w73 (fun q => c5 q.1)
    · obtain ⟨g1, e1, e2, e3, e4⟩ := ex_93 hn ht hp.1 hm
      show ∃ g', mf_Ma_execute_7 183 1 181 (nI N) (lp_it _ (f + r + 1)) _ = _ ∧ _
      generalize lp_it (mf_Ma_execute_7 183 1 181 (nI N)) (f + r + 1) = Kf
      unfold mf_Ma_execute_7
      dsimp only
      rw [if_neg nN, pf_Pr_has' (nI t) hp.1, Option.bind_some, hs_n hn ht, decide_eq_false z]
      dsimp only
      rw [if_pos (show b_i false = 0 from rfl), e1, mx_out p c fi (r + 1) d m z]
      rw [if_neg z] at e3
      rw [if_neg z]
      exact ⟨g1, rfl, e2, e3, e4⟩
def ab_go (A : ab_T) (N : Nat) : Int32 × Nat × Int32 × mx_T := mx_go A.1.1 A.1.2 A.2.1.1 A.2.1.2 N 0 0 mx_0
def ab_run (A : ab_T) (x : Int32) : Int32 × ab_T := if x < 0 ∨ ¬ x ≤ 2000 then (-1, A) else ((ab_go A x.toNatClampNeg).1, (A.1, A.2.1, ((ab_go A x.toNatClampNeg).2.2.2.2.1, nI (ab_go A x.toNatClampNeg).2.1, (ab_go A x.toNatClampNeg).2.2.1, (ab_go A x.toNatClampNeg).2.2.2.1, (ab_go A x.toNatClampNeg).2.2.2.2.2.1)))
theorem mx_go_ok (n : Nat) (p : Nat → Nat → Int32) (c : Nat) (f : Nat → Int32) : ∀ (r d t : Nat) (m : mx_T), mx_ok m d → mx_ok (mx_go n p c f r d t m).2.2.2 (mx_go n p c f r d t m).2.1 ∧ (mx_go n p c f r d t m).2.1 ≤ d + r
  | 0, d, t, m, h => by
    unfold mx_go
    by_cases z : t < n
    · rw [if_pos z]; exact ⟨h, by show d ≤ _; omega⟩
    · rw [if_neg z]; exact ⟨h, by show d ≤ _; omega⟩
  | r + 1, d, t, m, h => by
    unfold mx_go
    by_cases z : t < n
    · rw [if_pos z]
      by_cases q : p t 0 = 5 ∧ m.1 (p t 3).toNatClampNeg = 0
      · rw [if_pos q]; exact ⟨⟨by have := h.1; show m.2.1 ≤ d + 1; omega, by have := h.2; show m.2.2.2 ≤ d + 1; omega⟩, by show d + 1 ≤ _; omega⟩
      · rw [if_neg q]
        have := mx_go_ok n p c f r (d + 1) (mx_next (p t) t m) _ (mx_do_ok h (p t) c f)
        exact ⟨this.1, by have := this.2; omega⟩
    · rw [if_neg z]; exact ⟨h, by show d ≤ _; omega⟩
theorem ru_x (x : Int32) : (x < 0 ∨ ¬ x ≤ 2000) ∨ (¬ x < 0 ∧ x ≤ 2000 ∧ ∃ N, N ≤ 2000 ∧ x = nI N) := by
  by_cases h1 : x < 0
  · exact Or.inl (Or.inl h1)
  · by_cases h2 : x ≤ 2000
    · refine Or.inr ⟨h1, h2, ?_⟩
      rcases pk_ix x (show 2001 < 2 ^ 31 by decide) with z | z | ⟨i, hi, z⟩
      · exact absurd z h1
      · exfalso
        have := Int32.le_trans z h2
        exact absurd this (by decide)
      · exact ⟨i, by omega, z⟩
    · exact Or.inl (Or.inr h2)
theorem ab_run_ok {A : ab_T} (ok : ab_ok A) (x : Int32) : ab_ok (ab_run A x).2 := by
  unfold ab_run
  rcases ru_x x with z | ⟨z1, z2, N, hN, rfl⟩
  · rw [if_pos z]; exact ok
  · rw [if_neg (by rintro (q | q); exact z1 q; exact q z2)]
    refine ⟨ok.1, ok.2.1, ok.2.2.1, ?_⟩
    have := mx_go_ok A.1.1 A.1.2 A.2.1.1 A.2.1.2 N 0 0 mx_0 ⟨Nat.le_refl 0, Nat.le_refl 0⟩
    show (ab_go A (nI N).toNatClampNeg).2.2.2.2.1 ≤ 2000
    rw [nI_clamp (by omega)]
    have h1 : (ab_go A N).2.2.2.2.1 ≤ (ab_go A N).2.1 := this.1.1
    have h2 : (ab_go A N).2.1 ≤ 0 + N := this.2
    omega
theorem cl_run {A : ab_T} (ok : ab_ok A) {g : wm_Sg} (h : cl_R A g) (x : Int32) : ∃ g', mf_Ff_run 0 x g = some ((ab_run A x).1, g') ∧ cl_fr g g' ∧ cl_R (ab_run A x).2 g' := by
  obtain ⟨k1, k2, k3, k4, -⟩ := ff_k
  unfold mf_Ff_run mf_Ff_run_11 ab_run
  rcases ru_x x with z | ⟨z1, z2, N, hN, rfl⟩
  · rw [if_pos z]
    rcases z with z | z
    · rw [if_pos z]; exact ⟨g, rfl, fun _ _ => rfl, h⟩
    · by_cases q : x < 0
      · rw [if_pos q]; exact ⟨g, rfl, fun _ _ => rfl, h⟩
      · rw [if_neg q, if_neg z]; exact ⟨g, rfl, fun _ _ => rfl, h⟩
  · rw [if_neg z1, if_pos z2, if_neg (by rintro (q | q); exact z1 q; exact q z2), k4, k1, k3]
    obtain ⟨h1, h2, h3, h4⟩ := h
    obtain ⟨g1, a1, a2, a3⟩ := pf_Ma_begin g
    obtain ⟨g2, b1, b2, b3, b4⟩ := ex_loop (fi := A.2.1.2) ok.1 ok.2.1 ok.2.2.1 hN N 0 0 mx_0 (by omega) (by omega) ⟨Nat.le_refl 0, Nat.le_refl 0⟩ (2099 - N) g1 ⟨by rw [a2 1 (by omega)]; exact h1.1, fun i hi j hj => by rw [a2 _ (by have := ok.1; omega)]; exact h1.2 i hi j hj⟩ ⟨by rw [a2 181 (by omega)]; exact h3.1, fun j hj => by rw [a2 182 (by omega)]; exact h3.2 j hj⟩ a3
    rw [show 2099 - N + N + 1 = 2100 by omega] at b1
    have fr : ∀ a, ¬ (183 ≤ a ∧ a ≤ 185) → g2 a = g a := fun a ha => (b2 a ha).trans (a2 a ha)
    unfold mf_Ma_execute
    rw [a1, Option.bind_some]
    have b1' : lp_it (mf_Ma_execute_7 183 1 181 (nI N)) 2100 (0, g1) = some ((ab_go A N).1, g2) := b1
    rw [b1', Option.bind_some, nI_clamp (by omega)]
    obtain ⟨m1, m2, m3, m4, m5⟩ := b4
    exact ⟨g2, rfl, fun a ha => fr a (by omega), ⟨by rw [fr 1 (by omega)]; exact h1.1, fun i hi j hj => by rw [fr _ (by have : i < A.1.1 := hi; have := ok.1; omega)]; exact h1.2 i hi j hj⟩, cl_sol_c ok.1 (by rw [fr 28 (by omega)]) (fr 30 (by omega)) (fun a _ _ => fr a (by omega)) h2, ⟨by rw [fr 181 (by omega)]; exact h3.1, fun j hj => by rw [fr 182 (by omega)]; exact h3.2 j hj⟩, m1, m2, b3, m4, m5⟩
