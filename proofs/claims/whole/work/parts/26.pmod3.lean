/-! the reference: an instruction's work, a pass, the solution -/
def mp_R (n : Nat) (p : Nat → Nat → Int32) (g : wm_Sg) : Prop := g 186 0 = nI n ∧ ∀ i, i < n → g 187 i = p i 0 ∧ g 188 i = p i 1 ∧ g 189 i = p i 2 ∧ g 190 i = p i 3
theorem mp_R_f2 {n : Nat} {p : Nat → Nat → Int32} {g g' : wm_Sg} (h : mp_R n p g) (f : mo_f2 g g') : mp_R n p g' := ⟨by rw [f.2 0 (by decide) (by decide) (by decide) (by decide)]; exact h.1, fun i hi => by
  rw [f.1 187 (by decide) (by omega), f.1 188 (by decide) (by omega), f.1 189 (by decide) (by omega), f.1 190 (by decide) (by omega)]; exact h.2 i hi⟩
theorem mb_c {j o n v : Nat} (e : sh_n o = n) (h : v < n) (hn : n < 2 ^ 31) : ¬ (nI v < 0 ∨ sh_n o ≤ v) := fun z => by
  rcases z with z | z
  · exact nI_pos (n := v) (by omega) z
  · omega
theorem kf_R_take {g : wm_Sg} {f : sv_F} {a : Nat} (hf : kf_R g f) (x : ft_T) : kf_R (kf_set (nw_set g x) a x) (sv_up f a x) := fun w hw => by
  rw [kf_set_at, kf_nw]
  unfold sv_up
  by_cases e : w = a
  · rw [if_pos e, if_pos e]
  · rw [if_neg e, if_neg e]; exact hf w hw
theorem pf_Mo_worked {n i : Nat} {p : Nat → Nat → Int32} {g : wm_Sg} {f : sv_F} (hn : n ≤ 24) (hi : i < n) (hp : mp_R n p g) (ok : in_ok (p i)) (hf : kf_R g f) (fok : sv_fok f) : ∃ g', mf_Mo_worked 186 (nI i) g = some (b_i (sv_thru (p i) f).isSome, g') ∧ mo_f1 g g' ∧ ∀ c, sv_thru (p i) f = some c → kf_R g' c := by
  have i24 : i < 24 := by omega
  obtain ⟨p0, p1, p2, p3⟩ := hp.2 i hi
  have ci : (nI i).toNatClampNeg = i := nI_clamp (by omega)
  obtain ⟨o, ho, h0, h1, h2, h3⟩ := ok
  have oeq : ∀ k : Nat, k < 13 → (p i 0 = nI k ↔ o = k) := fun k hk => by rw [h0]; exact nI_eq (by omega) (by omega)
  have b3 := mb_3 i24
  have b4 := mb_4 i24
  rw [mr_3, ci] at b3
  rw [mr_4, ci] at b4
  have ind : ∀ {x : Int32} {a : Nat}, a < 4 → x = nI a → x.toNatClampNeg = a := fun {x} {a} ha e => by rw [e, nI_clamp (by omega)]
  have tk : ∀ (a : Nat) (x : ft_T) (g1 : wm_Sg) (f1 : sv_F), a < 4 → p i 1 = nI a → mo_f1 g g1 → kf_R g1 f1 → ∃ g', ((mf_Mo_take 186 (p i 1) (nw_set g1 x)).bind fun v => mf_Mo_worked_178 v) = some (b_i (some (sv_up f1 (p i 1).toNatClampNeg x)).isSome, g') ∧ mo_f1 g g' ∧ ∀ c, some (sv_up f1 (p i 1).toNatClampNeg x) = some c → kf_R g' c := by
    intro a x g1 f1 ha ea hg1 hf1
    rw [ind ha ea, ea, pf_Mo_take ha, Option.bind_some, nw_set_at]
    exact ⟨_, rfl, mo_f1_trans hg1 (mo_f1_trans (mo_f1_nw g1 x) (mo_f1_kf _ _ _)), fun c e => by cases e; exact kf_R_take hf1 x⟩
  unfold mf_Mo_worked
  rw [if_neg (mb_1 i24), if_neg (mb_2 i24), mr_1, mr_2, mr_3, mr_4, mr_11, mr_12, mr_13, ci]
  simp only [p0, p1, p2, p3]
  unfold sv_thru
  by_cases c0 : p i 0 = 0
  · rw [if_pos c0, if_pos c0, if_neg b4, if_neg b4, pf_Mo_sign, Option.bind_some]
    dsimp only
    rw [pf_Mo_result, Option.bind_some]
    have e : o = 0 := (oeq 0 (by decide)).mp c0
    subst e
    obtain ⟨a, ha, ea⟩ := h1
    exact tk a (ft_num (p i 3)) g f ha ea (mo_f1_refl g) hf
  · rw [if_neg c0, if_neg c0]
    by_cases c1 : p i 0 = 1
    · rw [if_pos c1, if_pos c1]
      have e : o = 1 := (oeq 1 (by decide)).mp c1
      subst e
      obtain ⟨a, ha, ea⟩ := h1
      obtain ⟨d, hd, ed⟩ := h2
      have cd := ind hd ed
      have nd : ∀ q, sh_n q = 4 → ¬ (p i 2 < 0 ∨ sh_n q ≤ (p i 2).toNatClampNeg) := fun q hq z => by
        rcases z with z | z
        · rw [ed] at z; exact nI_pos (n := d) (by omega) z
        · rw [cd] at z; omega
      rw [if_neg b3, if_neg (nd 195 (by decide +kernel)), if_neg b3, if_neg (nd 196 (by decide +kernel)), if_neg b3, if_neg (nd 197 (by decide +kernel)), pf_Mo_result, Option.bind_some]
      have e := hf d hd
      have : (g 195 (p i 2).toNatClampNeg, g 196 (p i 2).toNatClampNeg, g 197 (p i 2).toNatClampNeg) = f (p i 2).toNatClampNeg := by rw [cd]; exact e
      rw [this]
      exact tk a _ g f ha ea (mo_f1_refl g) hf
    · rw [if_neg c1, if_neg c1]
      have w159 : o = 0 ∨ 6 ≤ o → p i 0 ≠ 2 → p i 0 ≠ 3 → p i 0 ≠ 4 → p i 0 ≠ 5 → ∃ g', mf_Mo_worked_159 186 (p i 0) (p i 1) g = some (b_i (if p i 0 = 2 ∨ p i 0 = 3 ∨ p i 0 = 4 then some (sv_up f (p i 1).toNatClampNeg (ft_res (p i 0) (f (p i 2).toNatClampNeg) (f (p i 3).toNatClampNeg))) else if p i 0 = 5 then (sv_keep f (p i 3).toNatClampNeg 5).bind (fun h => some (sv_up h (p i 1).toNatClampNeg (ft_res 5 (h (p i 2).toNatClampNeg) (h (p i 3).toNatClampNeg)))) else if p i 0 = 6 then some (sv_up f (p i 1).toNatClampNeg ft_any) else some f : Option sv_F).isSome, g') ∧ mo_f1 g g' ∧ ∀ c, (if p i 0 = 2 ∨ p i 0 = 3 ∨ p i 0 = 4 then some (sv_up f (p i 1).toNatClampNeg (ft_res (p i 0) (f (p i 2).toNatClampNeg) (f (p i 3).toNatClampNeg))) else if p i 0 = 5 then (sv_keep f (p i 3).toNatClampNeg 5).bind (fun h => some (sv_up h (p i 1).toNatClampNeg (ft_res 5 (h (p i 2).toNatClampNeg) (h (p i 3).toNatClampNeg)))) else if p i 0 = 6 then some (sv_up f (p i 1).toNatClampNeg ft_any) else some f) = some c → kf_R g' c := by
        intro hoo n2 n3 n4 n5
        rw [if_neg (show ¬ (p i 0 = 2 ∨ p i 0 = 3 ∨ p i 0 = 4) from fun z => by rcases z with z | z | z; exact n2 z; exact n3 z; exact n4 z), if_neg n5]
        unfold mf_Mo_worked_159
        by_cases c6 : p i 0 = 6
        · rw [if_pos c6, if_pos c6, pf_Mo_result, Option.bind_some]
          have e : o = 6 := (oeq 6 (by decide)).mp c6
          subst e
          obtain ⟨a, ha, ea⟩ := h1
          exact tk a ft_any g f ha ea (mo_f1_refl g) hf
        · rw [if_neg c6, if_neg c6]
          exact ⟨g, rfl, mo_f1_refl g, fun c e => by cases e; exact hf⟩
      have on0 : o ≠ 0 := fun z => c0 ((oeq 0 (by decide)).mpr z)
      have on1 : o ≠ 1 := fun z => c1 ((oeq 1 (by decide)).mpr z)
      rw [if_neg (show ¬ p i 0 ≤ (1 : Int32) by rw [h0]; exact n_nle (b := 1) (by omega) (by decide) (by omega))]
      by_cases c6 : 6 ≤ o
      · rw [if_pos (show (6 : Int32) ≤ p i 0 by rw [h0]; exact n_le (a := 6) (by decide) (by omega) c6)]
        exact w159 (Or.inr c6) (fun z => by have := (oeq 2 (by decide)).mp z; omega) (fun z => by have := (oeq 3 (by decide)).mp z; omega) (fun z => by have := (oeq 4 (by decide)).mp z; omega) (fun z => by have := (oeq 5 (by decide)).mp z; omega)
      · rw [if_neg (show ¬ (6 : Int32) ≤ p i 0 by rw [h0]; exact n_nle (a := 6) (by decide) (by omega) (by omega))]
        rw [if_neg (by omega)] at h1
        rw [if_pos (by omega)] at h2 h3
        obtain ⟨a, ha, ea⟩ := h1
        obtain ⟨d, hd, ed⟩ := h2
        obtain ⟨c, hc, ec⟩ := h3
        have w129 : ∀ (g1 : wm_Sg) (f1 : sv_F), mo_f1 g g1 → kf_R g1 f1 → sv_fok f1 → (p i 0 = 2 ∨ p i 0 = 3 ∨ p i 0 = 4 ∨ (p i 0 = 5 ∧ (f1 c).2.2 &&& 2 = 0)) → ∃ g', mf_Mo_worked_129 186 (nI i) (p i 0) (p i 1) g1 = some (b_i (some (sv_up f1 (p i 1).toNatClampNeg (ft_res (p i 0) (f1 (p i 2).toNatClampNeg) (f1 (p i 3).toNatClampNeg)))).isSome, g') ∧ mo_f1 g g' ∧ ∀ c', some (sv_up f1 (p i 1).toNatClampNeg (ft_res (p i 0) (f1 (p i 2).toNatClampNeg) (f1 (p i 3).toNatClampNeg))) = some c' → kf_R g' c' := by
          intro g1 f1 hg1 hf1 fok1 hop
          unfold mf_Mo_worked_129
          rw [if_neg (mb_3 i24), if_neg (mb_4 i24), mr_3, mr_4, ci, hg1.1 189 (by decide) (by decide) (by decide) (by decide), hg1.1 190 (by decide) (by decide) (by decide) (by decide), p2, p3, ind hd ed, ind hc ec, ed, ec, pf_Mo_reckon hd hc hf1 (fok1 d hd) (fok1 c hc) hop, Option.bind_some]
          dsimp only
          rw [if_neg (show ¬ (1 : Int32) = 0 by decide)]
          exact tk a _ g1 f1 ha ea hg1 hf1
        by_cases c5 : p i 0 = 5
        · have n234 : ¬ (p i 0 = 2 ∨ p i 0 = 3 ∨ p i 0 = 4) := by rw [c5]; decide
          rw [if_pos c5, if_neg n234, if_pos c5, if_neg b4, ec, ← c5]
          rw [nI_clamp (by omega)]
          obtain ⟨g1, k1, k2, k3⟩ := pf_Mo_only hc hf (fok c hc) 5
          rw [show (5 : Int32) = p i 0 from c5.symm] at k1
          rw [c5] at k1
          rw [c5, k1, Option.bind_some]
          dsimp only
          cases hk : sv_keep f c 5 with
          | none =>
            rw [hk] at k1
            rw [show (none : Option sv_F).isSome = false from rfl, if_pos (show b_i false = 0 from rfl)]
            exact ⟨g1, rfl, k2, fun c' e => by cases e⟩
          | some h =>
            rw [show (some h : Option sv_F).isSome = true from rfl, if_neg (show ¬ b_i true = 0 by decide)]
            obtain ⟨z1, z2, s, z3, z4, z5⟩ := sv_keep_ok fok hc kp_5 hk
            have := w129 g1 h k2 (k3 h hk) z1 (Or.inr (Or.inr (Or.inr ⟨c5, by rw [z4]; exact (by decide +kernel : ∀ s, s < 8 → s &&& 5 = s → nI s &&& 2 = 0) s z3 z5⟩)))
            rw [c5, ind hc ec] at this
            exact this
        · rw [if_neg c5]
          have c234 : p i 0 = 2 ∨ p i 0 = 3 ∨ p i 0 = 4 := by
            have : o = 2 ∨ o = 3 ∨ o = 4 := by
              have : o ≠ 5 := fun z => c5 ((oeq 5 (by decide)).mpr z)
              omega
            rcases this with z | z | z
            · exact Or.inl ((oeq 2 (by decide)).mpr z)
            · exact Or.inr (Or.inl ((oeq 3 (by decide)).mpr z))
            · exact Or.inr (Or.inr ((oeq 4 (by decide)).mpr z))
          rw [if_pos c234]
          exact w129 g f (mo_f1_refl g) hf fok (by rcases c234 with z | z | z; exact Or.inl z; exact Or.inr (Or.inl z); exact Or.inr (Or.inr (Or.inl z)))
