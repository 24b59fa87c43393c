/-! the calls that ask for facts -/
abbrev ab_s (A : ab_T) : sv_S := sv_sol A.1.1 A.1.2
theorem cl_find {A : ab_T} (ok : ab_ok A) {g : wm_Sg} (h : cl_R A g) : ∃ g' w, mf_So_find 28 1 g = some g' ∧ cl_fr g g' ∧ cl_R A g' ∧ g' 28 1 = 1 ∧ so_R A.1.1 g' (ab_s A) w := by
  obtain ⟨h1, h2, h3, h4⟩ := h
  have hn := ok.1
  rcases h2 with z | ⟨z, w, hR⟩
  · obtain ⟨g1, w, a1, a2, a3⟩ := pf_So_find hn ok.2.1 h1 z
    have hx : ∀ y, y ≠ 28 → y ≠ 30 → y ≠ 31 → ¬ (33 ≤ y ∧ y < 181) → wm_u g1 28 1 1 y = g y := fun y y1 y2 y3 y4 => by rw [wm_u_ne _ _ _ y1]; exact a2.1 y y2 y3 y4
    have hR' : so_R A.1.1 (wm_u g1 28 1 1) (ab_s A) w := by
      refine ⟨fun i hi => ⟨by rw [wm_u_ne _ _ _ (by omega)]; exact (a3.1 i hi).1, fun l v hv => ?_⟩, fun i hi => by rw [wm_u_ne _ _ _ (by decide)]; exact a3.2 i hi⟩
      have : st_f (wm_u g1 28 1 1) (37 + 6 * i) v = st_f g1 (37 + 6 * i) v := fa_at_congr (wm_u_ne _ _ _ (by omega))
      rw [this]; exact (a3.1 i hi).2 l v hv
    have h281 : wm_u g1 28 1 1 28 1 = 1 := by rw [wm_u_app, if_pos ⟨rfl, rfl⟩]
    refine ⟨wm_u g1 28 1 1, w, a1, fun y hy => hx y (by omega) (by omega) (by omega) (by omega), ⟨⟨by rw [hx 1 (by decide) (by decide) (by decide) (by omega)]; exact h1.1, fun i hi j hj => by rw [hx (4 + i) (by omega) (by omega) (by omega) (by omega)]; exact h1.2 i hi j hj⟩, Or.inr ⟨h281, w, hR'⟩, ⟨by rw [hx 181 (by decide) (by decide) (by decide) (by omega)]; exact h3.1, fun j hj => by rw [hx 182 (by decide) (by decide) (by decide) (by omega)]; exact h3.2 j hj⟩, ?_⟩, h281, hR'⟩
    unfold cl_mac
    rw [hx 183 (by decide) (by decide) (by decide) (by omega), hx 184 (by decide) (by decide) (by decide) (by omega), hx 185 (by decide) (by decide) (by decide) (by omega)]; exact h4
  · refine ⟨g, w, ?_, fun _ _ => rfl, ⟨h1, Or.inr ⟨z, w, hR⟩, h3, h4⟩, z, hR⟩
    unfold mf_So_find
    rw [if_neg (show ¬ g 28 1 = 0 by rw [z]; decide)]
theorem md_solve {A : ab_T} (ok : ab_ok A) {g : wm_Sg} (h : md_R A g) : ∃ g', mf_Mo_solve 186 g = some g' ∧ md_fr g g' ∧ md_R A g' ∧ ms_R A.1.1 g' (ab_s A) := by
  obtain ⟨h1, h2, h3, h4⟩ := h
  have hn := ok.1
  rcases h2.1 with z | ⟨z, hR⟩
  · obtain ⟨g1, a1, a2, a3, a4, a5⟩ := pf_Mo_solve hn ok.2.1 h1 z h2.2
    refine ⟨g1, a1, fun y hy => a2.1 y (by omega) (by omega), ⟨⟨by rw [a2.2 0 (by decide) (by decide) (by decide) (by decide) (by decide)]; exact h1.1, fun i hi => by rw [a2.1 187 (by decide) (by omega), a2.1 188 (by decide) (by omega), a2.1 189 (by decide) (by omega), a2.1 190 (by decide) (by omega)]; exact h1.2 i hi⟩, ⟨Or.inr ⟨a4, a3⟩, a5⟩, ⟨by rw [a2.2 17 (by decide) (by decide) (by decide) (by decide) (by decide)]; exact h3.1, fun j hj => by rw [a2.1 198 (by decide) (by omega)]; exact h3.2 j hj⟩, ?_⟩, a3⟩
    unfold md_mac
    rw [a2.2 22 (by decide) (by decide) (by decide) (by decide) (by decide), a2.2 19 (by decide) (by decide) (by decide) (by decide) (by decide), a2.2 20 (by decide) (by decide) (by decide) (by decide) (by decide), a2.1 199 (by decide) (by omega), a2.1 200 (by decide) (by omega)]; exact h4
  · refine ⟨g, ?_, fun _ _ => rfl, ⟨h1, h2, h3, h4⟩, hR⟩
    unfold mf_Mo_solve
    rw [if_neg (show ¬ g 186 5 = 0 by rw [z]; decide)]
def ab_live (A : ab_T) (x : Int32) : Bool := hs_b A.1.1 x && (ab_s A x.toNatClampNeg).1
theorem cl_comesTo {A : ab_T} (ok : ab_ok A) {g : wm_Sg} {w : Nat → Bool} (h : cl_R A g) (hR : so_R A.1.1 g (ab_s A) w) (x : Int32) : mf_Ff_comesTo 0 x g = some (b_i (ab_live A x), g) := by
  obtain ⟨k1, k2, -⟩ := ff_k
  have hn := ok.1
  unfold mf_Ff_comesTo mf_Ff_comesTo_30 mf_Ff_comesTo_31 ab_live
  rw [k1, k2, so_k.1, so_k.2.2.2.1, pf_Pr_has' x h.1.1, Option.bind_some]
  dsimp only
  cases hx : hs_b A.1.1 x with
  | false => rfl
  | true =>
    obtain ⟨i, hi, rfl⟩ := hs_t hn hx
    rw [if_neg (show ¬ b_i true = 0 by decide), if_neg (in24 (by omega)), nI_clamp (by omega), so_s, Bool.true_and]
    have e := (hR.1 i hi).1
    cases hl : (ab_s A i).1 with
    | false =>
      rw [hl] at e
      rw [if_neg (show ¬ g (37 + 6 * i) 1 = 0 by rw [e]; decide)]; rfl
    | true =>
      rw [hl] at e
      rw [if_pos (show g (37 + 6 * i) 1 = 0 by rw [e]; rfl)]; rfl
theorem cl_reached {A : ab_T} (ok : ab_ok A) {g : wm_Sg} (h : cl_R A g) (x : Int32) : ∃ g', mf_Ff_reached 0 x g = some (b_i (ab_live A x), g') ∧ cl_fr g g' ∧ cl_R A g' := by
  obtain ⟨k1, k2, -⟩ := ff_k
  obtain ⟨g1, w, a1, a2, a3, a4, a5⟩ := cl_find ok h
  unfold mf_Ff_reached
  rw [k1, k2, a1, Option.bind_some, cl_comesTo ok a3 a5, Option.bind_some]
  dsimp only
  rw [if_pos (b_i_z _)]
  exact ⟨g1, rfl, a2, a3⟩
theorem md_reached {A : ab_T} (ok : ab_ok A) {g : wm_Sg} (h : md_R A g) (x : Int32) : ∃ g', mf_Mo_reached 186 x g = some (b_i (ab_live A x), g') ∧ md_fr g g' ∧ md_R A g' := by
  have hn := ok.1
  obtain ⟨g1, a1, a2, a3, a4⟩ := md_solve ok h
  unfold mf_Mo_reached mf_Mo_reached_25 mf_Mo_reached_26 ab_live
  rw [a1, Option.bind_some, pf_Mo_none x a3.1.1, Option.bind_some]
  dsimp only
  refine ⟨g1, ?_, a2, a3⟩
  cases hx : hs_b A.1.1 x with
  | false => rfl
  | true =>
    obtain ⟨i, hi, rfl⟩ := hs_t hn hx
    rw [if_pos (show b_i (!true) = 0 from rfl), if_neg (mb_6 (by omega)), mr_6, nI_clamp (by omega), Bool.true_and]
    have e := (a4 i hi).1
    cases hl : (ab_s A i).1 with
    | false =>
      rw [hl] at e
      rw [if_pos (show g1 191 i = 0 by rw [e]; rfl)]; rfl
    | true =>
      rw [hl] at e
      rw [if_neg (show ¬ g1 191 i = 0 by rw [e]; decide)]; rfl
def ab_told (A : ab_T) (x v : Int32) : Bool := tl_iv v && ab_live A x
def ab_fact (A : ab_T) (x v : Int32) : ft_T := (ab_s A x.toNatClampNeg).2 v.toNatClampNeg
theorem md_untold {A : ab_T} (ok : ab_ok A) {g : wm_Sg} (h : md_R A g) (x v : Int32) : ∃ g', mf_Mo_untold 186 x v g = some (b_i (!(ab_told A x v)), g') ∧ md_fr g g' ∧ md_R A g' ∧ ms_R A.1.1 g' (ab_s A) := by
  have hn := ok.1
  obtain ⟨g1, a1, a2, a3, a4⟩ := md_solve ok h
  unfold mf_Mo_untold mf_Mo_untold_28 mf_Mo_untold_33 ab_told ab_live
  rw [a1, Option.bind_some, pf_Mo_none x a3.1.1, Option.bind_some]
  dsimp only
  rw [pf_Mo_isVariable, Option.bind_some]
  refine ⟨g1, ?_, a2, a3, a4⟩
  dsimp only
  cases hx : hs_b A.1.1 x with
  | false =>
    rw [if_neg (show ¬ b_i (!false) = 0 by decide), Bool.false_and, Bool.and_false]; rfl
  | true =>
    obtain ⟨i, hi, rfl⟩ := hs_t hn hx
    rw [if_pos (show b_i (!true) = 0 from rfl), if_neg (mb_6 (by omega)), mr_6, nI_clamp (by omega), Bool.true_and]
    have e := (a4 i hi).1
    cases hl : (ab_s A i).1 with
    | false =>
      rw [hl] at e
      rw [if_pos (show g1 191 i = 0 by rw [e]; rfl), Bool.and_false]; rfl
    | true =>
      rw [hl] at e
      rw [if_neg (show ¬ g1 191 i = 0 by rw [e]; decide), Bool.and_true]
      cases tl_iv v <;> rfl
theorem ab_told_t {A : ab_T} (ok : ab_ok A) {x v : Int32} (h : ab_told A x v = true) : ∃ i u, i < A.1.1 ∧ u < 4 ∧ x = nI i ∧ v = nI u ∧ (ab_s A i).1 = true := by
  unfold ab_told ab_live at h
  simp only [Bool.and_eq_true] at h
  obtain ⟨h1, h2, h3⟩ := h
  obtain ⟨u, hu, rfl⟩ := tl_ivn h1
  obtain ⟨i, hi, rfl⟩ := hs_t ok.1 h2
  rw [nI_clamp (by have := ok.1; omega)] at h3
  exact ⟨i, u, hi, hu, rfl, rfl, h3⟩
def ab_bits (A : ab_T) (x v : Int32) : Int32 := if ab_told A x v = true then (ab_fact A x v).1 else -1
theorem cl_bits {A : ab_T} (ok : ab_ok A) {g : wm_Sg} (h : cl_R A g) (x v : Int32) : ∃ g', mf_Ff_bits 0 x v g = some (ab_bits A x v, g') ∧ cl_fr g g' ∧ cl_R A g' := by
  obtain ⟨k1, k2, -⟩ := ff_k
  have hn := ok.1
  obtain ⟨g1, w, a1, a2, a3, a4, a5⟩ := cl_find ok h
  unfold mf_Ff_bits mf_Ff_bits_46 mf_Ff_bits_47
  rw [k1, k2, a1, Option.bind_some, pf_Ff_isVariable, Option.bind_some]
  dsimp only
  rw [cl_comesTo ok a3 a5, Option.bind_some]
  dsimp only
  refine ⟨g1, ?_, a2, a3⟩
  cases hb : ab_told A x v with
  | false =>
    unfold ab_bits
    rw [if_neg (show ¬ ab_told A x v = true by rw [hb]; decide)]
    unfold ab_told at hb
    cases hv : tl_iv v with
    | false => rfl
    | true =>
      rw [hv, Bool.true_and] at hb
      rw [hb]; rfl
  | true =>
    obtain ⟨i, u, hi, hu, rfl, rfl, hl⟩ := ab_told_t ok hb
    have hb2 := hb
    unfold ab_told at hb2
    simp only [Bool.and_eq_true] at hb2
    have i24 : i < 24 := by omega
    have hkd := st_kd i i24
    unfold ab_bits
    rw [hb2.1, hb2.2, if_neg (show ¬ b_i true = 0 by decide), if_neg (show ¬ b_i true = 0 by decide), so_k.1, so_k.2.2.2.1, if_neg (in24 i24), nI_clamp (by omega), nI_clamp (by omega), so_s, st_r hkd, st_n hkd, if_neg (show ¬ (nI u < 0 ∨ 4 ≤ u) from fun z => by rcases z with z | z; exact nI_pos (n := u) (by omega) z; omega), st_e hkd, if_pos hb]
    have e := (a5.1 i hi).2 hl u hu
    have e2 : g1 (37 + 6 * i + 2 + u) 0 = ((ab_s A i).2 u).1 := congrArg Prod.fst e
    rw [e2]
    unfold ab_fact
    rw [nI_clamp (by omega), nI_clamp (by omega)]
theorem md_bits {A : ab_T} (ok : ab_ok A) {g : wm_Sg} (h : md_R A g) (x v : Int32) : ∃ g', mf_Mo_bits 186 x v g = some (ab_bits A x v, g') ∧ md_fr g g' ∧ md_R A g' := by
  have hn := ok.1
  obtain ⟨g1, a1, a2, a3, a4⟩ := md_untold ok h x v
  unfold mf_Mo_bits mf_Mo_bits_23
  rw [a1, Option.bind_some]
  dsimp only
  refine ⟨g1, ?_, a2, a3⟩
  cases hb : ab_told A x v with
  | false =>
    unfold ab_bits
    rw [if_neg (show ¬ b_i (!false) = 0 by decide), if_neg (show ¬ ab_told A x v = true by rw [hb]; decide)]
  | true =>
    obtain ⟨i, u, hi, hu, rfl, rfl, hl⟩ := ab_told_t ok hb
    unfold ab_bits
    rw [if_pos (show b_i (!true) = 0 from rfl), i4, if_neg (mb_7 (by omega)), mr_7, nI_clamp (by omega), if_pos hb]
    have e := (a4 i hi).2 hl u hu
    have e2 : g1 192 (4 * i + u) = ((ab_s A i).2 u).1 := congrArg Prod.fst e
    rw [e2]
    unfold ab_fact
    rw [nI_clamp (by omega), nI_clamp (by omega)]
def ab_rest (A : ab_T) (x v : Int32) : Int32 := if ab_told A x v = true then (ab_fact A x v).2.1 else 0
theorem cl_rest {A : ab_T} (ok : ab_ok A) {g : wm_Sg} (h : cl_R A g) (x v : Int32) : ∃ g', mf_Ff_rest 0 x v g = some (ab_rest A x v, g') ∧ cl_fr g g' ∧ cl_R A g' := by
  obtain ⟨k1, k2, -⟩ := ff_k
  have hn := ok.1
  obtain ⟨g1, w, a1, a2, a3, a4, a5⟩ := cl_find ok h
  unfold mf_Ff_rest mf_Ff_rest_46 mf_Ff_rest_47
  rw [k1, k2, a1, Option.bind_some, pf_Ff_isVariable, Option.bind_some]
  dsimp only
  rw [cl_comesTo ok a3 a5, Option.bind_some]
  dsimp only
  refine ⟨g1, ?_, a2, a3⟩
  cases hb : ab_told A x v with
  | false =>
    unfold ab_rest
    rw [if_neg (show ¬ ab_told A x v = true by rw [hb]; decide)]
    unfold ab_told at hb
    cases hv : tl_iv v with
    | false => rfl
    | true =>
      rw [hv, Bool.true_and] at hb
      rw [hb]; rfl
  | true =>
    obtain ⟨i, u, hi, hu, rfl, rfl, hl⟩ := ab_told_t ok hb
    have hb2 := hb
    unfold ab_told at hb2
    simp only [Bool.and_eq_true] at hb2
    have i24 : i < 24 := by omega
    have hkd := st_kd i i24
    unfold ab_rest
    rw [hb2.1, hb2.2, if_neg (show ¬ b_i true = 0 by decide), if_neg (show ¬ b_i true = 0 by decide), so_k.1, so_k.2.2.2.1, if_neg (in24 i24), nI_clamp (by omega), nI_clamp (by omega), so_s, st_r hkd, st_n hkd, if_neg (show ¬ (nI u < 0 ∨ 4 ≤ u) from fun z => by rcases z with z | z; exact nI_pos (n := u) (by omega) z; omega), st_e hkd, if_pos hb]
    have e := (a5.1 i hi).2 hl u hu
    have e2 : g1 (37 + 6 * i + 2 + u) 1 = ((ab_s A i).2 u).2.1 := congrArg (fun z => z.2.1) e
    rw [e2]
    unfold ab_fact
    rw [nI_clamp (by omega), nI_clamp (by omega)]
theorem md_rest {A : ab_T} (ok : ab_ok A) {g : wm_Sg} (h : md_R A g) (x v : Int32) : ∃ g', mf_Mo_rest 186 x v g = some (ab_rest A x v, g') ∧ md_fr g g' ∧ md_R A g' := by
  have hn := ok.1
  obtain ⟨g1, a1, a2, a3, a4⟩ := md_untold ok h x v
  unfold mf_Mo_rest mf_Mo_rest_23
  rw [a1, Option.bind_some]
  dsimp only
  refine ⟨g1, ?_, a2, a3⟩
  cases hb : ab_told A x v with
  | false =>
    unfold ab_rest
    rw [if_neg (show ¬ b_i (!false) = 0 by decide), if_neg (show ¬ ab_told A x v = true by rw [hb]; decide)]
  | true =>
    obtain ⟨i, u, hi, hu, rfl, rfl, hl⟩ := ab_told_t ok hb
    unfold ab_rest
    rw [if_pos (show b_i (!true) = 0 from rfl), i4, if_neg (mb_8 (by omega)), mr_8, nI_clamp (by omega), if_pos hb]
    have e := (a4 i hi).2 hl u hu
    have e2 : g1 193 (4 * i + u) = ((ab_s A i).2 u).2.1 := congrArg (fun z => z.2.1) e
    rw [e2]
    unfold ab_fact
    rw [nI_clamp (by omega), nI_clamp (by omega)]
def ab_signs (A : ab_T) (x v : Int32) : Int32 := if ab_told A x v = true then (ab_fact A x v).2.2 else 0
theorem cl_signs {A : ab_T} (ok : ab_ok A) {g : wm_Sg} (h : cl_R A g) (x v : Int32) : ∃ g', mf_Ff_signs 0 x v g = some (ab_signs A x v, g') ∧ cl_fr g g' ∧ cl_R A g' := by
  obtain ⟨k1, k2, -⟩ := ff_k
  have hn := ok.1
  obtain ⟨g1, w, a1, a2, a3, a4, a5⟩ := cl_find ok h
  unfold mf_Ff_signs mf_Ff_signs_46 mf_Ff_signs_47
  rw [k1, k2, a1, Option.bind_some, pf_Ff_isVariable, Option.bind_some]
  dsimp only
  rw [cl_comesTo ok a3 a5, Option.bind_some]
  dsimp only
  refine ⟨g1, ?_, a2, a3⟩
  cases hb : ab_told A x v with
  | false =>
    unfold ab_signs
    rw [if_neg (show ¬ ab_told A x v = true by rw [hb]; decide)]
    unfold ab_told at hb
    cases hv : tl_iv v with
    | false => rfl
    | true =>
      rw [hv, Bool.true_and] at hb
      rw [hb]; rfl
  | true =>
    obtain ⟨i, u, hi, hu, rfl, rfl, hl⟩ := ab_told_t ok hb
    have hb2 := hb
    unfold ab_told at hb2
    simp only [Bool.and_eq_true] at hb2
    have i24 : i < 24 := by omega
    have hkd := st_kd i i24
    unfold ab_signs
    rw [hb2.1, hb2.2, if_neg (show ¬ b_i true = 0 by decide), if_neg (show ¬ b_i true = 0 by decide), so_k.1, so_k.2.2.2.1, if_neg (in24 i24), nI_clamp (by omega), nI_clamp (by omega), so_s, st_r hkd, st_n hkd, if_neg (show ¬ (nI u < 0 ∨ 4 ≤ u) from fun z => by rcases z with z | z; exact nI_pos (n := u) (by omega) z; omega), st_e hkd, if_pos hb]
    have e := (a5.1 i hi).2 hl u hu
    have e2 : g1 (37 + 6 * i + 2 + u) 2 = ((ab_s A i).2 u).2.2 := congrArg (fun z => z.2.2) e
    rw [e2]
    unfold ab_fact
    rw [nI_clamp (by omega), nI_clamp (by omega)]
theorem md_signs {A : ab_T} (ok : ab_ok A) {g : wm_Sg} (h : md_R A g) (x v : Int32) : ∃ g', mf_Mo_signs 186 x v g = some (ab_signs A x v, g') ∧ md_fr g g' ∧ md_R A g' := by
  have hn := ok.1
  obtain ⟨g1, a1, a2, a3, a4⟩ := md_untold ok h x v
  unfold mf_Mo_signs mf_Mo_signs_23
  rw [a1, Option.bind_some]
  dsimp only
  refine ⟨g1, ?_, a2, a3⟩
  cases hb : ab_told A x v with
  | false =>
    unfold ab_signs
    rw [if_neg (show ¬ b_i (!false) = 0 by decide), if_neg (show ¬ ab_told A x v = true by rw [hb]; decide)]
  | true =>
    obtain ⟨i, u, hi, hu, rfl, rfl, hl⟩ := ab_told_t ok hb
    unfold ab_signs
    rw [if_pos (show b_i (!true) = 0 from rfl), i4, if_neg (mb_9 (by omega)), mr_9, nI_clamp (by omega), if_pos hb]
    have e := (a4 i hi).2 hl u hu
    have e2 : g1 194 (4 * i + u) = ((ab_s A i).2 u).2.2 := congrArg (fun z => z.2.2) e
    rw [e2]
    unfold ab_fact
    rw [nI_clamp (by omega), nI_clamp (by omega)]
