/-! rewriting -/
def rw_i (l : Bool) (f : sv_F) (q : Nat → Int32) (i : Nat) : Option (Nat → Int32) :=
  if l = false then (if q 0 = 11 then none else some (tl_nf 11 0 0 0))
  else if q 0 = 7 ∨ q 0 = 8 then (if (f (q 1).toNatClampNeg).2.2 &&& sv_way (q 0) = 0 then some (tl_nf 9 0 0 (nI (i + 1))) else if (f (q 1).toNatClampNeg).2.2 = sv_way (q 0) then some (tl_nf 9 0 0 (q 3)) else none)
  else if q 0 = 1 then (if (f (q 2).toNatClampNeg).1 = 32 then some (tl_nf 0 (q 1) 0 (f (q 2).toNatClampNeg).2.1) else none)
  else if tl_ca (q 0) = true then (if q 0 = 5 ∧ ¬ (f (q 3).toNatClampNeg).2.2 &&& 2 = 0 then none else if (ft_res (q 0) (f (q 2).toNatClampNeg) (f (q 3).toNatClampNeg)).1 = 32 then some (tl_nf 0 (q 1) 0 (ft_res (q 0) (f (q 2).toNatClampNeg) (f (q 3).toNatClampNeg)).2.1) else none)
  else none
theorem rw_in {l : Bool} {f : sv_F} {q : Nat → Int32} {i : Nat} (hi : i < 24) (ok : in_ok q) {r : Nat → Int32} (h : rw_i l f q i = some r) : in_ok r := by
  have k9 : ∀ t, t ≤ 24 → in_ok (tl_nf 9 0 0 (nI t)) := fun t ht => tl_in_ok ((by decide +kernel : ∀ t, t < 25 → tl_ok 9 0 0 (nI t) = true) t (by omega))
  have k0 : ∀ a x, a < 4 → in_ok (tl_nf 0 (nI a) 0 x) := fun a x ha => tl_in_ok (by
    have e := (by decide +kernel : ∀ a, a < 4 → tl_iv (nI a) = true) a ha
    unfold tl_ok tl_bc tl_c
    rw [e]
    rfl)
  unfold rw_i at h
  by_cases c0 : l = false
  · rw [if_pos c0] at h
    by_cases c1 : q 0 = 11
    · rw [if_pos c1] at h; cases h
    · rw [if_neg c1] at h; cases h
      exact tl_in_ok (by decide)
  · rw [if_neg c0] at h
    by_cases c78 : q 0 = 7 ∨ q 0 = 8
    · rw [if_pos c78] at h
      by_cases d1 : (f (q 1).toNatClampNeg).2.2 &&& sv_way (q 0) = 0
      · rw [if_pos d1] at h; cases h; exact k9 _ (by omega)
      · rw [if_neg d1] at h
        by_cases d2 : (f (q 1).toNatClampNeg).2.2 = sv_way (q 0)
        · rw [if_pos d2] at h; cases h
          obtain ⟨t, ht, et⟩ := in_t ok (by rcases c78 with z | z; exact Or.inl z; exact Or.inr (Or.inl z))
          rw [et]; exact k9 t ht
        · rw [if_neg d2] at h; cases h
    · rw [if_neg c78] at h
      obtain ⟨o, ho, h0, h1, h2, h3⟩ := ok
      by_cases c1 : q 0 = 1
      · rw [if_pos c1] at h
        have e : o = 1 := by rw [h0] at c1; exact (nI_eq (b := 1) (by omega) (by decide)).mp c1
        subst e
        obtain ⟨a, ha, ea⟩ := h1
        by_cases d : (f (q 2).toNatClampNeg).1 = 32
        · rw [if_pos d] at h; cases h; rw [ea]; exact k0 a _ ha
        · rw [if_neg d] at h; cases h
      · rw [if_neg c1] at h
        by_cases cc : tl_ca (q 0) = true
        · rw [if_pos cc] at h
          have e : 2 ≤ o ∧ o ≤ 5 := by
            rw [h0] at cc
            have := (by decide +kernel : ∀ k, k < 13 → tl_ca (nI k) = true → 2 ≤ k ∧ k ≤ 5) o ho cc
            exact this
          rw [if_neg (by omega)] at h1
          obtain ⟨a, ha, ea⟩ := h1
          by_cases d : q 0 = 5 ∧ ¬ (f (q 3).toNatClampNeg).2.2 &&& 2 = 0
          · rw [if_pos d] at h; cases h
          · rw [if_neg d] at h
            by_cases d2 : (ft_res (q 0) (f (q 2).toNatClampNeg) (f (q 3).toNatClampNeg)).1 = 32
            · rw [if_pos d2] at h; cases h; rw [ea]; exact k0 a _ ha
            · rw [if_neg d2] at h; cases h
        · rw [if_neg cc] at h; cases h
theorem bc_self (g : wm_Sg) (o : Nat) (q : Nat → Int32) : (∀ a, a ≠ 3 → a ≠ o → bc_set g o q a = g a) ∧ ∀ j, j < 4 → bc_set g o q o j = q j := ⟨fun a _ h => bc_ne g q h, fun j hj => bc_at g o q hj⟩
theorem pf_improve {n i : Nat} {g : wm_Sg} {q : Nat → Int32} {l : Bool} {f : sv_F} (hn : n ≤ 24) (hi : i < n) (hq : ∀ j, j < 4 → g (4 + i) j = q j) (ok : in_ok q) (hfl : g (37 + 6 * i) 1 = b_i (!l)) (hf : l = true → ∀ v, v < 4 → st_f g (37 + 6 * i) v = f v) (fok : l = true → sv_fok f) : ∃ g', mf_Pr_improve 1 (nI i) (37 + 6 * i) g = some (b_i (rw_i l f q i).isSome, g') ∧ (∀ a, a ≠ 3 → a ≠ 4 + i → g' a = g a) ∧ ∀ j, j < 4 → g' (4 + i) j = ((rw_i l f q i).getD q) j := by
  have i24 : i < 24 := by omega
  have hkd := st_kd i i24
  have q0 := hq 0 (by decide)
  have q1 := hq 1 (by decide)
  have q2 := hq 2 (by decide)
  have q3 := hq 3 (by decide)
  have r12 : sh_r 1 2 = 3 := by decide +kernel
  unfold mf_Pr_improve
  rw [so_k.2.2.2.2.2.1, so_k.2.2.2.2.2.2.1, if_neg (in24 i24), nI_clamp (by omega), so_i]
  cases l with
  | false =>
    rw [if_neg (show ¬ g (37 + 6 * i) 1 = 0 by rw [hfl]; decide)]
    unfold mf_Pr_stopInstead rw_i
    rw [if_pos rfl]
    by_cases c : q 0 = 11
    · rw [if_pos (show g (4 + i) 0 = 11 by rw [q0]; exact c), if_pos c, Option.bind_some, if_pos (Or.inl rfl)]
      exact ⟨g, rfl, fun _ _ _ => rfl, hq⟩
    · rw [if_neg (show ¬ g (4 + i) 0 = 11 by rw [q0]; exact c), if_neg c, pf_In_become, Option.bind_some, Option.bind_some, if_pos (Or.inr rfl)]
      exact ⟨_, rfl, bc_self g _ _⟩
  | true =>
    have hf := hf rfl
    have fok := fok rfl
    rw [if_pos (show g (37 + 6 * i) 1 = 0 by rw [hfl]; rfl)]
    have fa : ∀ v, v < 4 → fa_at g (37 + 6 * i + 2 + v) = f v := fun v hv => hf v hv
    unfold rw_i
    rw [if_neg (show ¬ (true = false) by decide)]
    have i37 : (q 0 = 7 ∨ q 0 = 8) → ∃ g', mf_Pr_improve_37 (nI i) (37 + 6 * i) (4 + i) g = some (b_i (if (f (q 1).toNatClampNeg).2.2 &&& sv_way (q 0) = 0 then some (tl_nf 9 0 0 (nI (i + 1))) else if (f (q 1).toNatClampNeg).2.2 = sv_way (q 0) then some (tl_nf 9 0 0 (q 3)) else none : Option (Nat → Int32)).isSome, g') ∧ (∀ a, a ≠ 3 → a ≠ 4 + i → g' a = g a) ∧ ∀ j, j < 4 → g' (4 + i) j = ((if (f (q 1).toNatClampNeg).2.2 &&& sv_way (q 0) = 0 then some (tl_nf 9 0 0 (nI (i + 1))) else if (f (q 1).toNatClampNeg).2.2 = sv_way (q 0) then some (tl_nf 9 0 0 (q 3)) else none : Option (Nat → Int32)).getD q) j := by
      intro c78
      obtain ⟨a, ha, ea⟩ := in_a' ok c78
      have ca : (q 1).toNatClampNeg = a := by rw [ea, nI_clamp (by omega)]
      rw [ca]
      unfold mf_Pr_improve_37
      rw [if_neg (show ¬ (g (4 + i) 1 < 0 ∨ sh_n (sh_r (37 + 6 * i) 0) ≤ (g (4 + i) 1).toNatClampNeg) by rw [q1, ea, st_r hkd, st_n hkd]; exact st_in ha), q1, ca, st_r hkd, st_e hkd, nI_1]
      have es : g (37 + 6 * i + 2 + a) 2 = (f a).2.2 := congrArg (fun z => z.2.2) (fa a ha)
      rw [es]
      obtain ⟨kk, s, -, hs2, -, hs4, hs5, -⟩ := fok a ha
      have hw : sv_way (q 0) = 2 ∨ sv_way (q 0) = 1 := by
        unfold sv_way
        by_cases z : q 0 = 7
        · rw [if_pos z]; exact Or.inl rfl
        · rw [if_neg z]; exact Or.inr rfl
      -- the three ways
      have hgo : mf_Pr_goInstead (4 + i) (f a).2.2 (nI (i + 1)) g = some (if (f a).2.2 &&& sv_way (q 0) = 0 then (1, bc_set g (4 + i) (tl_nf 9 0 0 (nI (i + 1)))) else if (f a).2.2 &&& (sv_way (q 0) ^^^ (-1)) = 0 then (1, bc_set g (4 + i) (tl_nf 9 0 0 (q 3))) else (0, g)) := by
        unfold mf_Pr_goInstead mf_Pr_goInstead_14 mf_Pr_goInstead_31 mf_Pr_goInstead_44 mf_Pr_goInstead_61
        simp only [pf_In_jumpSigns, Option.bind_some, q0, pf_In_become, q3]
        by_cases d1 : (f a).2.2 &&& sv_way (q 0) = 0
        · rw [if_pos d1, if_pos d1]
          by_cases d2 : (f a).2.2 &&& (sv_way (q 0) ^^^ (-1)) = 0
          · rw [if_pos d2]; rfl
          · rw [if_neg d2]; rfl
        · rw [if_neg d1, if_neg d1]
          by_cases d2 : (f a).2.2 &&& (sv_way (q 0) ^^^ (-1)) = 0
          · rw [if_pos d2, if_pos d2]; rfl
          · rw [if_neg d2, if_neg d2]; rfl
      rw [hgo, Option.bind_some]
      by_cases d1 : (f a).2.2 &&& sv_way (q 0) = 0
      · rw [if_pos d1, if_pos d1, if_pos (Or.inr rfl)]
        exact ⟨_, rfl, bc_self g _ _⟩
      · have iff2 : (f a).2.2 &&& (sv_way (q 0) ^^^ (-1)) = 0 ↔ (f a).2.2 = sv_way (q 0) := by
          rw [hs2] at d1 ⊢
          rcases hw with z | z
          · rw [z] at d1 ⊢
            exact (by decide +kernel : ∀ s, s < 8 → (¬ nI s &&& 2 = 0) → (nI s &&& ((2 : Int32) ^^^ (-1)) = 0 ↔ nI s = 2)) s hs5 d1
          · rw [z] at d1 ⊢
            exact (by decide +kernel : ∀ s, s < 8 → (¬ nI s &&& 1 = 0) → (nI s &&& ((1 : Int32) ^^^ (-1)) = 0 ↔ nI s = 1)) s hs5 d1
        rw [if_neg d1, if_neg d1]
        by_cases d2 : (f a).2.2 = sv_way (q 0)
        · rw [if_pos (iff2.mpr d2), if_pos d2, if_pos (Or.inr rfl)]
          exact ⟨_, rfl, bc_self g _ _⟩
        · rw [if_neg (fun z => d2 (iff2.mp z)), if_neg d2, if_pos (Or.inl rfl)]
          exact ⟨g, rfl, fun _ _ _ => rfl, hq⟩
    by_cases c7 : q 0 = 7
    · rw [if_pos (show g (4 + i) 0 = 7 by rw [q0]; exact c7), if_pos (show q 0 = 7 ∨ q 0 = 8 from Or.inl c7)]
      exact i37 (Or.inl c7)
    · rw [if_neg (show ¬ g (4 + i) 0 = 7 by rw [q0]; exact c7)]
      by_cases c8 : q 0 = 8
      · rw [if_pos (show g (4 + i) 0 = 8 by rw [q0]; exact c8), if_pos (show q 0 = 7 ∨ q 0 = 8 from Or.inr c8)]
        exact i37 (Or.inr c8)
      · rw [if_neg (show ¬ g (4 + i) 0 = 8 by rw [q0]; exact c8), if_neg (show ¬ (q 0 = 7 ∨ q 0 = 8) from fun z => by rcases z with z | z; exact c7 z; exact c8 z)]
        obtain ⟨o, ho, h0, h1, h2, h3⟩ := ok
        have setI : ∀ (fo : Nat) (x : ft_T) (g1 : wm_Sg), fa_at g1 fo = x → (∀ j, j < 4 → g1 (4 + i) j = q j) → (∀ a, a ≠ 3 → a ≠ 4 + i → g1 a = g a) → ∃ g', ((mf_Pr_setInstead (4 + i) fo g1).bind fun v27 => if v27.1 = 0 ∨ v27.1 = 1 then some (v27.1, v27.2) else none) = some (b_i (if x.1 = 32 then some (tl_nf 0 (q 1) 0 x.2.1) else none : Option (Nat → Int32)).isSome, g') ∧ (∀ a, a ≠ 3 → a ≠ 4 + i → g' a = g a) ∧ ∀ j, j < 4 → g' (4 + i) j = ((if x.1 = 32 then some (tl_nf 0 (q 1) 0 x.2.1) else none : Option (Nat → Int32)).getD q) j := by
          intro fo x g1 hx hg1 hfr
          have x0 : g1 fo 0 = x.1 := congrArg Prod.fst hx
          have x1 : g1 fo 1 = x.2.1 := congrArg (fun z => z.2.1) hx
          unfold mf_Pr_setInstead
          by_cases d : x.1 = 32
          · rw [if_pos (show g1 fo 0 = 32 by rw [x0]; exact d), if_pos d, hg1 1 (by decide), x1, pf_In_become, Option.bind_some, Option.bind_some, if_pos (Or.inr rfl)]
            exact ⟨bc_set g1 (4 + i) (tl_nf 0 (q 1) 0 x.2.1), rfl, fun a a1 a2 => by rw [bc_ne g1 _ a2]; exact hfr a a1 a2, fun j hj => bc_at g1 _ _ hj⟩
          · rw [if_neg (show ¬ g1 fo 0 = 32 by rw [x0]; exact d), if_neg d, Option.bind_some, if_pos (Or.inl rfl)]
            exact ⟨g1, rfl, hfr, hg1⟩
        by_cases c1 : q 0 = 1
        · rw [if_pos (show g (4 + i) 0 = 1 by rw [q0]; exact c1), if_pos c1]
          have e : o = 1 := by rw [h0] at c1; exact (nI_eq (b := 1) (by omega) (by decide)).mp c1
          subst e
          obtain ⟨b, hb, eb⟩ := h2
          have cb : (q 2).toNatClampNeg = b := by rw [eb, nI_clamp (by omega)]
          rw [if_neg (show ¬ (g (4 + i) 2 < 0 ∨ sh_n (sh_r (37 + 6 * i) 0) ≤ (g (4 + i) 2).toNatClampNeg) by rw [q2, eb, st_r hkd, st_n hkd]; exact st_in hb), q2, cb, st_r hkd, st_e hkd]
          exact setI _ _ g (fa b hb) hq (fun _ _ _ => rfl)
        · rw [if_neg (show ¬ g (4 + i) 0 = 1 by rw [q0]; exact c1), if_neg c1, q0, pf_In_calculates, Option.bind_some]
          dsimp only
          cases cc : tl_ca (q 0) with
          | false =>
            rw [if_pos (show b_i false = 0 from rfl), if_neg (show ¬ (false = true) by decide)]
            exact ⟨g, rfl, fun _ _ _ => rfl, hq⟩
          | true =>
            rw [if_neg (show ¬ b_i true = 0 by decide), if_pos rfl]
            have e : 2 ≤ o ∧ o ≤ 5 := by
              rw [h0] at cc
              exact (by decide +kernel : ∀ k, k < 13 → tl_ca (nI k) = true → 2 ≤ k ∧ k ≤ 5) o ho cc
            rw [if_pos (by omega)] at h2 h3
            obtain ⟨b, hb, eb⟩ := h2
            obtain ⟨c, hc, ec⟩ := h3
            have cb : (q 2).toNatClampNeg = b := by rw [eb, nI_clamp (by omega)]
            have cd : (q 3).toNatClampNeg = c := by rw [ec, nI_clamp (by omega)]
            rw [cb, cd]
            have i118 : ∃ g', mf_Pr_improve_118 1 (37 + 6 * i) (4 + i) g = some (b_i (if (ft_res (q 0) (f b) (f c)).1 = 32 then some (tl_nf 0 (q 1) 0 (ft_res (q 0) (f b) (f c)).2.1) else none : Option (Nat → Int32)).isSome, g') ∧ (∀ a, a ≠ 3 → a ≠ 4 + i → g' a = g a) ∧ ∀ j, j < 4 → g' (4 + i) j = ((if (ft_res (q 0) (f b) (f c)).1 = 32 then some (tl_nf 0 (q 1) 0 (ft_res (q 0) (f b) (f c)).2.1) else none : Option (Nat → Int32)).getD q) j := by
              unfold mf_Pr_improve_118
              rw [if_neg (show ¬ (g (4 + i) 2 < 0 ∨ sh_n (sh_r (37 + 6 * i) 0) ≤ (g (4 + i) 2).toNatClampNeg) by rw [q2, eb, st_r hkd, st_n hkd]; exact st_in hb), if_neg (show ¬ (g (4 + i) 3 < 0 ∨ sh_n (sh_r (37 + 6 * i) 0) ≤ (g (4 + i) 3).toNatClampNeg) by rw [q3, ec, st_r hkd, st_n hkd]; exact st_in hc), q0, q2, q3, cb, cd, st_r hkd, st_e hkd, st_e hkd, r12, pf_Fa_becomeResult, Option.bind_some, fa b hb, fa c hc]
              exact setI 3 _ _ (fa_set_at g 3 _) (fun j hj => by rw [fa_set_ne g _ (by omega)]; exact hq j hj) (fun a a1 _ => fa_set_ne g _ a1)
            have es : g (37 + 6 * i + 2 + c) 2 = (f c).2.2 := congrArg (fun z => z.2.2) (fa c hc)
            by_cases c5 : q 0 = 5
            · rw [if_pos (show g (4 + i) 0 = 5 by rw [q0]; exact c5), if_neg (show ¬ (g (4 + i) 3 < 0 ∨ sh_n (sh_r (37 + 6 * i) 0) ≤ (g (4 + i) 3).toNatClampNeg) by rw [q3, ec, st_r hkd, st_n hkd]; exact st_in hc)]
              by_cases d : (f c).2.2 &&& 2 = 0
              · rw [if_pos (show g (sh_r (sh_r (37 + 6 * i) 0) (g (4 + i) 3).toNatClampNeg) 2 &&& 2 = 0 by rw [q3, cd, st_r hkd, st_e hkd, es]; exact d), if_neg (show ¬ (q 0 = 5 ∧ ¬ (f c).2.2 &&& 2 = 0) from fun z => z.2 d)]
                exact i118
              · rw [if_neg (show ¬ g (sh_r (sh_r (37 + 6 * i) 0) (g (4 + i) 3).toNatClampNeg) 2 &&& 2 = 0 by rw [q3, cd, st_r hkd, st_e hkd, es]; exact d), if_pos (show q 0 = 5 ∧ ¬ (f c).2.2 &&& 2 = 0 from ⟨c5, d⟩)]
                exact ⟨g, rfl, fun _ _ _ => rfl, hq⟩
            · rw [if_neg (show ¬ g (4 + i) 0 = 5 by rw [q0]; exact c5), if_neg (show ¬ (q 0 = 5 ∧ ¬ (f c).2.2 &&& 2 = 0) from fun z => c5 z.1)]
              exact i118
