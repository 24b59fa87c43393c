/-! rewriting: the reference, and both loops -/
def wr_f (i : Nat) (g g' : wm_Sg) : Prop := (∀ a, a ≠ 186 → ¬ (187 ≤ a ∧ a ≤ 190) → a ≠ 195 → a ≠ 196 → a ≠ 197 → g' a = g a) ∧ (∀ j, j ≠ 14 → j ≠ 15 → j ≠ 16 → g' 186 j = g 186 j) ∧ ∀ k, k ≠ i → g' 187 k = g 187 k ∧ g' 188 k = g 188 k ∧ g' 189 k = g 189 k ∧ g' 190 k = g 190 k
def wr_q (i : Nat) (g : wm_Sg) (q : Nat → Int32) : Prop := g 187 i = q 0 ∧ g 188 i = q 1 ∧ g 189 i = q 2 ∧ g 190 i = q 3
theorem wr_f1 {g g' : wm_Sg} (i : Nat) (f : mo_f1 g g') : wr_f i g g' := ⟨fun a h1 _ h2 h3 h4 => f.1 a h1 h2 h3 h4, f.2, fun k _ => by rw [f.1 187 (by decide) (by decide) (by decide) (by decide), f.1 188 (by decide) (by decide) (by decide) (by decide), f.1 189 (by decide) (by decide) (by decide) (by decide), f.1 190 (by decide) (by decide) (by decide) (by decide)]; exact ⟨rfl, rfl, rfl, rfl⟩⟩
theorem wr_pf {i : Nat} {g g1 : wm_Sg} (f : mo_f1 g g1) (q : Nat → Int32) : wr_f i g (pl_set g1 i q) := by
  obtain ⟨f1, f2, f3⟩ := wr_f1 i f
  refine ⟨fun a h1 h h2 h3 h4 => by rw [pl_ne g1 i q h]; exact f1 a h1 h h2 h3 h4, fun j a b c => by rw [pl_ne g1 i q (by omega)]; exact f2 j a b c, fun k hk => ?_⟩
  obtain ⟨a1, a2, a3, a4⟩ := pl_at_ne g1 q hk
  obtain ⟨b1, b2, b3, b4⟩ := f3 k hk
  exact ⟨a1.trans b1, a2.trans b2, a3.trans b3, a4.trans b4⟩
theorem wr_pl {i : Nat} (hi : i < 24) {g1 : wm_Sg} {op : Int32} (h0 : ¬ op < 0) (h1 : op ≤ 12) (ne : g1 187 i ≠ op) (a b c : Int32) : mf_Mo_place 186 (nI i) op a b c g1 = some (1, pl_set g1 i (tl_nf op a b c)) := by
  rw [pf_Mo_place hi h0 h1]
  have : pl_other g1 i (tl_nf op a b c) = true := by
    unfold pl_other
    rw [show tl_nf op a b c 0 = op from rfl, decide_eq_false ne]; rfl
  rw [this]; rfl
theorem ft_keep5 {f : ft_T} (h : ft_ok f) (z : f.2.2 &&& 2 = 0) : ft_keep f 5 = f ∧ ¬ f.2.2 = 0 := by
  have hh := h
  obtain ⟨k, s, e1, e2, -, s0, s8, -⟩ := h
  have e : f.2.2 &&& 5 = f.2.2 ∧ ¬ f.2.2 = 0 := by
    rw [e2] at z ⊢
    exact (by decide +kernel : ∀ s, s < 8 → 0 < s → nI s &&& 2 = 0 → (nI s &&& 5 = nI s ∧ ¬ nI s = 0)) s s8 s0 z
  refine ⟨?_, e.2⟩
  unfold ft_keep
  rw [e.1]
  exact ft_red_self hh
theorem sv_up_self (f : sv_F) (c : Nat) : sv_up f c (f c) = f := by
  funext v
  unfold sv_up
  by_cases e : v = c
  · rw [if_pos e, e]
  · rw [if_neg e]
theorem in_11 {q : Nat → Int32} (h : in_ok q) (e : q 0 = 11) : q 1 = 0 ∧ q 2 = 0 ∧ q 3 = 0 := by
  obtain ⟨o, ho, h0, h1, h2, h3⟩ := h
  have e' : o = 11 := by rw [h0] at e; exact (nI_eq (b := 11) (by omega) (by decide)).mp e
  subst e'
  exact ⟨h1, h2, h3⟩
theorem pf_Mo_written {n i : Nat} {p : Nat → Nat → Int32} {g : wm_Sg} {σ : sv_S} (hn : n ≤ 24) (hi : i < n) (hp : mp_R n p g) (ok : in_ok (p i)) (hR : ms_R n g σ) (fok : sv_ok σ) : ∃ g', mf_Mo_written 186 (nI i) g = some (b_i (rw_i (σ i).1 (σ i).2 (p i) i).isSome, g') ∧ wr_f i g g' ∧ wr_q i g' ((rw_i (σ i).1 (σ i).2 (p i) i).getD (p i)) := by
  have i24 : i < 24 := by omega
  obtain ⟨p0, p1, p2, p3⟩ := hp.2 i hi
  have ci : (nI i).toNatClampNeg = i := nI_clamp (by omega)
  have b4 := mb_4 i24
  rw [ci] at b4
  unfold mf_Mo_written rw_i
  rw [if_neg (mb_1 i24), if_neg (mb_6 i24), mr_1, mr_6, ci]
  have hl := (hR i hi).1
  cases el : (σ i).1 with
  | false =>
    rw [el] at hl
    rw [if_pos (show g 191 i = 0 by rw [hl]; rfl), pf_Mo_place i24 (by decide) (by decide), Option.bind_some, if_pos (b_i_z _), if_pos rfl]
    by_cases c : p i 0 = 11
    · obtain ⟨z1, z2, z3⟩ := in_11 ok c
      have e : pl_other g i (tl_nf 11 0 0 0) = false := by
        unfold pl_other
        rw [p0, p1, p2, p3, c, z1, z2, z3]; rfl
      rw [e, if_pos c]
      refine ⟨_, rfl, wr_pf (mo_f1_refl g) _, ?_⟩
      obtain ⟨a1, a2, a3, a4⟩ := pl_at g i (tl_nf 11 0 0 0)
      exact ⟨a1.trans c.symm, a2.trans z1.symm, a3.trans z2.symm, a4.trans z3.symm⟩
    · have e : pl_other g i (tl_nf 11 0 0 0) = true := by
        unfold pl_other
        rw [show tl_nf 11 0 0 0 0 = 11 from rfl, p0, decide_eq_false c]; rfl
      rw [e, if_neg c]
      exact ⟨_, rfl, wr_pf (mo_f1_refl g) _, pl_at g i _⟩
  | true =>
    rw [el] at hl
    rw [if_neg (show ¬ g 191 i = 0 by rw [hl]; decide), if_neg (show ¬ (true = false) by decide)]
    obtain ⟨g1, e1, f1, k1⟩ := pf_Mo_loadS hn hi hR el
    have fk := fok i el
    rw [e1, Option.bind_some]
    generalize (σ i).2 = f at k1 fk ⊢
    simp only [p0]
    have g187 : g1 187 = g 187 := f1.1 187 (by decide) (by decide) (by decide) (by decide)
    have g188 : g1 188 = g 188 := f1.1 188 (by decide) (by decide) (by decide) (by decide)
    have g189 : g1 189 = g 189 := f1.1 189 (by decide) (by decide) (by decide) (by decide)
    have g190 : g1 190 = g 190 := f1.1 190 (by decide) (by decide) (by decide) (by decide)
    have stay : wr_q i g1 (p i) := by
      unfold wr_q
      rw [g187, g188, g189, g190]; exact ⟨p0, p1, p2, p3⟩
    have w44 : (p i 0 = 7 ∨ p i 0 = 8) → ∃ g', mf_Mo_written_44 186 (nI i) (p i 0) g1 = some (b_i (if (f (p i 1).toNatClampNeg).2.2 &&& sv_way (p i 0) = 0 then some (tl_nf 9 0 0 (nI (i + 1))) else if (f (p i 1).toNatClampNeg).2.2 = sv_way (p i 0) then some (tl_nf 9 0 0 (p i 3)) else none : Option (Nat → Int32)).isSome, g') ∧ wr_f i g g' ∧ wr_q i g' ((if (f (p i 1).toNatClampNeg).2.2 &&& sv_way (p i 0) = 0 then some (tl_nf 9 0 0 (nI (i + 1))) else if (f (p i 1).toNatClampNeg).2.2 = sv_way (p i 0) then some (tl_nf 9 0 0 (p i 3)) else none : Option (Nat → Int32)).getD (p i)) := by
      intro c78
      obtain ⟨a, ha, ea⟩ := in_a' ok c78
      have ca : (p i 1).toNatClampNeg = a := by rw [ea, nI_clamp (by omega)]
      rw [ca]
      have hw : mf_Mo_written_44 186 (nI i) (p i 0) g1 = mf_Mo_written_55 186 (nI i) (sv_way (p i 0)) g1 := by
        unfold mf_Mo_written_44 sv_way
        by_cases z : p i 0 = 7
        · rw [if_pos z, if_pos z]
        · rw [if_neg z, if_neg z]
      rw [hw]
      have es : g1 197 a = (f a).2.2 := congrArg (fun z => z.2.2) (k1 a ha)
      have n9 : g1 187 i ≠ 9 := by
        rw [g187, p0]
        rcases c78 with z | z
        · rw [z]; decide
        · rw [z]; decide
      unfold mf_Mo_written_55
      rw [if_neg (mb_2 i24), mr_2, ci, g188, p1, ea, if_neg (mb_13 ha), mr_13, nI_clamp (show a < 2 ^ 31 by omega), es, nI_1, wr_pl i24 (by decide) (by decide) n9, Option.bind_some, if_neg b4, mr_4, g190, p3, wr_pl i24 (by decide) (by decide) n9, Option.bind_some]
      by_cases d1 : (f a).2.2 &&& sv_way (p i 0) = 0
      · rw [if_pos d1, if_pos d1, if_pos (Or.inr rfl)]
        exact ⟨_, rfl, wr_pf f1 _, pl_at g1 i _⟩
      · rw [if_neg d1, if_neg d1]
        by_cases d2 : (f a).2.2 = sv_way (p i 0)
        · rw [if_pos d2, if_pos d2, if_neg (show ¬ ((1 : Int32) = 0) by decide)]
          exact ⟨_, rfl, wr_pf f1 _, pl_at g1 i _⟩
        · rw [if_neg d2, if_neg d2]
          exact ⟨g1, rfl, wr_f1 i f1, stay⟩
    by_cases c7 : p i 0 = 7
    · rw [if_pos c7, if_pos (show p i 0 = 7 ∨ p i 0 = 8 from Or.inl c7)]
      exact w44 (Or.inl c7)
    · rw [if_neg c7]
      by_cases c8 : p i 0 = 8
      · rw [if_pos c8, if_pos (show p i 0 = 7 ∨ p i 0 = 8 from Or.inr c8)]
        exact w44 (Or.inr c8)
      · rw [if_neg c8, if_neg (show ¬ (p i 0 = 7 ∨ p i 0 = 8) from fun z => by rcases z with z | z; exact c7 z; exact c8 z)]
        have ok' := ok
        obtain ⟨o, ho, h0, h1, h2, h3⟩ := ok
        have no : ∀ r, r = none → ∃ g', mf_Mo_written_153 186 (nI i) g1 = some (b_i (r : Option (Nat → Int32)).isSome, g') ∧ wr_f i g g' ∧ wr_q i g' (r.getD (p i)) := by
          intro r e
          rw [e]
          exact ⟨g1, rfl, wr_f1 i f1, stay⟩
        have yes : ∀ (x : ft_T), 1 ≤ o → o ≤ 5 → sv_thru (p i) f = some (sv_up f (p i 1).toNatClampNeg x) → ∃ g', mf_Mo_written_149 186 (nI i) g1 = some (b_i (if x.1 = 32 then some (tl_nf 0 (p i 1) 0 x.2.1) else none : Option (Nat → Int32)).isSome, g') ∧ wr_f i g g' ∧ wr_q i g' ((if x.1 = 32 then some (tl_nf 0 (p i 1) 0 x.2.1) else none : Option (Nat → Int32)).getD (p i)) := by
          intro x o1 o5 et
          rw [if_neg (by omega)] at h1
          obtain ⟨a, ha, ea⟩ := h1
          have ca : (p i 1).toNatClampNeg = a := by rw [ea, nI_clamp (by omega)]
          rw [ca] at et
          have hp1 : mp_R n p g1 := mp_R_f2 hp (mo_f12 f1)
          obtain ⟨g2, e2, f2, k2⟩ := pf_Mo_worked hn hi hp1 ok' k1 fk
          rw [et] at e2 k2
          have k2 := k2 _ rfl a ha
          rw [show sv_up f a x a = x from if_pos rfl] at k2
          have f12 := mo_f1_trans f1 f2
          have x0 : g2 195 a = x.1 := congrArg Prod.fst k2
          have x1 : g2 196 a = x.2.1 := congrArg (fun z => z.2.1) k2
          have h187 : g2 187 = g 187 := f12.1 187 (by decide) (by decide) (by decide) (by decide)
          have h188 : g2 188 i = nI a := by rw [f12.1 188 (by decide) (by decide) (by decide) (by decide), p1, ea]
          have n0 : g2 187 i ≠ 0 := by
            rw [h187, p0, h0]
            exact fun z => by have := (nI_eq (b := 0) (by omega) (by decide)).mp z; omega
          unfold mf_Mo_written_149 mf_Mo_written_154
          rw [if_neg (show ¬ ((1 : Int32) = 0) by decide), e2, Option.bind_some]
          dsimp only
          rw [if_neg (show ¬ (b_i (some (sv_up f a x)).isSome = 0) from (by decide : ¬ b_i true = 0)), if_neg (mb_2 i24), if_neg (mb_2 i24), if_neg (mb_2 i24), mr_2, ci]
          simp only [h188]
          rw [if_neg (mb_11 ha), if_neg (mb_12 ha), mr_11, mr_12, nI_clamp (show a < 2 ^ 31 by omega), x0, x1, wr_pl i24 (by decide) (by decide) n0, Option.bind_some, if_pos (Or.inr rfl), ea]
          by_cases d : x.1 = 32
          · rw [if_pos d, if_pos d]
            exact ⟨_, rfl, wr_pf f12 _, pl_at g2 i _⟩
          · rw [if_neg d, if_neg d]
            refine ⟨g2, rfl, wr_f1 i f12, ?_⟩
            unfold wr_q
            rw [h187, f12.1 188 (by decide) (by decide) (by decide) (by decide), f12.1 189 (by decide) (by decide) (by decide) (by decide), f12.1 190 (by decide) (by decide) (by decide) (by decide)]; exact ⟨p0, p1, p2, p3⟩
        have oeq : ∀ k : Nat, k < 13 → (p i 0 = nI k ↔ o = k) := fun k hk => by rw [h0]; exact nI_eq (by omega) (by omega)
        have w128 : ¬ o = 5 → mf_Mo_written_128 186 (nI i) (p i 0) g1 = mf_Mo_written_153 186 (nI i) g1 := fun z => by
          unfold mf_Mo_written_128
          rw [if_neg (show ¬ p i 0 = 5 from fun q => z ((oeq 5 (by decide)).mp q))]
        have e0 : (p i 0 ≤ 0) ↔ o ≤ 0 := by rw [h0]; exact nI_leI (b := 0) (by omega) (by decide)
        have e5 : (p i 0 < 5) ↔ o < 5 := by rw [h0]; exact nI_ltI (b := 5) (by omega) (by decide)
        have c1' : p i 0 = 1 ↔ o = 1 := oeq 1 (by decide)
        have cc' : tl_ca (p i 0) = true ↔ (2 ≤ o ∧ o ≤ 5) := by
          rw [h0]
          exact (by decide +kernel : ∀ k, k < 13 → (tl_ca (nI k) = true ↔ (2 ≤ k ∧ k ≤ 5))) o ho
        by_cases q0 : o = 0
        · rw [if_pos (e0.mpr (by omega)), w128 (by omega)]
          refine no _ ?_
          rw [if_neg (show ¬ p i 0 = 1 from fun z => by have := c1'.mp z; omega), if_neg (show ¬ tl_ca (p i 0) = true from fun z => by have := cc'.mp z; omega)]
        · rw [if_neg (show ¬ p i 0 ≤ 0 from fun z => q0 (by have := e0.mp z; omega))]
          by_cases q5 : o < 5
          · rw [if_pos (e5.mpr q5)]
            by_cases q1 : o = 1
            · rw [if_pos (c1'.mpr q1)]
              refine yes _ (by omega) (by omega) ?_
              unfold sv_thru
              rw [if_neg (show ¬ p i 0 = 0 from fun z => q0 ((oeq 0 (by decide)).mp z)), if_pos (c1'.mpr q1)]
            · rw [if_neg (show ¬ p i 0 = 1 from fun z => q1 (c1'.mp z)), if_pos (cc'.mpr (by omega)), if_neg (show ¬ (p i 0 = 5 ∧ ¬ (f (p i 3).toNatClampNeg).2.2 &&& 2 = 0) from fun z => by have := (oeq 5 (by decide)).mp z.1; omega)]
              refine yes _ (by omega) (by omega) ?_
              unfold sv_thru
              rw [if_neg (show ¬ p i 0 = 0 from fun z => q0 ((oeq 0 (by decide)).mp z)), if_neg (show ¬ p i 0 = 1 from fun z => q1 (c1'.mp z)), if_pos]
              rcases (show o = 2 ∨ o = 3 ∨ o = 4 by omega) with z | z | z
              · exact Or.inl ((oeq 2 (by decide)).mpr z)
              · exact Or.inr (Or.inl ((oeq 3 (by decide)).mpr z))
              · exact Or.inr (Or.inr ((oeq 4 (by decide)).mpr z))
          · rw [if_neg (show ¬ p i 0 < 5 from fun z => q5 (e5.mp z))]
            by_cases q6 : o = 5
            · have c5 : p i 0 = 5 := (oeq 5 (by decide)).mpr q6
              rw [if_neg (show ¬ p i 0 = 1 from fun z => by have := c1'.mp z; omega), if_pos (cc'.mpr (by omega))]
              have h3 := h3
              rw [if_pos (by omega)] at h3
              obtain ⟨c, hc, ec⟩ := h3
              have cd : (p i 3).toNatClampNeg = c := by rw [ec, nI_clamp (by omega)]
              have es : g1 197 c = (f c).2.2 := congrArg (fun z => z.2.2) (k1 c hc)
              unfold mf_Mo_written_128
              rw [if_pos c5, if_neg (mb_4 i24), mr_4, ci, g190, p3]
              simp only [ec, nI_clamp (show c < 2 ^ 31 by omega)]
              rw [if_neg (show ¬ (nI c < 0 ∨ sh_n (sh_r 186 13) ≤ c) from by have := mb_13 hc; rw [nI_clamp (show c < 2 ^ 31 by omega)] at this; exact this), mr_13, es]
              by_cases d : (f c).2.2 &&& 2 = 0
              · rw [if_pos d, if_neg (show ¬ (p i 0 = 5 ∧ ¬ (f c).2.2 &&& 2 = 0) from fun z => z.2 d)]
                refine yes _ (by omega) (by omega) ?_
                obtain ⟨z1, z2⟩ := ft_keep5 (fk c hc) d
                unfold sv_thru sv_keep
                rw [cd, if_neg (show ¬ p i 0 = 0 from fun z => q0 ((oeq 0 (by decide)).mp z)), if_neg (show ¬ p i 0 = 1 from fun z => by have := c1'.mp z; omega), if_neg (show ¬ (p i 0 = 2 ∨ p i 0 = 3 ∨ p i 0 = 4) from fun z => by rw [c5] at z; revert z; decide), if_pos c5, z1, if_neg z2, Option.bind_some, sv_up_self, c5]
              · rw [if_neg d, if_pos (show p i 0 = 5 ∧ ¬ (f c).2.2 &&& 2 = 0 from ⟨c5, d⟩)]
                exact no _ rfl
            · rw [w128 q6]
              refine no _ ?_
              rw [if_neg (show ¬ p i 0 = 1 from fun z => by have := c1'.mp z; omega), if_neg (show ¬ tl_ca (p i 0) = true from fun z => by have := cc'.mp z; omega)]
def rw_p (A : ab_T) (i : Nat) : Option (Nat → Int32) := rw_i (ab_s A i).1 (ab_s A i).2 (A.1.2 i) i
def rw_c (A : ab_T) : Nat → Nat
  | 0 => 0
  | k + 1 => rw_c A k + if (rw_p A k).isSome = true then 1 else 0
def rw_m (A : ab_T) (k : Nat) : Nat → Nat → Int32 := fun i => if i < k then (rw_p A i).getD (A.1.2 i) else A.1.2 i
def ab_rewrite (A : ab_T) : Int32 × ab_T := (nI (rw_c A A.1.1), ((A.1.1, rw_m A A.1.1), A.2))
theorem rw_c_le (A : ab_T) : ∀ k, rw_c A k ≤ k
  | 0 => Nat.le_refl 0
  | k + 1 => by
    have := rw_c_le A k
    show rw_c A k + (if (rw_p A k).isSome = true then 1 else 0) ≤ k + 1
    by_cases e : (rw_p A k).isSome = true
    · rw [if_pos e]; omega
    · rw [if_neg e]; omega
theorem rw_c_0 (A : ab_T) : ∀ k, rw_c A k = 0 → ∀ i, i < k → rw_p A i = none
  | 0, _, _, h => absurd h (by omega)
  | k + 1, z, i, hi => by
    have z : rw_c A k + (if (rw_p A k).isSome = true then 1 else 0) = 0 := z
    by_cases e : (rw_p A k).isSome = true
    · rw [if_pos e] at z; omega
    · rw [if_neg e] at z
      by_cases q : i = k
      · rw [q]
        cases h : rw_p A k with
        | none => rfl
        | some x => rw [h] at e; exact absurd rfl e
      · exact rw_c_0 A k (by omega) i (by omega)
theorem rw_m_0 {A : ab_T} (h : rw_c A A.1.1 = 0) : rw_m A A.1.1 = A.1.2 := by
  funext i
  unfold rw_m
  by_cases e : i < A.1.1
  · rw [if_pos e, rw_c_0 A A.1.1 h i e]; rfl
  · rw [if_neg e]
theorem rw_m_0' (A : ab_T) : rw_m A 0 = A.1.2 := by
  funext i
  unfold rw_m
  rw [if_neg (by omega)]
theorem rw_m_ne (A : ab_T) {k i : Nat} (h : i ≠ k) : rw_m A (k + 1) i = rw_m A k i := by
  unfold rw_m
  by_cases e : i < k
  · rw [if_pos e, if_pos (by omega)]
  · rw [if_neg e, if_neg (by omega)]
theorem rw_m_at (A : ab_T) (k : Nat) : rw_m A k k = A.1.2 k ∧ rw_m A (k + 1) k = (rw_p A k).getD (A.1.2 k) := by
  unfold rw_m
  exact ⟨if_neg (by omega), if_pos (by omega)⟩
theorem sv_sol_ok {A : ab_T} (ok : ab_ok A) : sv_ok (ab_s A) := sv_it_ok ok.2.1 (sv_0_ok _) 2000
theorem ab_rewrite_ok {A : ab_T} (ok : ab_ok A) : ab_ok (ab_rewrite A).2 := by
  refine ⟨ok.1, fun i hi => ?_, ok.2.2.1, ok.2.2.2⟩
  have hi : i < A.1.1 := hi
  show in_ok (rw_m A A.1.1 i)
  unfold rw_m
  rw [if_pos hi]
  cases e : rw_p A i with
  | none => exact ok.2.1 i hi
  | some r => exact rw_in (by have := ok.1; omega) (ok.2.1 i hi) e
theorem cr_loop {A : ab_T} (ok : ab_ok A) (w : Nat → Bool) : ∀ (k i : Nat), i + k = A.1.1 → ∀ (f : Nat) (g : wm_Sg), pr_R A.1.1 (rw_m A i) g → so_R A.1.1 g (ab_s A) w → ∃ g', lp_it (mf_Ff_rewrite_15 0) (f + k + 1) (nI (rw_c A i), nI i, g) = some (nI (rw_c A A.1.1), wm_u g' 28 1 (b_i (decide (rw_c A A.1.1 = 0)))) ∧ (∀ a, ¬ (3 ≤ a ∧ a < 28) → g' a = g a) ∧ pr_R A.1.1 (rw_m A A.1.1) g'
  | 0, i, h, f, g, hp, hR => by
    obtain ⟨k1, k2, -⟩ := ff_k
    have hn := ok.1
    have e : i = A.1.1 := by omega
    subst e
    show ∃ g', mf_Ff_rewrite_15 0 (lp_it _ (f + 0)) _ = _ ∧ _
    generalize lp_it (mf_Ff_rewrite_15 0) (f + 0) = Kf
    unfold mf_Ff_rewrite_15
    dsimp only
    rw [k1, k2, if_pos (show g 1 1 ≤ nI A.1.1 by rw [hp.1]; exact n_le (by omega) (by omega) (Nat.le_refl _))]
    have hc := rw_c_le A A.1.1
    refine ⟨g, ?_, fun _ _ => rfl, hp⟩
    by_cases z : rw_c A A.1.1 = 0
    · rw [if_pos (show nI (rw_c A A.1.1) = 0 by rw [z]; rfl), decide_eq_true z]
      unfold mf_Ff_rewrite_68
      rw [if_pos (Or.inr rfl)]; rfl
    · rw [if_neg (show ¬ nI (rw_c A A.1.1) = 0 from fun q => z ((nI_eq (b := 0) (by omega) (by decide)).mp q)), decide_eq_false z]
      unfold mf_Ff_rewrite_68
      rw [if_pos (Or.inl rfl)]; rfl
  | k + 1, i, h, f, g, hp, hR => by
    obtain ⟨k1, k2, -⟩ := ff_k
    have hn := ok.1
    have hi : i < A.1.1 := by omega
    obtain ⟨g1, e1, f1, q1⟩ := pf_improve (q := A.1.2 i) (l := (ab_s A i).1) (f := (ab_s A i).2) hn hi (fun j hj => by rw [hp.2 i hi j hj, (rw_m_at A i).1]) (ok.2.1 i hi) (hR.1 i hi).1 (hR.1 i hi).2 (fun l => sv_sol_ok ok i l)
    have e1 : mf_Pr_improve 1 (nI i) (37 + 6 * i) g = some (b_i (rw_p A i).isSome, g1) := e1
    have q1 : ∀ j, j < 4 → g1 (4 + i) j = ((rw_p A i).getD (A.1.2 i)) j := q1
    have hp1 : pr_R A.1.1 (rw_m A (i + 1)) g1 := by
      refine ⟨by rw [f1 1 (by decide) (by omega)]; exact hp.1, fun m hm j hj => ?_⟩
      by_cases e : m = i
      · rw [e, (rw_m_at A i).2]; exact q1 j hj
      · rw [f1 (4 + m) (by omega) (by omega), rw_m_ne A e]; exact hp.2 m hm j hj
    have hR1 : so_R A.1.1 g1 (ab_s A) w := by
      refine ⟨fun m hm => ⟨by rw [f1 _ (by omega) (by omega)]; exact (hR.1 m hm).1, fun l v hv => ?_⟩, fun m hm => by rw [f1 30 (by decide) (by omega)]; exact hR.2 m hm⟩
      have : st_f g1 (37 + 6 * m) v = st_f g (37 + 6 * m) v := fa_at_congr (f1 _ (by omega) (by omega))
      rw [this]; exact (hR.1 m hm).2 l v hv
    obtain ⟨g2, e2, f2, p2⟩ := cr_loop ok w k (i + 1) (by omega) f g1 hp1 hR1
    refine ⟨g2, ?_, fun a ha => by rw [f2 a ha, f1 a (by omega) (by omega)], p2⟩
    show mf_Ff_rewrite_15 0 (lp_it _ (f + k + 1)) _ = _
    generalize lp_it (mf_Ff_rewrite_15 0) (f + k + 1) = Kf at e2 ⊢
    unfold mf_Ff_rewrite_15
    dsimp only
    rw [k1, k2, if_neg (show ¬ g 1 1 ≤ nI i by rw [hp.1]; exact n_nle (by omega) (by omega) hi), so_k.1, so_k.2.2.2.1, if_neg (in24 (by omega)), nI_clamp (by omega), so_s, e1, Option.bind_some]
    dsimp only
    unfold mf_Ff_rewrite_49
    rw [nI_1, nI_1]
    have ec : rw_c A (i + 1) = rw_c A i + if (rw_p A i).isSome = true then 1 else 0 := rfl
    cases es : (rw_p A i).isSome with
    | false =>
      rw [es, if_neg (show ¬ (false = true) by decide)] at ec
      rw [if_pos (show b_i false = 0 from rfl)]
      rw [ec] at e2; exact e2
    | true =>
      rw [es, if_pos rfl] at ec
      rw [if_neg (show ¬ b_i true = 0 by decide)]
      rw [ec] at e2; exact e2
theorem cl_rewrite {A : ab_T} (ok : ab_ok A) {g : wm_Sg} (h : cl_R A g) : ∃ g', mf_Ff_rewrite 0 g = some ((ab_rewrite A).1, g') ∧ cl_fr g g' ∧ cl_R (ab_rewrite A).2 g' := by
  obtain ⟨k1, k2, -⟩ := ff_k
  have hn := ok.1
  obtain ⟨g1, w, a1, a2, a3, a4, a5⟩ := cl_find ok h
  obtain ⟨g2, b1, b2, b3⟩ := cr_loop ok w A.1.1 0 (by omega) (2099 - A.1.1) g1 (by rw [rw_m_0']; exact a3.1) a5
  rw [show 2099 - A.1.1 + A.1.1 + 1 = 2100 by omega] at b1
  unfold mf_Ff_rewrite
  rw [k1, k2, a1, Option.bind_some]
  refine ⟨_, b1, fun a ha => by rw [wm_u_ne _ _ _ (by omega), b2 a (by omega)]; exact a2 a ha, ⟨by rw [wm_u_ne _ _ _ (by decide)]; exact b3.1, fun i hi j hj => by rw [wm_u_ne _ _ _ (by have : i < A.1.1 := hi; omega)]; exact b3.2 i hi j hj⟩, ?_, ⟨by rw [wm_u_ne _ _ _ (by decide), b2 181 (by omega)]; exact a3.2.2.1.1, fun j hj => by rw [wm_u_ne _ _ _ (by decide), b2 182 (by omega)]; exact a3.2.2.1.2 j hj⟩, ?_⟩
  · by_cases z : rw_c A A.1.1 = 0
    · have e : (ab_rewrite A).2 = A := by
        show ((A.1.1, rw_m A A.1.1), A.2) = A
        rw [rw_m_0 z]
      rw [e]
      exact cl_sol_c hn (by rw [wm_u_app, if_pos ⟨rfl, rfl⟩, a4, decide_eq_true z]; rfl) (by rw [wm_u_ne _ _ _ (by decide), b2 30 (by omega)]) (fun a h1 h2 => by rw [wm_u_ne _ _ _ (by omega), b2 a (by omega)]) a3.2.1
    · exact Or.inl (by rw [wm_u_app, if_pos ⟨rfl, rfl⟩, decide_eq_false z]; rfl)
  · unfold cl_mac
    rw [wm_u_ne _ _ _ (by decide), wm_u_ne _ _ _ (by decide), wm_u_ne _ _ _ (by decide), b2 183 (by omega), b2 184 (by omega), b2 185 (by omega)]; exact a3.2.2.2
theorem mr_loop {A : ab_T} (ok : ab_ok A) : ∀ (k i : Nat), i + k = A.1.1 → ∀ (f : Nat) (g : wm_Sg), mp_R A.1.1 (rw_m A i) g → ms_R A.1.1 g (ab_s A) → ∃ g', lp_it (mf_Mo_rewrite_8 186) (f + k + 1) (nI (rw_c A i), nI i, g) = some (nI (rw_c A A.1.1), wm_u g' 186 5 0) ∧ (∀ a, a ≠ 186 → ¬ (187 ≤ a ∧ a ≤ 190) → a ≠ 195 → a ≠ 196 → a ≠ 197 → g' a = g a) ∧ (∀ j, j ≠ 14 → j ≠ 15 → j ≠ 16 → g' 186 j = g 186 j) ∧ mp_R A.1.1 (rw_m A A.1.1) g'
  | 0, i, h, f, g, hp, hR => by
    have hn := ok.1
    have e : i = A.1.1 := by omega
    subst e
    show ∃ g', mf_Mo_rewrite_8 186 (lp_it _ (f + 0)) _ = _ ∧ _
    generalize lp_it (mf_Mo_rewrite_8 186) (f + 0) = Kf
    unfold mf_Mo_rewrite_8
    dsimp only
    rw [if_pos (show g 186 0 ≤ nI A.1.1 by rw [hp.1]; exact n_le (by omega) (by omega) (Nat.le_refl _))]
    exact ⟨g, rfl, fun _ _ _ _ _ _ => rfl, fun _ _ _ _ => rfl, hp⟩
  | k + 1, i, h, f, g, hp, hR => by
    have hn := ok.1
    have hi : i < A.1.1 := by omega
    have ei := (rw_m_at A i).1
    obtain ⟨g1, e1, f1, q1⟩ := pf_Mo_written hn hi hp (by rw [ei]; exact ok.2.1 i hi) hR (sv_sol_ok ok)
    rw [ei] at e1 q1
    have e1 : mf_Mo_written 186 (nI i) g = some (b_i (rw_p A i).isSome, g1) := e1
    have q1 : wr_q i g1 ((rw_p A i).getD (A.1.2 i)) := q1
    obtain ⟨fa, fb, fc⟩ := f1
    have hp1 : mp_R A.1.1 (rw_m A (i + 1)) g1 := by
      refine ⟨by rw [fb 0 (by decide) (by decide) (by decide)]; exact hp.1, fun m hm => ?_⟩
      by_cases e : m = i
      · rw [e, (rw_m_at A i).2]; exact q1
      · obtain ⟨c1, c2, c3, c4⟩ := fc m e
        rw [c1, c2, c3, c4, rw_m_ne A e]; exact hp.2 m hm
    have hR1 : ms_R A.1.1 g1 (ab_s A) := by
      intro m hm
      have : ∀ q, ms_at g1 q = ms_at g q := fun q => by unfold ms_at; rw [fa 192 (by decide) (by omega) (by decide) (by decide) (by decide), fa 193 (by decide) (by omega) (by decide) (by decide) (by decide), fa 194 (by decide) (by omega) (by decide) (by decide) (by decide)]
      exact ⟨by rw [fa 191 (by decide) (by omega) (by decide) (by decide) (by decide)]; exact (hR m hm).1, fun l v hv => by rw [this]; exact (hR m hm).2 l v hv⟩
    obtain ⟨g2, e2, f2, f3, p2⟩ := mr_loop ok k (i + 1) (by omega) f g1 hp1 hR1
    refine ⟨g2, ?_, fun a h1 h2 h3 h4 h5 => by rw [f2 a h1 h2 h3 h4 h5, fa a h1 h2 h3 h4 h5], fun j h1 h2 h3 => by rw [f3 j h1 h2 h3, fb j h1 h2 h3], p2⟩
    show mf_Mo_rewrite_8 186 (lp_it _ (f + k + 1)) _ = _
    generalize lp_it (mf_Mo_rewrite_8 186) (f + k + 1) = Kf at e2 ⊢
    unfold mf_Mo_rewrite_8
    dsimp only
    rw [if_neg (show ¬ g 186 0 ≤ nI i by rw [hp.1]; exact n_nle (by omega) (by omega) hi), e1, Option.bind_some]
    dsimp only
    unfold mf_Mo_rewrite_31
    rw [nI_1, nI_1]
    have ec : rw_c A (i + 1) = rw_c A i + if (rw_p A i).isSome = true then 1 else 0 := rfl
    cases es : (rw_p A i).isSome with
    | false =>
      rw [es, if_neg (show ¬ (false = true) by decide)] at ec
      rw [if_pos (show b_i false = 0 from rfl)]
      rw [ec] at e2; exact e2
    | true =>
      rw [es, if_pos rfl] at ec
      rw [if_neg (show ¬ b_i true = 0 by decide)]
      rw [ec] at e2; exact e2
theorem md_rewrite {A : ab_T} (ok : ab_ok A) {g : wm_Sg} (h : md_R A g) : ∃ g', mf_Mo_rewrite 186 g = some ((ab_rewrite A).1, g') ∧ md_fr g g' ∧ md_R (ab_rewrite A).2 g' := by
  have hn := ok.1
  obtain ⟨g1, a1, a2, a3, a4⟩ := md_solve ok h
  obtain ⟨g2, b1, b2, b2', b3⟩ := mr_loop ok A.1.1 0 (by omega) (2099 - A.1.1) g1 (by rw [rw_m_0']; exact a3.1) a4
  rw [show 2099 - A.1.1 + A.1.1 + 1 = 2100 by omega] at b1
  unfold mf_Mo_rewrite
  rw [a1, Option.bind_some]
  have u : ∀ j, j ≠ 5 → wm_u g2 186 5 0 186 j = g2 186 j := fun j hj => by rw [wm_u_app, if_neg (fun q => hj q.2)]
  have v : ∀ a, a ≠ 186 → wm_u g2 186 5 0 a = g2 a := fun a ha => wm_u_ne _ _ _ ha
  refine ⟨_, b1, fun a ha => by rw [v a (by omega), b2 a (by omega) (by omega) (by omega) (by omega) (by omega)]; exact a2 a ha, ⟨by rw [u 0 (by decide)]; exact b3.1, fun i hi => by rw [v 187 (by decide), v 188 (by decide), v 189 (by decide), v 190 (by decide)]; exact b3.2 i hi⟩, ⟨Or.inl (by rw [wm_u_app, if_pos ⟨rfl, rfl⟩]), ?_⟩, ⟨by rw [u 17 (by decide), b2' 17 (by decide) (by decide) (by decide)]; exact a3.2.2.1.1, fun j hj => by rw [v 198 (by decide), b2 198 (by decide) (by omega) (by decide) (by decide) (by decide)]; exact a3.2.2.1.2 j hj⟩, ?_⟩
  · rw [u 10 (by decide), b2' 10 (by decide) (by decide) (by decide)]; exact a3.2.1.2
  · unfold md_mac
    rw [u 22 (by decide), u 19 (by decide), u 20 (by decide), v 199 (by decide), v 200 (by decide), b2' 22 (by decide) (by decide) (by decide), b2' 19 (by decide) (by decide) (by decide), b2' 20 (by decide) (by decide) (by decide), b2 199 (by decide) (by omega) (by decide) (by decide) (by decide), b2 200 (by decide) (by omega) (by decide) (by decide) (by decide)]
    exact a3.2.2.2
