/-! the state of both, and the calls that don't solve -/
def cl_sol (n : Nat) (p : Nat → Nat → Int32) (g : wm_Sg) : Prop := g 28 1 = 0 ∨ (g 28 1 = 1 ∧ ∃ w, so_R n g (sv_sol n p) w)
def cl_inp (c : Nat) (f : Nat → Int32) (g : wm_Sg) : Prop := g 181 1 = nI c ∧ ∀ j, j < c → g 182 j = f j
def cl_mac (k : Nat) (dn nx : Int32) (vs ou : Nat → Int32) (g : wm_Sg) : Prop := g 183 2 = nI k ∧ g 183 3 = dn ∧ g 183 4 = nx ∧ (∀ v, v < 4 → g 184 v = vs v) ∧ ∀ j, j < 40 → j < k → g 185 j = ou j
def md_sol (n : Nat) (p : Nat → Nat → Int32) (g : wm_Sg) : Prop := (g 186 5 = 0 ∨ (g 186 5 = 1 ∧ ms_R n g (sv_sol n p))) ∧ (g 186 10 = 0 ∨ g 186 10 = 1)
def md_inp (c : Nat) (f : Nat → Int32) (g : wm_Sg) : Prop := g 186 17 = nI c ∧ ∀ j, j < c → g 198 j = f j
def md_mac (k : Nat) (dn nx : Int32) (vs ou : Nat → Int32) (g : wm_Sg) : Prop := g 186 22 = nI k ∧ g 186 19 = dn ∧ g 186 20 = nx ∧ (∀ v, v < 4 → g 199 v = vs v) ∧ ∀ j, j < 40 → g 200 j = if j < k then ou j else 0
/-- the mathematical state: program, inputs, what the latest run told -/
abbrev ab_T : Type := (Nat × (Nat → Nat → Int32)) × (Nat × (Nat → Int32)) × (Nat × Int32 × Int32 × (Nat → Int32) × (Nat → Int32))
def ab_ok (A : ab_T) : Prop := A.1.1 ≤ 24 ∧ (∀ i, i < A.1.1 → in_ok (A.1.2 i)) ∧ A.2.1.1 ≤ 16 ∧ A.2.2.1 ≤ 2000
def cl_R (A : ab_T) (g : wm_Sg) : Prop := pr_R A.1.1 A.1.2 g ∧ cl_sol A.1.1 A.1.2 g ∧ cl_inp A.2.1.1 A.2.1.2 g ∧ cl_mac A.2.2.1 A.2.2.2.1 A.2.2.2.2.1 A.2.2.2.2.2.1 A.2.2.2.2.2.2 g
def md_R (A : ab_T) (g : wm_Sg) : Prop := mp_R A.1.1 A.1.2 g ∧ md_sol A.1.1 A.1.2 g ∧ md_inp A.2.1.1 A.2.1.2 g ∧ md_mac A.2.2.1 A.2.2.2.1 A.2.2.2.2.1 A.2.2.2.2.2.1 A.2.2.2.2.2.2 g
/-- only the class's cells, only the reference's cells change -/
def cl_fr (g g' : wm_Sg) : Prop := ∀ a, 186 ≤ a → g' a = g a
def md_fr (g g' : wm_Sg) : Prop := ∀ a, a < 186 → g' a = g a
theorem cl_sol_c {n : Nat} (hn : n ≤ 24) {p : Nat → Nat → Int32} {g g' : wm_Sg} (h28 : g' 28 1 = g 28 1) (h30 : g' 30 = g 30) (hs : ∀ a, 37 ≤ a → a < 181 → g' a = g a) (h : cl_sol n p g) : cl_sol n p g' := by
  rcases h with h | ⟨h, w, hR⟩
  · exact Or.inl (h28.trans h)
  · refine Or.inr ⟨h28.trans h, w, fun i hi => ⟨by rw [hs _ (by omega) (by omega)]; exact (hR.1 i hi).1, fun l v hv => ?_⟩, fun i hi => by rw [h30]; exact hR.2 i hi⟩
    have : st_f g' (37 + 6 * i) v = st_f g (37 + 6 * i) v := fa_at_congr (hs _ (by omega) (by omega))
    rw [this]; exact (hR.1 i hi).2 l v hv
theorem cl_R_c {A : ab_T} (ok : ab_ok A) {g g' : wm_Sg} (f : md_fr g g') (h : cl_R A g) : cl_R A g' := by
  obtain ⟨h1, h2, h3, h4⟩ := h
  refine ⟨⟨by rw [f 1 (by decide)]; exact h1.1, fun i hi j hj => by rw [f (4 + i) (by have := ok.1; omega)]; exact h1.2 i hi j hj⟩, cl_sol_c ok.1 (by rw [f 28 (by decide)]) (f 30 (by decide)) (fun a _ h => f a (by omega)) h2, ⟨by rw [f 181 (by decide)]; exact h3.1, fun j hj => by rw [f 182 (by decide)]; exact h3.2 j hj⟩, ?_⟩
  unfold cl_mac
  rw [f 183 (by decide), f 184 (by decide), f 185 (by decide)]; exact h4
theorem md_R_c {A : ab_T} {g g' : wm_Sg} (f : cl_fr g g') (h : md_R A g) : md_R A g' := by
  obtain ⟨h1, h2, h3, h4⟩ := h
  refine ⟨⟨by rw [f 186 (by decide)]; exact h1.1, fun i hi => by rw [f 187 (by decide), f 188 (by decide), f 189 (by decide), f 190 (by decide)]; exact h1.2 i hi⟩, ?_, ⟨by rw [f 186 (by decide)]; exact h3.1, fun j hj => by rw [f 198 (by decide)]; exact h3.2 j hj⟩, ?_⟩
  · unfold md_sol
    rw [f 186 (by decide)]
    refine ⟨?_, h2.2⟩
    rcases h2.1 with z | ⟨z, hR⟩
    · exact Or.inl z
    · refine Or.inr ⟨z, fun i hi => ?_⟩
      have : ∀ q, ms_at g' q = ms_at g q := fun q => by unfold ms_at; rw [f 192 (by decide), f 193 (by decide), f 194 (by decide)]
      exact ⟨by rw [f 191 (by decide)]; exact (hR i hi).1, fun l v hv => by rw [this]; exact (hR i hi).2 l v hv⟩
  · unfold md_mac
    rw [f 186 (by decide), f 199 (by decide), f 200 (by decide)]; exact h4
theorem ff_k : sh_r 0 0 = 1 ∧ sh_r 0 1 = 28 ∧ sh_r 0 2 = 181 ∧ sh_r 0 3 = 183 ∧ sh_r 181 0 = 182 ∧ sh_n 182 = 16 ∧ sh_r 183 0 = 184 ∧ sh_n 184 = 4 ∧ sh_r 183 1 = 185 ∧ sh_n 185 = 40 := by decide +kernel
def bc_set (g : wm_Sg) (o : Nat) (q : Nat → Int32) : wm_Sg := wm_u (wm_u (wm_u (wm_u g o 0 (q 0)) o 1 (q 1)) o 2 (q 2)) o 3 (q 3)
theorem bc_ne (g : wm_Sg) {o a : Nat} (q : Nat → Int32) (h : a ≠ o) : bc_set g o q a = g a := by
  unfold bc_set
  rw [wm_u_ne _ _ _ h, wm_u_ne _ _ _ h, wm_u_ne _ _ _ h, wm_u_ne _ _ _ h]
theorem bc_at (g : wm_Sg) (o : Nat) (q : Nat → Int32) {j : Nat} (hj : j < 4) : bc_set g o q o j = q j := by
  unfold bc_set
  simp only [wm_u_app]
  rcases (show j = 0 ∨ j = 1 ∨ j = 2 ∨ j = 3 by omega) with rfl | rfl | rfl | rfl <;> simp
theorem pf_In_become (o : Nat) (op a b c : Int32) (g : wm_Sg) : mf_In_become o op a b c g = some (bc_set g o (tl_nf op a b c)) := by
  have e0 : tl_nf op a b c 0 = op := rfl
  have e1 : tl_nf op a b c 1 = if tl_ua op = true then a else 0 := rfl
  have e2 : tl_nf op a b c 2 = if tl_ub op = true then b else 0 := rfl
  have e3 : tl_nf op a b c 3 = if tl_uc op = true then c else 0 := rfl
  unfold mf_In_become mf_In_become_18 mf_In_become_34 mf_In_become_51 bc_set
  rw [e0, e1, e2, e3]
  simp only [pf_In_usesA, pf_In_usesB, pf_In_usesC, Option.bind_some]
  cases tl_ua op <;> cases tl_ub op <;> cases tl_uc op <;> rfl
def pl_set (g : wm_Sg) (i : Nat) (q : Nat → Int32) : wm_Sg := wm_u (wm_u (wm_u (wm_u g 187 i (q 0)) 188 i (q 1)) 189 i (q 2)) 190 i (q 3)
theorem pl_ne (g : wm_Sg) {a : Nat} (i : Nat) (q : Nat → Int32) (h : ¬ (187 ≤ a ∧ a ≤ 190)) : pl_set g i q a = g a := by
  unfold pl_set
  rw [wm_u_ne _ _ _ (by omega), wm_u_ne _ _ _ (by omega), wm_u_ne _ _ _ (by omega), wm_u_ne _ _ _ (by omega)]
theorem pl_at (g : wm_Sg) (i : Nat) (q : Nat → Int32) : pl_set g i q 187 i = q 0 ∧ pl_set g i q 188 i = q 1 ∧ pl_set g i q 189 i = q 2 ∧ pl_set g i q 190 i = q 3 := by
  unfold pl_set
  simp only [wm_u_app]
  simp
theorem pl_at_ne (g : wm_Sg) {i k : Nat} (q : Nat → Int32) (h : k ≠ i) : pl_set g i q 187 k = g 187 k ∧ pl_set g i q 188 k = g 188 k ∧ pl_set g i q 189 k = g 189 k ∧ pl_set g i q 190 k = g 190 k := by
  unfold pl_set
  simp only [wm_u_app]
  simp [h]
def pl_other (g : wm_Sg) (i : Nat) (q : Nat → Int32) : Bool := !(decide (g 187 i = q 0) && (decide (g 188 i = q 1) && (decide (g 189 i = q 2) && decide (g 190 i = q 3))))
theorem pf_Mo_place {i : Nat} (hi : i < 24) {op : Int32} (h0 : ¬ op < 0) (h1 : op ≤ 12) (a b c : Int32) (g : wm_Sg) : mf_Mo_place 186 (nI i) op a b c g = some (b_i (pl_other g i (tl_nf op a b c)), pl_set g i (tl_nf op a b c)) := by
  have e0 : tl_nf op a b c 0 = op := rfl
  have e1 : tl_nf op a b c 1 = if tl_ua op = true then a else 0 := rfl
  have e2 : tl_nf op a b c 2 = if tl_ub op = true then b else 0 := rfl
  have e3 : tl_nf op a b c 3 = if tl_uc op = true then c else 0 := rfl
  have ci : (nI i).toNatClampNeg = i := nI_clamp (by omega)
  have k42 : ∀ x y z : Int32, mf_Mo_place_42 186 (nI i) op x y z g = some (b_i (!(decide (g 187 i = op) && (decide (g 188 i = x) && (decide (g 189 i = y) && decide (g 190 i = z))))), wm_u (wm_u (wm_u (wm_u g 187 i op) 188 i x) 189 i y) 190 i z) := by
    intro x y z
    have k92 : ∀ m : Bool, mf_Mo_place_92 186 (nI i) op x y z (b_i m) g = some (b_i m, wm_u (wm_u (wm_u (wm_u g 187 i op) 188 i x) 189 i y) 190 i z) := by
      intro m
      unfold mf_Mo_place_92
      rw [if_neg (mb_1 hi), if_neg (mb_2 hi), if_neg (mb_3 hi), if_neg (mb_4 hi), if_pos (b_i_z m), mr_1, mr_2, mr_3, mr_4, ci]
    have k0 : mf_Mo_place_92 186 (nI i) op x y z 0 g = some (0, wm_u (wm_u (wm_u (wm_u g 187 i op) 188 i x) 189 i y) 190 i z) := k92 false
    have k1 : mf_Mo_place_92 186 (nI i) op x y z 1 g = some (1, wm_u (wm_u (wm_u (wm_u g 187 i op) 188 i x) 189 i y) 190 i z) := k92 true
    unfold mf_Mo_place_42 mf_Mo_place_87
    rw [if_neg (mb_1 hi), if_neg (mb_2 hi), if_neg (mb_3 hi), if_neg (mb_4 hi), mr_1, mr_2, mr_3, mr_4, ci, k0, k1]
    by_cases c1 : g 187 i = op
    · rw [if_pos c1, decide_eq_true c1]
      by_cases c2 : g 188 i = x
      · rw [if_pos c2, decide_eq_true c2]
        by_cases c3 : g 189 i = y
        · rw [if_pos c3, decide_eq_true c3]
          by_cases c4 : g 190 i = z
          · rw [if_pos c4, decide_eq_true c4]; rfl
          · rw [if_neg c4, decide_eq_false c4]; rfl
        · rw [if_neg c3, decide_eq_false c3]; rfl
      · rw [if_neg c2, decide_eq_false c2]; rfl
    · rw [if_neg c1, decide_eq_false c1]; rfl
  unfold mf_Mo_place mf_Mo_place_12 mf_Mo_place_27 pl_other pl_set
  rw [e0, e1, e2, e3]
  simp only [pf_Mo_usesFirst, pf_Mo_usesSecond h0 h1, pf_Mo_usesThird h0 h1, Option.bind_some, k42]
  cases tl_ua op <;> cases tl_ub op <;> cases tl_uc op <;> rfl
/-! add -/
def ab_add (A : ab_T) (o a b c : Int32) : Int32 × ab_T := if tl_ok o a b c = true then (if A.1.1 = 24 then (-2, A) else (nI A.1.1, ((A.1.1 + 1, fun i => if i = A.1.1 then tl_nf o a b c else A.1.2 i), A.2))) else (-1, A)
theorem ab_add_ok {A : ab_T} (ok : ab_ok A) (o a b c : Int32) : ab_ok (ab_add A o a b c).2 := by
  unfold ab_add
  by_cases h : tl_ok o a b c = true
  · rw [if_pos h]
    by_cases e : A.1.1 = 24
    · rw [if_pos e]; exact ok
    · rw [if_neg e]
      have h1 := ok.1
      refine ⟨by show A.1.1 + 1 ≤ 24; omega, fun i hi => ?_, ok.2.2.1, ok.2.2.2⟩
      have hi : i < A.1.1 + 1 := hi
      show in_ok (if i = A.1.1 then _ else _)
      by_cases q : i = A.1.1
      · rw [if_pos q]; exact tl_in_ok h
      · rw [if_neg q]; exact ok.2.1 i (by omega)
  · rw [if_neg h]; exact ok
theorem cl_add {A : ab_T} (ok : ab_ok A) {g : wm_Sg} (h : cl_R A g) (o a b c : Int32) : ∃ g', mf_Ff_add 0 o a b c g = some ((ab_add A o a b c).1, g') ∧ cl_fr g g' ∧ cl_R (ab_add A o a b c).2 g' := by
  obtain ⟨k1, k2, k3, k4, -⟩ := ff_k
  obtain ⟨h1, h2, h3, h4⟩ := h
  have hn := ok.1
  unfold mf_Ff_add ab_add
  rw [pf_In_isTold, Option.bind_some]
  dsimp only
  cases ht : tl_ok o a b c with
  | false =>
    rw [if_pos (show b_i false = 0 from rfl), if_neg (show ¬ (false = true) by decide)]
    exact ⟨g, rfl, fun _ _ => rfl, h1, h2, h3, h4⟩
  | true =>
    rw [if_neg (show ¬ b_i true = 0 by decide), if_pos rfl, k1, k2, so_k.2.2.2.2.2.1, so_k.2.2.2.2.2.2.1]
    by_cases e : A.1.1 = 24
    · rw [if_pos (show g 1 1 = 24 by rw [h1.1, e]; rfl), if_pos e]
      exact ⟨g, rfl, fun _ _ => rfl, h1, h2, h3, h4⟩
    · have hlt : A.1.1 < 24 := by omega
      rw [if_neg (show ¬ g 1 1 = 24 by rw [h1.1]; exact fun z => e ((nI_eq (b := 24) (by omega) (by decide)).mp z)), if_neg e, if_neg (show ¬ (g 1 1 < 0 ∨ 24 ≤ (g 1 1).toNatClampNeg) by rw [h1.1]; exact in24 hlt), h1.1, nI_clamp (by omega), so_i, pf_In_become, Option.bind_some, nI_1]
      refine ⟨_, rfl, fun x hx => by rw [wm_u_ne _ _ _ (by omega), wm_u_ne _ _ _ (by omega), bc_ne _ _ (by omega)], ⟨?_, fun i hi j hj => ?_⟩, Or.inl (by rw [wm_u_app, if_pos ⟨rfl, rfl⟩]), ⟨?_, fun j hj => ?_⟩, ?_⟩
      · rw [wm_u_ne _ _ _ (by decide), wm_u_app, if_pos ⟨rfl, rfl⟩]
      · have hi : i < A.1.1 + 1 := hi
        rw [wm_u_ne _ _ _ (by omega), wm_u_ne _ _ _ (by omega)]
        show bc_set g (4 + A.1.1) (tl_nf o a b c) (4 + i) j = (if i = A.1.1 then tl_nf o a b c else A.1.2 i) j
        by_cases q : i = A.1.1
        · rw [if_pos q, q]; exact bc_at g _ _ hj
        · rw [if_neg q, bc_ne _ _ (by omega)]; exact h1.2 i (by omega) j hj
      · rw [wm_u_ne _ _ _ (by decide), wm_u_ne _ _ _ (by decide), bc_ne _ _ (by omega)]; exact h3.1
      · rw [wm_u_ne _ _ _ (by decide), wm_u_ne _ _ _ (by decide), bc_ne _ _ (by omega)]; exact h3.2 j hj
      · unfold cl_mac
        rw [wm_u_ne _ _ _ (show (183 : Nat) ≠ 28 by decide), wm_u_ne _ _ _ (show (183 : Nat) ≠ 1 by decide), bc_ne _ _ (show (183 : Nat) ≠ 4 + A.1.1 by omega), wm_u_ne _ _ _ (show (184 : Nat) ≠ 28 by decide), wm_u_ne _ _ _ (show (184 : Nat) ≠ 1 by decide), bc_ne _ _ (show (184 : Nat) ≠ 4 + A.1.1 by omega), wm_u_ne _ _ _ (show (185 : Nat) ≠ 28 by decide), wm_u_ne _ _ _ (show (185 : Nat) ≠ 1 by decide), bc_ne _ _ (show (185 : Nat) ≠ 4 + A.1.1 by omega)]
        exact h4
theorem md_add {A : ab_T} (ok : ab_ok A) {g : wm_Sg} (h : md_R A g) (o a b c : Int32) : ∃ g', mf_Mo_add 186 o a b c g = some ((ab_add A o a b c).1, g') ∧ md_fr g g' ∧ md_R (ab_add A o a b c).2 g' := by
  obtain ⟨h1, h2, h3, h4⟩ := h
  have hn := ok.1
  unfold mf_Mo_add ab_add
  rw [pf_Mo_wrong, Option.bind_some]
  dsimp only
  cases ht : tl_ok o a b c with
  | false =>
    rw [if_neg (show ¬ b_i (!false) = 0 by decide), if_neg (show ¬ (false = true) by decide)]
    exact ⟨g, rfl, fun _ _ => rfl, h1, h2, h3, h4⟩
  | true =>
    obtain ⟨r1, r2⟩ := tl_rng ht
    rw [if_pos (show b_i (!true) = 0 from rfl), if_pos rfl]
    by_cases e : A.1.1 = 24
    · rw [if_pos (show g 186 0 = 24 by rw [h1.1, e]; rfl), if_pos e]
      exact ⟨g, rfl, fun _ _ => rfl, h1, h2, h3, h4⟩
    · have hlt : A.1.1 < 24 := by omega
      rw [if_neg (show ¬ g 186 0 = 24 by rw [h1.1]; exact fun z => e ((nI_eq (b := 24) (by omega) (by decide)).mp z)), if_neg e, h1.1, pf_Mo_place hlt r1 r2, Option.bind_some]
      dsimp only
      have e0 : wm_u (pl_set g A.1.1 (tl_nf o a b c)) 186 5 0 186 0 = nI A.1.1 := by rw [wm_u_app, if_neg (by decide), pl_ne _ _ _ (by omega)]; exact h1.1
      rw [e0, nI_1]
      have e1 : wm_u (wm_u (pl_set g A.1.1 (tl_nf o a b c)) 186 5 0) 186 0 (nI (A.1.1 + 1)) 186 0 - 1 = nI A.1.1 := by rw [wm_u_app, if_pos ⟨rfl, rfl⟩, nI_pred]
      rw [e1]
      have hf : ∀ j, j ≠ 0 → j ≠ 5 → wm_u (wm_u (pl_set g A.1.1 (tl_nf o a b c)) 186 5 0) 186 0 (nI (A.1.1 + 1)) 186 j = g 186 j := fun j j0 j5 => by rw [wm_u_app, if_neg (fun z => j0 z.2), wm_u_app, if_neg (fun z => j5 z.2), pl_ne _ _ _ (by omega)]
      have hc : ∀ x, x ≠ 186 → wm_u (wm_u (pl_set g A.1.1 (tl_nf o a b c)) 186 5 0) 186 0 (nI (A.1.1 + 1)) x = pl_set g A.1.1 (tl_nf o a b c) x := fun x hx => by rw [wm_u_ne _ _ _ hx, wm_u_ne _ _ _ hx]
      refine ⟨_, rfl, fun x hx => by rw [hc x (by omega), pl_ne _ _ _ (by omega)], ⟨by rw [wm_u_app, if_pos ⟨rfl, rfl⟩], fun i hi => ?_⟩, ⟨Or.inl (by rw [wm_u_app, if_neg (by decide), wm_u_app, if_pos ⟨rfl, rfl⟩]), by rw [hf 10 (by decide) (by decide)]; exact h2.2⟩, ⟨by rw [hf 17 (by decide) (by decide)]; exact h3.1, fun j hj => by rw [hc 198 (by decide), pl_ne _ _ _ (by omega)]; exact h3.2 j hj⟩, ?_⟩
      · have hi : i < A.1.1 + 1 := hi
        rw [hc 187 (by decide), hc 188 (by decide), hc 189 (by decide), hc 190 (by decide)]
        show _ = (if i = A.1.1 then tl_nf o a b c else A.1.2 i) 0 ∧ _ = (if i = A.1.1 then tl_nf o a b c else A.1.2 i) 1 ∧ _ = (if i = A.1.1 then tl_nf o a b c else A.1.2 i) 2 ∧ _ = (if i = A.1.1 then tl_nf o a b c else A.1.2 i) 3
        by_cases q : i = A.1.1
        · rw [if_pos q, q]; exact pl_at g _ _
        · rw [if_neg q]
          obtain ⟨z1, z2, z3, z4⟩ := pl_at_ne g (tl_nf o a b c) q
          rw [z1, z2, z3, z4]; exact h1.2 i (by omega)
      · unfold md_mac
        rw [hf 22 (by decide) (by decide), hf 19 (by decide) (by decide), hf 20 (by decide) (by decide), hc 199 (by decide), hc 200 (by decide), pl_ne _ _ _ (by omega), pl_ne _ _ _ (by omega)]
        exact h4
/-! put -/
theorem hs_of {n : Nat} (hn : n ≤ 24) (x : Int32) : x < 0 ∨ nI n ≤ x ∨ ∃ i, i < n ∧ x = nI i := pk_ix x (by omega)
def hs_b (n : Nat) (x : Int32) : Bool := !(decide (x < 0)) && !(decide (nI n ≤ x))
theorem pf_Pr_has' {n : Nat} {g : wm_Sg} (x : Int32) (h : g 1 1 = nI n) : mf_Pr_has 1 x g = some (b_i (hs_b n x), g) := by
  unfold mf_Pr_has mf_Pr_has_16 mf_Pr_has_17 hs_b
  by_cases h1 : x < 0
  · rw [if_pos h1, decide_eq_true h1]; rfl
  · rw [if_neg h1, decide_eq_false h1]
    by_cases h2 : nI n ≤ x
    · rw [if_pos (show g 1 1 ≤ x by rw [h]; exact h2), decide_eq_true h2]; rfl
    · rw [if_neg (show ¬ g 1 1 ≤ x by rw [h]; exact h2), decide_eq_false h2]; rfl
theorem pf_Mo_none {n : Nat} {g : wm_Sg} (x : Int32) (h : g 186 0 = nI n) : mf_Mo_none 186 x g = some (b_i (!(hs_b n x)), g) := by
  unfold mf_Mo_none mf_Mo_none_12 mf_Mo_none_17 hs_b
  by_cases h1 : x < 0
  · rw [if_pos h1, decide_eq_true h1]; rfl
  · rw [if_neg h1, decide_eq_false h1]
    by_cases h2 : nI n ≤ x
    · rw [if_neg (show ¬ x < g 186 0 by rw [h]; exact Int32.not_lt.mpr h2), decide_eq_true h2]; rfl
    · rw [if_pos (show x < g 186 0 by rw [h]; exact Int32.not_le.mp h2), decide_eq_false h2]; rfl
theorem hs_t {n : Nat} (hn : n ≤ 24) {x : Int32} (h : hs_b n x = true) : ∃ i, i < n ∧ x = nI i := by
  unfold hs_b at h
  simp only [Bool.and_eq_true, Bool.not_eq_true', decide_eq_false_iff_not] at h
  rcases hs_of hn x with z | z | z
  · exact absurd z h.1
  · exact absurd z h.2
  · exact z
def ab_put (A : ab_T) (x o a b c : Int32) : Int32 × ab_T := if hs_b A.1.1 x = true ∧ tl_ok o a b c = true then (1, ((A.1.1, fun i => if i = x.toNatClampNeg then tl_nf o a b c else A.1.2 i), A.2)) else (0, A)
theorem ab_put_ok {A : ab_T} (ok : ab_ok A) (x o a b c : Int32) : ab_ok (ab_put A x o a b c).2 := by
  unfold ab_put
  by_cases h : hs_b A.1.1 x = true ∧ tl_ok o a b c = true
  · rw [if_pos h]
    refine ⟨ok.1, fun i hi => ?_, ok.2.2.1, ok.2.2.2⟩
    show in_ok (if i = x.toNatClampNeg then _ else _)
    by_cases q : i = x.toNatClampNeg
    · rw [if_pos q]; exact tl_in_ok h.2
    · rw [if_neg q]; exact ok.2.1 i hi
  · rw [if_neg h]; exact ok
theorem cl_put {A : ab_T} (ok : ab_ok A) {g : wm_Sg} (h : cl_R A g) (x o a b c : Int32) : ∃ g', mf_Ff_put 0 x o a b c g = some ((ab_put A x o a b c).1, g') ∧ cl_fr g g' ∧ cl_R (ab_put A x o a b c).2 g' := by
  obtain ⟨k1, k2, k3, k4, -⟩ := ff_k
  obtain ⟨h1, h2, h3, h4⟩ := h
  have hn := ok.1
  unfold mf_Ff_put mf_Ff_put_23 ab_put
  rw [k1, k2, so_k.2.2.2.2.2.1, so_k.2.2.2.2.2.2.1, pf_Pr_has' x h1.1, Option.bind_some]
  dsimp only
  rw [pf_In_isTold, Option.bind_some]
  dsimp only
  cases hx : hs_b A.1.1 x with
  | false =>
    rw [if_pos (show b_i false = 0 from rfl), if_neg (show ¬ (false = true ∧ tl_ok o a b c = true) from fun z => by cases z.1)]
    exact ⟨g, rfl, fun _ _ => rfl, h1, h2, h3, h4⟩
  | true =>
    rw [if_neg (show ¬ b_i true = 0 by decide)]
    cases ht : tl_ok o a b c with
    | false =>
      rw [if_pos (show b_i false = 0 from rfl), if_neg (show ¬ (true = true ∧ false = true) from fun z => by cases z.2)]
      exact ⟨g, rfl, fun _ _ => rfl, h1, h2, h3, h4⟩
    | true =>
      obtain ⟨k, hk, rfl⟩ := hs_t hn hx
      have k24 : k < 24 := by omega
      rw [if_neg (show ¬ b_i true = 0 by decide), if_pos (show true = true ∧ true = true from ⟨rfl, rfl⟩), if_neg (in24 k24), nI_clamp (by omega), so_i, pf_In_become, Option.bind_some]
      refine ⟨_, rfl, fun y hy => by rw [wm_u_ne _ _ _ (by omega), bc_ne _ _ (by omega)], ⟨?_, fun i hi j hj => ?_⟩, Or.inl (by rw [wm_u_app, if_pos ⟨rfl, rfl⟩]), ⟨?_, fun j hj => ?_⟩, ?_⟩
      · rw [wm_u_ne _ _ _ (by decide), bc_ne _ _ (by omega)]; exact h1.1
      · have hi : i < A.1.1 := hi
        rw [wm_u_ne _ _ _ (by omega)]
        show bc_set g (4 + k) (tl_nf o a b c) (4 + i) j = (if i = k then tl_nf o a b c else A.1.2 i) j
        by_cases q : i = k
        · rw [if_pos q, q]; exact bc_at g _ _ hj
        · rw [if_neg q, bc_ne _ _ (by omega)]; exact h1.2 i hi j hj
      · rw [wm_u_ne _ _ _ (by decide), bc_ne _ _ (by omega)]; exact h3.1
      · rw [wm_u_ne _ _ _ (by decide), bc_ne _ _ (by omega)]; exact h3.2 j hj
      · unfold cl_mac
        rw [wm_u_ne _ _ _ (show (183 : Nat) ≠ 28 by decide), bc_ne _ _ (show (183 : Nat) ≠ 4 + k by omega), wm_u_ne _ _ _ (show (184 : Nat) ≠ 28 by decide), bc_ne _ _ (show (184 : Nat) ≠ 4 + k by omega), wm_u_ne _ _ _ (show (185 : Nat) ≠ 28 by decide), bc_ne _ _ (show (185 : Nat) ≠ 4 + k by omega)]
        exact h4
theorem md_put {A : ab_T} (ok : ab_ok A) {g : wm_Sg} (h : md_R A g) (x o a b c : Int32) : ∃ g', mf_Mo_put 186 x o a b c g = some ((ab_put A x o a b c).1, g') ∧ md_fr g g' ∧ md_R (ab_put A x o a b c).2 g' := by
  obtain ⟨h1, h2, h3, h4⟩ := h
  have hn := ok.1
  unfold mf_Mo_put mf_Mo_put_20 ab_put
  rw [pf_Mo_none x h1.1, Option.bind_some]
  dsimp only
  rw [pf_Mo_wrong, Option.bind_some]
  dsimp only
  cases hx : hs_b A.1.1 x with
  | false =>
    rw [if_neg (show ¬ b_i (!false) = 0 by decide), if_neg (show ¬ (false = true ∧ tl_ok o a b c = true) from fun z => by cases z.1)]
    exact ⟨g, rfl, fun _ _ => rfl, h1, h2, h3, h4⟩
  | true =>
    rw [if_pos (show b_i (!true) = 0 from rfl)]
    cases ht : tl_ok o a b c with
    | false =>
      rw [if_neg (show ¬ b_i (!false) = 0 by decide), if_neg (show ¬ (true = true ∧ false = true) from fun z => by cases z.2)]
      exact ⟨g, rfl, fun _ _ => rfl, h1, h2, h3, h4⟩
    | true =>
      obtain ⟨r1, r2⟩ := tl_rng ht
      obtain ⟨k, hk, rfl⟩ := hs_t hn hx
      have k24 : k < 24 := by omega
      rw [if_pos (show b_i (!true) = 0 from rfl), if_pos (show true = true ∧ true = true from ⟨rfl, rfl⟩), pf_Mo_place k24 r1 r2, Option.bind_some, nI_clamp (by omega)]
      have hf : ∀ j, j ≠ 5 → wm_u (pl_set g k (tl_nf o a b c)) 186 5 0 186 j = g 186 j := fun j j5 => by rw [wm_u_app, if_neg (fun z => j5 z.2), pl_ne _ _ _ (by omega)]
      have hc : ∀ y, y ≠ 186 → wm_u (pl_set g k (tl_nf o a b c)) 186 5 0 y = pl_set g k (tl_nf o a b c) y := fun y hy => wm_u_ne _ _ _ hy
      refine ⟨_, rfl, fun y hy => by rw [hc y (by omega), pl_ne _ _ _ (by omega)], ⟨by rw [hf 0 (by decide)]; exact h1.1, fun i hi => ?_⟩, ⟨Or.inl (by rw [wm_u_app, if_pos ⟨rfl, rfl⟩]), by rw [hf 10 (by decide)]; exact h2.2⟩, ⟨by rw [hf 17 (by decide)]; exact h3.1, fun j hj => by rw [hc 198 (by decide), pl_ne _ _ _ (by omega)]; exact h3.2 j hj⟩, ?_⟩
      · have hi : i < A.1.1 := hi
        rw [hc 187 (by decide), hc 188 (by decide), hc 189 (by decide), hc 190 (by decide)]
        show _ = (if i = k then tl_nf o a b c else A.1.2 i) 0 ∧ _ = (if i = k then tl_nf o a b c else A.1.2 i) 1 ∧ _ = (if i = k then tl_nf o a b c else A.1.2 i) 2 ∧ _ = (if i = k then tl_nf o a b c else A.1.2 i) 3
        by_cases q : i = k
        · rw [if_pos q, q]; exact pl_at g _ _
        · rw [if_neg q]
          obtain ⟨z1, z2, z3, z4⟩ := pl_at_ne g (tl_nf o a b c) q
          rw [z1, z2, z3, z4]; exact h1.2 i hi
      · unfold md_mac
        rw [hf 22 (by decide), hf 19 (by decide), hf 20 (by decide), hc 199 (by decide), hc 200 (by decide), pl_ne _ _ _ (by omega), pl_ne _ _ _ (by omega)]
        exact h4
/-! clear, length, code -/
def ab_clear (A : ab_T) : ab_T := ((0, A.1.2), A.2)
theorem ab_clear_ok {A : ab_T} (ok : ab_ok A) : ab_ok (ab_clear A) := ⟨Nat.zero_le _, fun i hi => absurd hi (Nat.not_lt_zero _), ok.2.2.1, ok.2.2.2⟩
theorem cl_clear {A : ab_T} {g : wm_Sg} (h : cl_R A g) : ∃ g', mf_Ff_clear 0 g = some g' ∧ cl_fr g g' ∧ cl_R (ab_clear A) g' := by
  obtain ⟨k1, k2, k3, k4, -⟩ := ff_k
  obtain ⟨h1, h2, h3, h4⟩ := h
  unfold mf_Ff_clear
  rw [k1, k2]
  refine ⟨_, rfl, fun y hy => by rw [wm_u_ne _ _ _ (by omega), wm_u_ne _ _ _ (by omega)], ⟨by rw [wm_u_ne _ _ _ (by decide), wm_u_app, if_pos ⟨rfl, rfl⟩]; rfl, fun i hi => absurd hi (Nat.not_lt_zero _)⟩, Or.inl (by rw [wm_u_app, if_pos ⟨rfl, rfl⟩]), ⟨by rw [wm_u_ne _ _ _ (by decide), wm_u_ne _ _ _ (by decide)]; exact h3.1, fun j hj => by rw [wm_u_ne _ _ _ (by decide), wm_u_ne _ _ _ (by decide)]; exact h3.2 j hj⟩, ?_⟩
  unfold cl_mac
  rw [wm_u_ne _ _ _ (show (183 : Nat) ≠ 28 by decide), wm_u_ne _ _ _ (show (183 : Nat) ≠ 1 by decide), wm_u_ne _ _ _ (show (184 : Nat) ≠ 28 by decide), wm_u_ne _ _ _ (show (184 : Nat) ≠ 1 by decide), wm_u_ne _ _ _ (show (185 : Nat) ≠ 28 by decide), wm_u_ne _ _ _ (show (185 : Nat) ≠ 1 by decide)]
  exact h4
theorem md_clear {A : ab_T} {g : wm_Sg} (h : md_R A g) : ∃ g', mf_Mo_clear 186 g = some g' ∧ md_fr g g' ∧ md_R (ab_clear A) g' := by
  obtain ⟨h1, h2, h3, h4⟩ := h
  unfold mf_Mo_clear
  have hf : ∀ j, j ≠ 0 → j ≠ 5 → wm_u (wm_u g 186 0 0) 186 5 0 186 j = g 186 j := fun j j0 j5 => by rw [wm_u_app, if_neg (fun z => j5 z.2), wm_u_app, if_neg (fun z => j0 z.2)]
  have hc : ∀ y, y ≠ 186 → wm_u (wm_u g 186 0 0) 186 5 0 y = g y := fun y hy => by rw [wm_u_ne _ _ _ hy, wm_u_ne _ _ _ hy]
  refine ⟨_, rfl, fun y hy => hc y (by omega), ⟨by rw [wm_u_app, if_neg (by decide), wm_u_app, if_pos ⟨rfl, rfl⟩]; rfl, fun i hi => absurd hi (Nat.not_lt_zero _)⟩, ⟨Or.inl (by rw [wm_u_app, if_pos ⟨rfl, rfl⟩]), by rw [hf 10 (by decide) (by decide)]; exact h2.2⟩, ⟨by rw [hf 17 (by decide) (by decide)]; exact h3.1, fun j hj => by rw [hc 198 (by decide)]; exact h3.2 j hj⟩, ?_⟩
  unfold md_mac
  rw [hf 22 (by decide) (by decide), hf 19 (by decide) (by decide), hf 20 (by decide) (by decide), hc 199 (by decide), hc 200 (by decide)]
  exact h4
theorem cl_length {A : ab_T} {g : wm_Sg} (h : cl_R A g) : mf_Ff_length 0 g = some (nI A.1.1, g) := by
  unfold mf_Ff_length
  rw [ff_k.1, h.1.1]
theorem md_length {A : ab_T} {g : wm_Sg} (h : md_R A g) : mf_Mo_length 186 g = some (nI A.1.1, g) := by
  unfold mf_Mo_length
  rw [h.1.1]
def ab_code (A : ab_T) (x y : Int32) : Int32 := if hs_b A.1.1 x = true then (if y = 0 then A.1.2 x.toNatClampNeg 0 else if y = 1 then A.1.2 x.toNatClampNeg 1 else if y = 2 then A.1.2 x.toNatClampNeg 2 else if y = 3 then A.1.2 x.toNatClampNeg 3 else -1) else -1
theorem cl_code {A : ab_T} (ok : ab_ok A) {g : wm_Sg} (h : cl_R A g) (x y : Int32) : mf_Ff_code 0 x y g = some (ab_code A x y, g) := by
  have hn := ok.1
  unfold mf_Ff_code mf_Ff_code_28 ab_code
  rw [ff_k.1, so_k.2.2.2.2.2.1, so_k.2.2.2.2.2.2.1, pf_Pr_has' x h.1.1, Option.bind_some]
  dsimp only
  cases hx : hs_b A.1.1 x with
  | false => rfl
  | true =>
    obtain ⟨k, hk, rfl⟩ := hs_t hn hx
    rw [if_neg (show ¬ b_i true = 0 by decide), if_pos rfl, if_neg (in24 (by omega)), nI_clamp (by omega), so_i]
    unfold mf_In_partOf
    rw [h.1.2 k hk 0 (by decide), h.1.2 k hk 1 (by decide), h.1.2 k hk 2 (by decide), h.1.2 k hk 3 (by decide)]
    by_cases c0 : y = 0
    · rw [if_pos c0, if_pos c0]; rfl
    · rw [if_neg c0, if_neg c0]
      by_cases c1 : y = 1
      · rw [if_pos c1, if_pos c1]; rfl
      · rw [if_neg c1, if_neg c1]
        by_cases c2 : y = 2
        · rw [if_pos c2, if_pos c2]; rfl
        · rw [if_neg c2, if_neg c2]
          by_cases c3 : y = 3
          · rw [if_pos c3, if_pos c3]; rfl
          · rw [if_neg c3, if_neg c3]; rfl
theorem md_code {A : ab_T} (ok : ab_ok A) {g : wm_Sg} (h : md_R A g) (x y : Int32) : mf_Mo_code 186 x y g = some (ab_code A x y, g) := by
  have hn := ok.1
  unfold mf_Mo_code mf_Mo_code_17 mf_Mo_code_66 ab_code
  rw [pf_Mo_none x h.1.1, Option.bind_some]
  dsimp only
  cases hx : hs_b A.1.1 x with
  | false => rfl
  | true =>
    obtain ⟨k, hk, rfl⟩ := hs_t hn hx
    have k24 : k < 24 := by omega
    obtain ⟨q0, q1, q2, q3⟩ := h.1.2 k hk
    rw [if_pos (show b_i (!true) = 0 from rfl), if_pos rfl, if_neg (mb_1 k24), if_neg (mb_2 k24), if_neg (mb_3 k24), if_neg (mb_4 k24), mr_1, mr_2, mr_3, mr_4, nI_clamp (by omega), q0, q1, q2, q3]
    by_cases c0 : y = 0
    · rw [if_pos c0, if_pos c0, c0]; rfl
    · rw [if_neg c0, if_neg c0]
      by_cases c1 : y = 1
      · rw [if_pos c1, if_pos c1, c1]; rfl
      · rw [if_neg c1, if_neg c1]
        by_cases c2 : y = 2
        · rw [if_pos c2, if_pos c2, c2]; rfl
        · rw [if_neg c2, if_neg c2]
          by_cases c3 : y = 3
          · rw [if_pos c3, c3]; rfl
          · rw [if_neg c3]
            by_cases d0 : y < 0
            · rw [if_pos d0]
            · rw [if_neg d0]
              by_cases d1 : y ≤ 3
              · obtain ⟨j, hj, e⟩ := nI_of2 (x := y) (M := 3) (n := 3) (by decide) d0 d1
                exfalso
                rcases (show j = 0 ∨ j = 1 ∨ j = 2 ∨ j = 3 by omega) with rfl | rfl | rfl | rfl
                · exact c0 e
                · exact c1 e
                · exact c2 e
                · exact c3 e
              · rw [if_neg d1]
/-! input, dry, and what the latest run told -/
def ab_input (A : ab_T) (x : Int32) : Int32 × ab_T := if A.2.1.1 = 16 then (0, A) else (1, (A.1, (A.2.1.1 + 1, fun j => if j = A.2.1.1 then x else A.2.1.2 j), A.2.2))
theorem ab_input_ok {A : ab_T} (ok : ab_ok A) (x : Int32) : ab_ok (ab_input A x).2 := by
  unfold ab_input
  by_cases e : A.2.1.1 = 16
  · rw [if_pos e]; exact ok
  · rw [if_neg e]
    have := ok.2.2.1
    exact ⟨ok.1, ok.2.1, by show A.2.1.1 + 1 ≤ 16; omega, ok.2.2.2⟩
theorem cl_input {A : ab_T} (ok : ab_ok A) {g : wm_Sg} (h : cl_R A g) (x : Int32) : ∃ g', mf_Ff_input 0 x g = some ((ab_input A x).1, g') ∧ cl_fr g g' ∧ cl_R (ab_input A x).2 g' := by
  obtain ⟨k1, k2, k3, k4, k5, k6, -⟩ := ff_k
  obtain ⟨h1, h2, h3, h4⟩ := h
  have hc := ok.2.2.1
  unfold mf_Ff_input mf_Ip_take ab_input
  rw [k3, k5, k6]
  by_cases e : A.2.1.1 = 16
  · rw [if_pos (show g 181 1 = 16 by rw [h3.1, e]; rfl), if_pos e, Option.bind_some, if_pos (Or.inl rfl)]
    exact ⟨g, rfl, fun _ _ => rfl, h1, h2, h3, h4⟩
  · rw [if_neg (show ¬ g 181 1 = 16 by rw [h3.1]; exact fun z => e ((nI_eq (b := 16) (by omega) (by decide)).mp z)), if_neg e, if_neg (show ¬ (g 181 1 < 0 ∨ 16 ≤ (g 181 1).toNatClampNeg) by rw [h3.1]; exact nI_in (by omega) (by decide)), Option.bind_some, if_pos (Or.inr rfl), h3.1, nI_clamp (by omega), wm_u_ne _ _ _ (show (181 : Nat) ≠ 182 by decide), h3.1, nI_1]
    have hx : ∀ y, y ≠ 181 → y ≠ 182 → wm_u (wm_u g 182 A.2.1.1 x) 181 1 (nI (A.2.1.1 + 1)) y = g y := fun y y1 y2 => by rw [wm_u_ne _ _ _ y1, wm_u_ne _ _ _ y2]
    refine ⟨wm_u (wm_u g 182 A.2.1.1 x) 181 1 (nI (A.2.1.1 + 1)), rfl, fun y hy => hx y (by omega) (by omega), ⟨by rw [hx 1 (by decide) (by decide)]; exact h1.1, fun i hi j hj => by rw [hx (4 + i) (by have : i < A.1.1 := hi; have := ok.1; omega) (by have : i < A.1.1 := hi; have := ok.1; omega)]; exact h1.2 i hi j hj⟩, cl_sol_c ok.1 (by rw [hx 28 (by decide) (by decide)]) (hx 30 (by decide) (by decide)) (fun y _ _ => hx y (by omega) (by omega)) h2, ⟨by rw [wm_u_app, if_pos ⟨rfl, rfl⟩], fun j hj => ?_⟩, ?_⟩
    · have hj : j < A.2.1.1 + 1 := hj
      rw [wm_u_ne _ _ _ (show (182 : Nat) ≠ 181 by decide), wm_u_app]
      show _ = if j = A.2.1.1 then x else A.2.1.2 j
      by_cases q : j = A.2.1.1
      · rw [if_pos ⟨rfl, q⟩, if_pos q]
      · rw [if_neg (fun z => q z.2), if_neg q]; exact h3.2 j (by omega)
    · unfold cl_mac
      rw [hx 183 (by decide) (by decide), hx 184 (by decide) (by decide), hx 185 (by decide) (by decide)]; exact h4
theorem md_input {A : ab_T} (ok : ab_ok A) {g : wm_Sg} (h : md_R A g) (x : Int32) : ∃ g', mf_Mo_input 186 x g = some ((ab_input A x).1, g') ∧ md_fr g g' ∧ md_R (ab_input A x).2 g' := by
  obtain ⟨h1, h2, h3, h4⟩ := h
  have hc := ok.2.2.1
  unfold mf_Mo_input ab_input
  by_cases e : A.2.1.1 = 16
  · rw [if_pos (show g 186 17 = 16 by rw [h3.1, e]; rfl), if_pos e]
    exact ⟨g, rfl, fun _ _ => rfl, h1, h2, h3, h4⟩
  · rw [if_neg (show ¬ g 186 17 = 16 by rw [h3.1]; exact fun z => e ((nI_eq (b := 16) (by omega) (by decide)).mp z)), if_neg e, if_neg (show ¬ (g 186 17 < 0 ∨ sh_n (sh_r 186 18) ≤ (g 186 17).toNatClampNeg) by rw [h3.1]; exact mb_18 (by omega)), mr_18, h3.1, nI_clamp (by omega), wm_u_ne _ _ _ (show (186 : Nat) ≠ 198 by decide), h3.1, nI_1]
    have hx : ∀ y, y ≠ 186 → y ≠ 198 → wm_u (wm_u g 198 A.2.1.1 x) 186 17 (nI (A.2.1.1 + 1)) y = g y := fun y y1 y2 => by rw [wm_u_ne _ _ _ y1, wm_u_ne _ _ _ y2]
    have hf : ∀ j, j ≠ 17 → wm_u (wm_u g 198 A.2.1.1 x) 186 17 (nI (A.2.1.1 + 1)) 186 j = g 186 j := fun j hj => by rw [wm_u_app, if_neg (fun z => hj z.2), wm_u_ne _ _ _ (by decide)]
    refine ⟨_, rfl, fun y hy => hx y (by omega) (by omega), ⟨by rw [hf 0 (by decide)]; exact h1.1, fun i hi => by rw [hx 187 (by decide) (by decide), hx 188 (by decide) (by decide), hx 189 (by decide) (by decide), hx 190 (by decide) (by decide)]; exact h1.2 i hi⟩, ?_, ⟨by rw [wm_u_app, if_pos ⟨rfl, rfl⟩], fun j hj => ?_⟩, ?_⟩
    · unfold md_sol
      rw [hf 5 (by decide), hf 10 (by decide)]
      refine ⟨?_, h2.2⟩
      rcases h2.1 with z | ⟨z, hR⟩
      · exact Or.inl z
      · refine Or.inr ⟨z, fun i hi => ?_⟩
        have : ∀ q, ms_at (wm_u (wm_u g 198 A.2.1.1 x) 186 17 (nI (A.2.1.1 + 1))) q = ms_at g q := fun q => by unfold ms_at; rw [hx 192 (by decide) (by decide), hx 193 (by decide) (by decide), hx 194 (by decide) (by decide)]
        exact ⟨by rw [hx 191 (by decide) (by decide)]; exact (hR i hi).1, fun l v hv => by rw [this]; exact (hR i hi).2 l v hv⟩
    · have hj : j < A.2.1.1 + 1 := hj
      rw [wm_u_ne _ _ _ (show (198 : Nat) ≠ 186 by decide), wm_u_app]
      show _ = if j = A.2.1.1 then x else A.2.1.2 j
      by_cases q : j = A.2.1.1
      · rw [if_pos ⟨rfl, q⟩, if_pos q]
      · rw [if_neg (fun z => q z.2), if_neg q]; exact h3.2 j (by omega)
    · unfold md_mac
      rw [hf 22 (by decide), hf 19 (by decide), hf 20 (by decide), hx 199 (by decide) (by decide), hx 200 (by decide) (by decide)]; exact h4
def ab_dry (A : ab_T) : ab_T := (A.1, (0, A.2.1.2), A.2.2)
theorem ab_dry_ok {A : ab_T} (ok : ab_ok A) : ab_ok (ab_dry A) := ⟨ok.1, ok.2.1, Nat.zero_le _, ok.2.2.2⟩
theorem cl_dry {A : ab_T} (ok : ab_ok A) {g : wm_Sg} (h : cl_R A g) : ∃ g', mf_Ff_dry 0 g = some g' ∧ cl_fr g g' ∧ cl_R (ab_dry A) g' := by
  obtain ⟨h1, h2, h3, h4⟩ := h
  unfold mf_Ff_dry
  rw [ff_k.2.2.1]
  have hx : ∀ y, y ≠ 181 → wm_u g 181 1 0 y = g y := fun y y1 => wm_u_ne _ _ _ y1
  refine ⟨wm_u g 181 1 0, rfl, fun y hy => hx y (by omega), ⟨by rw [hx 1 (by decide)]; exact h1.1, fun i hi j hj => by rw [hx (4 + i) (by have : i < A.1.1 := hi; have := ok.1; omega)]; exact h1.2 i hi j hj⟩, cl_sol_c ok.1 (by rw [hx 28 (by decide)]) (hx 30 (by decide)) (fun y _ _ => hx y (by omega)) h2, ⟨by rw [wm_u_app, if_pos ⟨rfl, rfl⟩]; rfl, fun j hj => absurd hj (Nat.not_lt_zero _)⟩, ?_⟩
  unfold cl_mac
  rw [hx 183 (by decide), hx 184 (by decide), hx 185 (by decide)]; exact h4
theorem md_sol_c {n : Nat} {p : Nat → Nat → Int32} {g g' : wm_Sg} (h5 : g' 186 5 = g 186 5) (h10 : g' 186 10 = g 186 10) (hs : ∀ a, 191 ≤ a → a ≤ 194 → g' a = g a) (h : md_sol n p g) : md_sol n p g' := by
  unfold md_sol
  rw [h5, h10]
  refine ⟨?_, h.2⟩
  rcases h.1 with z | ⟨z, hR⟩
  · exact Or.inl z
  · refine Or.inr ⟨z, fun i hi => ?_⟩
    have : ∀ q, ms_at g' q = ms_at g q := fun q => by unfold ms_at; rw [hs 192 (by decide) (by decide), hs 193 (by decide) (by decide), hs 194 (by decide) (by decide)]
    exact ⟨by rw [hs 191 (by decide) (by decide)]; exact (hR i hi).1, fun l v hv => by rw [this]; exact (hR i hi).2 l v hv⟩
theorem md_dry {A : ab_T} {g : wm_Sg} (h : md_R A g) : ∃ g', mf_Mo_dry 186 g = some g' ∧ md_fr g g' ∧ md_R (ab_dry A) g' := by
  obtain ⟨h1, h2, h3, h4⟩ := h
  unfold mf_Mo_dry
  have hx : ∀ y, y ≠ 186 → wm_u g 186 17 0 y = g y := fun y y1 => wm_u_ne _ _ _ y1
  have hf : ∀ j, j ≠ 17 → wm_u g 186 17 0 186 j = g 186 j := fun j hj => by rw [wm_u_app, if_neg (fun z => hj z.2)]
  refine ⟨wm_u g 186 17 0, rfl, fun y hy => hx y (by omega), ⟨by rw [hf 0 (by decide)]; exact h1.1, fun i hi => by rw [hx 187 (by decide), hx 188 (by decide), hx 189 (by decide), hx 190 (by decide)]; exact h1.2 i hi⟩, md_sol_c (hf 5 (by decide)) (hf 10 (by decide)) (fun a a1 _ => hx a (by omega)) h2, ⟨by rw [wm_u_app, if_pos ⟨rfl, rfl⟩]; rfl, fun j hj => absurd hj (Nat.not_lt_zero _)⟩, ?_⟩
  unfold md_mac
  rw [hf 22 (by decide), hf 19 (by decide), hf 20 (by decide), hx 199 (by decide), hx 200 (by decide)]; exact h4
theorem cl_steps {A : ab_T} {g : wm_Sg} (h : cl_R A g) : mf_Ff_steps 0 g = some (A.2.2.2.1, g) := by
  unfold mf_Ff_steps
  rw [ff_k.2.2.2.1, h.2.2.2.2.1]
theorem md_steps {A : ab_T} {g : wm_Sg} (h : md_R A g) : mf_Mo_steps 186 g = some (A.2.2.2.1, g) := by
  unfold mf_Mo_steps
  rw [h.2.2.2.2.1]
theorem cl_next {A : ab_T} {g : wm_Sg} (h : cl_R A g) : mf_Ff_next 0 g = some (A.2.2.2.2.1, g) := by
  unfold mf_Ff_next
  rw [ff_k.2.2.2.1, h.2.2.2.2.2.1]
theorem md_next {A : ab_T} {g : wm_Sg} (h : md_R A g) : mf_Mo_next 186 g = some (A.2.2.2.2.1, g) := by
  unfold mf_Mo_next
  rw [h.2.2.2.2.2.1]
theorem cl_outputs {A : ab_T} {g : wm_Sg} (h : cl_R A g) : mf_Ff_outputs 0 g = some (nI A.2.2.1, g) := by
  unfold mf_Ff_outputs
  rw [ff_k.2.2.2.1, h.2.2.2.1]
theorem md_outputs {A : ab_T} {g : wm_Sg} (h : md_R A g) : mf_Mo_outputs 186 g = some (nI A.2.2.1, g) := by
  unfold mf_Mo_outputs
  rw [h.2.2.2.1]
def ab_variable (A : ab_T) (x : Int32) : Int32 := if tl_iv x = true then A.2.2.2.2.2.1 x.toNatClampNeg else 0
theorem cl_variable {A : ab_T} {g : wm_Sg} (h : cl_R A g) (x : Int32) : mf_Ff_variable 0 x g = some (ab_variable A x, g) := by
  obtain ⟨k1, k2, k3, k4, k5, k6, k7, k8, -⟩ := ff_k
  unfold mf_Ff_variable mf_Ff_variable_20 ab_variable
  rw [pf_Ff_isVariable, Option.bind_some]
  dsimp only
  cases hx : tl_iv x with
  | false => rfl
  | true =>
    obtain ⟨v, hv, rfl⟩ := tl_ivn hx
    rw [if_neg (show ¬ b_i true = 0 by decide), if_pos rfl, k4, k7, k8, if_neg (st_in hv), nI_clamp (by omega), h.2.2.2.2.2.2.1 v hv]
theorem md_variable {A : ab_T} {g : wm_Sg} (h : md_R A g) (x : Int32) : mf_Mo_variable 186 x g = some (ab_variable A x, g) := by
  unfold mf_Mo_variable mf_Mo_variable_17 ab_variable
  rw [pf_Mo_isVariable, Option.bind_some]
  dsimp only
  cases hx : tl_iv x with
  | false => rfl
  | true =>
    obtain ⟨v, hv, rfl⟩ := tl_ivn hx
    rw [if_neg (show ¬ b_i true = 0 by decide), if_pos rfl, if_neg (mb_21 hv), mr_21, nI_clamp (by omega), h.2.2.2.2.2.2.1 v hv]
def ab_output (A : ab_T) (x : Int32) : Int32 := if ¬ x < 0 ∧ ¬ (40 : Int32) ≤ x ∧ ¬ nI A.2.2.1 ≤ x then A.2.2.2.2.2.2 x.toNatClampNeg else 0
theorem cl_output {A : ab_T} (ok : ab_ok A) {g : wm_Sg} (h : cl_R A g) (x : Int32) : mf_Ff_output 0 x g = some (ab_output A x, g) := by
  obtain ⟨k1, k2, k3, k4, k5, k6, k7, k8, k9, k10⟩ := ff_k
  have hk := ok.2.2.2
  unfold mf_Ff_output mf_Ff_output_33 mf_Ff_output_34 ab_output
  rw [k4, k9, k10]
  by_cases c1 : x < 0
  · rw [if_pos c1, if_neg (fun z => z.1 c1)]
  · rw [if_neg c1]
    by_cases c2 : (40 : Int32) ≤ x
    · rw [if_pos c2, if_neg (fun z => z.2.1 c2)]
    · rw [if_neg c2]
      by_cases c3 : nI A.2.2.1 ≤ x
      · rw [if_pos (show g 183 2 ≤ x by rw [h.2.2.2.1]; exact c3), if_neg (fun z => z.2.2 c3)]
      · rw [if_neg (show ¬ g 183 2 ≤ x by rw [h.2.2.2.1]; exact c3), if_pos (show ¬ x < 0 ∧ ¬ (40 : Int32) ≤ x ∧ ¬ nI A.2.2.1 ≤ x from ⟨c1, c2, c3⟩)]
        obtain ⟨j, hj, rfl⟩ := nI_of c1
        have hj40 : j < 40 := by
          rcases Nat.lt_or_ge j 40 with q | q
          · exact q
          · exact absurd (n_le (a := 40) (by decide) hj q) c2
        have hjk : j < A.2.2.1 := by
          rcases Nat.lt_or_ge j A.2.2.1 with q | q
          · exact q
          · exact absurd (n_le (by omega) hj q) c3
        rw [if_neg (show ¬ (nI j < 0 ∨ 40 ≤ (nI j).toNatClampNeg) from nI_in hj40 (by decide)), nI_clamp hj, h.2.2.2.2.2.2.2 j hj40 hjk]
theorem md_output {A : ab_T} (ok : ab_ok A) {g : wm_Sg} (h : md_R A g) (x : Int32) : mf_Mo_output 186 x g = some (ab_output A x, g) := by
  have hk := ok.2.2.2
  unfold mf_Mo_output mf_Mo_output_10 mf_Mo_output_20 ab_output
  by_cases c1 : x < 0
  · rw [if_pos c1, if_neg (fun z => z.1 c1)]
  · rw [if_neg c1]
    obtain ⟨j, hj, rfl⟩ := nI_of c1
    by_cases c2 : (40 : Int32) ≤ nI j
    · rw [if_neg (show ¬ nI j ≤ (39 : Int32) from n_nle (b := 39) hj (by decide) (by have := (nI_leI (a := 40) (by decide) hj).mp c2; omega)), if_neg (fun z => z.2.1 c2)]
    · have hj40 : j < 40 := by
        rcases Nat.lt_or_ge j 40 with q | q
        · exact q
        · exact absurd (n_le (a := 40) (by decide) hj q) c2
      rw [if_pos (show nI j ≤ (39 : Int32) from n_le (b := 39) hj (by decide) (by omega)), if_neg (mb_23 hj40), mr_23, nI_clamp hj, h.2.2.2.2.2.2.2 j hj40]
      by_cases c3 : nI A.2.2.1 ≤ nI j
      · have := (nI_leI (by omega) hj).mp c3
        rw [if_neg (by omega), if_neg (fun z => z.2.2 c3)]
      · have : j < A.2.2.1 := by
          rcases Nat.lt_or_ge j A.2.2.1 with q | q
          · exact q
          · exact absurd (n_le (by omega) hj q) c3
        rw [if_pos this, if_pos ⟨c1, c2, c3⟩]
