/-! the class's solution: states at 37 + 6 i, waiting at 30, the coming state at 31 -/
/-- the coming state, or NONE -/
def co_R (g : wm_Sg) (oc : Option sv_F) : Prop := match oc with
  | none => g 31 1 = 1
  | some c => g 31 1 = 0 ∧ ∀ v, v < 4 → st_f g 31 v = c v
/-- the states of the first n instructions, and who waits -/
def so_R (n : Nat) (g : wm_Sg) (σ : sv_S) (w : Nat → Bool) : Prop := (∀ i, i < n → g (37 + 6 * i) 1 = b_i (!(σ i).1) ∧ ((σ i).1 = true → ∀ v, v < 4 → st_f g (37 + 6 * i) v = (σ i).2 v)) ∧ ∀ i, i < 24 → g 30 i = b_i (w i)
/-- the program in the class -/
def pr_R (n : Nat) (p : Nat → Nat → Int32) (g : wm_Sg) : Prop := g 1 1 = nI n ∧ ∀ i, i < n → ∀ j, j < 4 → g (4 + i) j = p i j
/-- what finding a solution may change: the coming state, waiting, the states -/
def so_fr (g g' : wm_Sg) : Prop := (∀ a, a ≠ 30 → a ≠ 31 → ¬ (33 ≤ a ∧ a < 181) → g' a = g a) ∧ ∀ j, 24 ≤ j → g' 30 j = g 30 j
theorem so_fr_refl (g : wm_Sg) : so_fr g g := ⟨fun _ _ _ _ => rfl, fun _ _ => rfl⟩
theorem so_fr_trans {g g' g'' : wm_Sg} (a : so_fr g g') (b : so_fr g' g'') : so_fr g g'' := ⟨fun x h1 h2 h3 => (b.1 x h1 h2 h3).trans (a.1 x h1 h2 h3), fun j hj => (b.2 j hj).trans (a.2 j hj)⟩
theorem pr_R_fr {n : Nat} {p : Nat → Nat → Int32} {g g' : wm_Sg} (hn : n ≤ 24) (h : pr_R n p g) (f : so_fr g g') : pr_R n p g' := ⟨by rw [f.1 1 (by decide) (by decide) (by omega)]; exact h.1, fun i hi j hj => by rw [f.1 (4 + i) (by omega) (by omega) (by omega)]; exact h.2 i hi j hj⟩
theorem so_k : sh_r 28 0 = 29 ∧ sh_r 28 2 = 30 ∧ sh_r 28 3 = 31 ∧ sh_n 29 = 24 ∧ sh_n 30 = 24 ∧ sh_r 1 0 = 2 ∧ sh_n 2 = 24 ∧ kd 31 = 4 := by decide +kernel
theorem so_s (i : Nat) : sh_r 29 i = 37 + 6 * i := rfl
theorem so_i (i : Nat) : sh_r 2 i = 4 + i := rfl
theorem in24 {i : Nat} (h : i < 24) : ¬ (nI i < 0 ∨ 24 ≤ (nI i).toNatClampNeg) := nI_in h (by decide)
theorem pf_Pr_has {n t : Nat} {g : wm_Sg} (hn : n ≤ 24) (ht : t < 2 ^ 31) (h : g 1 1 = nI n) : mf_Pr_has 1 (nI t) g = some (b_i (decide (t < n)), g) := by
  unfold mf_Pr_has mf_Pr_has_16 mf_Pr_has_17
  rw [if_neg (nI_pos ht), h]
  by_cases q : t < n
  · rw [if_neg (n_nle (by omega) ht q), decide_eq_true q]; rfl
  · rw [if_pos (n_le (by omega) ht (by omega)), decide_eq_false q]; rfl
theorem pf_So_arrive {n t : Nat} {g : wm_Sg} {σ : sv_S} {w : Nat → Bool} {oc : Option sv_F} (hn : n ≤ 24) (ht : t < 2 ^ 31) (hp : g 1 1 = nI n) (hR : so_R n g σ w) (hc : co_R g oc) (hσ : sv_ok σ) (ho : ∀ c, oc = some c → sv_fok c) :
    ∃ g' w', mf_So_arrive 28 1 (nI t) g = some g' ∧ so_fr g g' ∧ g' 31 = g 31 ∧ (∀ a, 33 ≤ a → a < 37 → g' a = g a) ∧ so_R n g' (sv_o n t oc σ) w' ∧ (∀ j, w' j = false → w j = false ∧ sv_o n t oc σ j = σ j) ∧ (∀ j, w' j = true → w j = true ∨ (sv_o n t oc σ j).1 = true) := by
  obtain ⟨k1, k2, k3, k4, k5, k6, k7, k8⟩ := so_k
  obtain ⟨-, -, -, hne, hout⟩ := sv_o_grow (n := n) (t := t) (oc := oc) hσ ho
  unfold mf_So_arrive
  rw [pf_Pr_has hn ht hp, Option.bind_some]
  dsimp only
  by_cases q : t < n
  · have q24 : t < 24 := by omega
    rw [decide_eq_true q, if_neg (by decide), k1, k4, k3, if_neg (in24 q24), nI_clamp ht, so_s]
    cases oc with
    | none =>
      have hc : g 31 1 = 1 := hc
      rw [pf_St_joinNone (q := 31) (by rw [hc]; decide), Option.bind_some]
      dsimp only
      rw [if_pos rfl]
      exact ⟨g, w, rfl, so_fr_refl g, rfl, fun _ _ _ => rfl, hR, fun j h => ⟨h, rfl⟩, fun j h => Or.inl h⟩
    | some c =>
      obtain ⟨hc0, hc1⟩ := hc
      have hkd := st_kd t q24
      have hfl := (hR.1 t q).1
      obtain ⟨r, g', a1, a2, a3, a4, a5, a6⟩ := pf_St_joinWith hkd k8 (by omega) (g := g) hc0 (by rw [hfl]; exact b_i_z _)
      rw [a1, Option.bind_some]
      dsimp only
      have hcok := ho c rfl
      -- the states behind it
      have hst : ∀ g1 : wm_Sg, (∀ a, a ≠ 30 → g1 a = g' a) → ∀ i, i < n → g1 (37 + 6 * i) 1 = b_i (!(sv_jn n t c σ i).1) ∧ ((sv_jn n t c σ i).1 = true → ∀ v, v < 4 → st_f g1 (37 + 6 * i) v = (sv_jn n t c σ i).2 v) := by
        intro g1 hg1 i hi
        by_cases e : i = t
        · subst e
          have ej : sv_jn n i c σ i = (true, if (σ i).1 = true then fun v => if v < 4 then ft_jn ((σ i).2 v) (c v) else (σ i).2 v else c) := by unfold sv_jn; rw [if_pos ⟨rfl, q⟩]
          rw [ej]
          refine ⟨by rw [hg1 _ (by omega), a3]; rfl, fun _ v hv => ?_⟩
          have : st_f g1 (37 + 6 * i) v = st_f g' (37 + 6 * i) v := fa_at_congr (hg1 _ (by omega))
          rw [this, a4 v hv, hc1 v hv]
          show _ = (if (σ i).1 = true then _ else _ : sv_F) v
          by_cases l : (σ i).1 = true
          · rw [if_pos (by rw [hfl, l]; rfl), if_pos l, (hR.1 i q).2 l v hv]
            show _ = if v < 4 then _ else _
            rw [if_pos hv]
          · have l' : (σ i).1 = false := by cases hz : (σ i).1 <;> simp_all
            rw [if_neg (by rw [hfl, l']; decide), if_neg l]
        · have ej : sv_jn n t c σ i = σ i := by unfold sv_jn; rw [if_neg (fun z => e z.1)]
          have hcell : ∀ a, 37 + 6 * i ≤ a → a < 37 + 6 * i + 6 → g1 a = g a := fun a b1 b2 => by rw [hg1 a (by omega)]; exact a2.1 a (by omega) (by omega)
          rw [ej]
          refine ⟨by rw [hcell _ (by omega) (by omega)]; exact (hR.1 i hi).1, fun l v hv => ?_⟩
          have : st_f g1 (37 + 6 * i) v = st_f g (37 + 6 * i) v := fa_at_congr (hcell _ (by omega) (by omega))
          rw [this]; exact (hR.1 i hi).2 l v hv
      have hfr : ∀ a, a ≠ 37 + 6 * t → ¬ (37 + 6 * t + 2 ≤ a ∧ a < 37 + 6 * t + 6) → g' a = g a := a2.1
      cases r with
      | false =>
        rw [if_pos (show b_i false = 0 from rfl)]
        obtain ⟨b1, b2⟩ := a5 rfl
        have hlive : (σ t).1 = true := by
          rw [hfl] at b1
          cases hz : (σ t).1 with
          | true => rfl
          | false => rw [hz] at b1; exact absurd b1 (by decide)
        have hsame : sv_jn n t c σ t = σ t := by
          unfold sv_jn
          rw [if_pos ⟨rfl, q⟩, if_pos hlive]
          refine Prod.ext hlive.symm (funext (fun v => ?_))
          show (if v < 4 then _ else _) = _
          by_cases hv : v < 4
          · rw [if_pos hv]
            have e1 := (hR.1 t q).2 hlive v hv
            have e2 := b2 v hv
            rw [e1, hc1 v hv] at e2
            unfold ft_more at e2
            simp only [Bool.not_eq_false', Bool.and_eq_true, decide_eq_true_eq] at e2
            exact ft_jn_same (hσ t hlive v hv) (hcok v hv) e2.1 e2.2
          · rw [if_neg hv]
        refine ⟨g', w, rfl, ⟨fun a h1 h2 h3 => hfr a (by omega) (by omega), fun j hj => by rw [hfr 30 (by omega) (by omega)]⟩, hfr 31 (by omega) (by omega), fun a h1 h2 => hfr a (by omega) (by omega), ⟨hst g' (fun _ _ => rfl), fun i hi => by rw [hfr 30 (by omega) (by omega)]; exact hR.2 i hi⟩, fun j h => ⟨h, ?_⟩, fun j h => Or.inl h⟩
        by_cases e : j = t
        · subst e; exact hsame
        · exact hne j e
      | true =>
        rw [if_neg (by decide), k2, k5, if_neg (fun z => by rcases z with z | z; exact nI_pos ht z; omega)]
        have hu : ∀ a, a ≠ 30 → wm_u g' 30 t 1 a = g' a := fun a ha => wm_u_ne _ _ _ ha
        refine ⟨wm_u g' 30 t 1, fun j => if j = t then true else w j, rfl, ⟨fun a h1 h2 h3 => by rw [hu a h1]; exact hfr a (by omega) (by omega), fun j hj => ?_⟩, by rw [hu 31 (by decide)]; exact hfr 31 (by omega) (by omega), fun a h1 h2 => by rw [hu a (by omega)]; exact hfr a (by omega) (by omega), ⟨hst _ hu, fun i hi => ?_⟩, fun j h => ?_, fun j h => ?_⟩
        · rw [wm_u_app, if_neg (fun z => by have := z.2; omega), hfr 30 (by omega) (by omega)]
        · rw [wm_u_app]
          by_cases e : i = t
          · rw [if_pos ⟨rfl, e⟩]; show _ = b_i (if i = t then true else w i); rw [if_pos e]; rfl
          · rw [if_neg (fun z => e z.2), hfr 30 (by omega) (by omega)]; show _ = b_i (if i = t then true else w i); rw [if_neg e]; exact hR.2 i hi
        · by_cases e : j = t
          · have h : (if j = t then true else w j) = false := h
            rw [if_pos e] at h; cases h
          · have h : (if j = t then true else w j) = false := h
            rw [if_neg e] at h
            exact ⟨h, hne j e⟩
        · by_cases e : j = t
          · right; subst e
            show (sv_jn n j c σ j).1 = true
            unfold sv_jn; rw [if_pos ⟨rfl, q⟩]
          · have h : (if j = t then true else w j) = true := h
            rw [if_neg e] at h
            exact Or.inl h
  · rw [decide_eq_false q, if_pos (show b_i false = 0 from rfl)]
    rw [hout q]
    exact ⟨g, w, rfl, so_fr_refl g, rfl, fun _ _ _ => rfl, hR, fun j h => ⟨h, rfl⟩, fun j h => Or.inl h⟩
theorem co_set {g : wm_Sg} {f : sv_F} {a : Nat} (ha : a < 4) (x : ft_T) (hz : g 31 1 = 0) (hf : ∀ v, v < 4 → st_f g 31 v = f v) : st_fr 31 g (fa_set g (31 + 2 + a) x) ∧ co_R (fa_set g (31 + 2 + a) x) (some (sv_up f a x)) := by
  refine ⟨⟨fun b b1 b2 => fa_set_ne _ _ (by omega), fun j hj => by rw [fa_set_ne _ _ (by omega)]⟩, ⟨by rw [fa_set_ne _ _ (by omega)]; exact hz, fun v hv => ?_⟩⟩
  show fa_at (fa_set g (31 + 2 + a) x) (31 + 2 + v) = _
  unfold sv_up
  by_cases e : v = a
  · subst e; rw [if_pos rfl, fa_set_at]
  · rw [if_neg e, fa_at_ne _ _ (by omega)]; exact hf v hv
theorem st_fr_trans {o : Nat} {g g' g'' : wm_Sg} (a : st_fr o g g') (b : st_fr o g' g'') : st_fr o g g'' := ⟨fun x h1 h2 => (b.1 x h1 h2).trans (a.1 x h1 h2), fun j hj => (b.2 j hj).trans (a.2 j hj)⟩
theorem pf_co_keep {g : wm_Sg} {f : sv_F} {a : Nat} (ha : a < 4) (kept : Int32) (hz : g 31 1 = 0) (hf : ∀ v, v < 4 → st_f g 31 v = f v) : ∃ g', mf_St_keepSigns 31 (nI a) kept g = some g' ∧ st_fr 31 g g' ∧ co_R g' (sv_keep f a kept) := by
  obtain ⟨g', h1, h2, h3, h4⟩ := pf_St_keepSigns (o := 31) so_k.2.2.2.2.2.2.2 ha kept g
  refine ⟨g', h1, h2, ?_⟩
  rw [hf a ha] at h3 h4
  unfold sv_keep
  by_cases e : (ft_keep (f a) kept).2.2 = 0
  · rw [if_pos e] at h3 ⊢; exact h3
  · rw [if_neg e] at h3 ⊢
    refine ⟨h3.trans hz, fun v hv => ?_⟩
    rw [h4 v hv]
    unfold sv_up
    by_cases z : v = a
    · rw [if_pos z, if_pos z]
    · rw [if_neg z, if_neg z]; exact hf v hv
theorem st_in' {q : Int32} {a : Nat} (ha : a < 4) (e : q = nI a) : ¬ (q < 0 ∨ sh_n (sh_r 31 0) ≤ q.toNatClampNeg) := by
  rw [e, st_r so_k.2.2.2.2.2.2.2, st_n so_k.2.2.2.2.2.2.2]; exact st_in ha
theorem st_c {q : Int32} {a : Nat} (ha : a < 4) (e : q = nI a) : sh_r (sh_r 31 0) q.toNatClampNeg = 31 + 2 + a := by
  rw [st_r so_k.2.2.2.2.2.2.2, st_e so_k.2.2.2.2.2.2.2, e, nI_clamp (by omega)]
/-- what goes on to the next instruction -/
theorem pf_St_goThrough {g : wm_Sg} {f : sv_F} {b : Nat} (hb : b < 28) {q : Nat → Int32} (hq : ∀ j, j < 4 → g b j = q j) (ok : in_ok q) (hz : g 31 1 = 0) (hf : ∀ v, v < 4 → st_f g 31 v = f v) : ∃ g', mf_St_goThrough 31 b g = some g' ∧ st_fr 31 g g' ∧ co_R g' (sv_thru q f) := by
  have q0 := hq 0 (by decide)
  have q1 := hq 1 (by decide)
  have q2 := hq 2 (by decide)
  have q3 := hq 3 (by decide)
  obtain ⟨o, ho, h0, h1, h2, h3⟩ := ok
  have oeq : ∀ k : Nat, k < 13 → (q 0 = nI k ↔ o = k) := fun k hk => by rw [h0]; exact nI_eq (by omega) (by omega)
  unfold mf_St_goThrough mf_St_goThrough_193 sv_thru
  rw [q0, q1, q2, q3]
  have up : ∀ (a : Nat) (x : ft_T), a < 4 → q 1 = nI a → ∃ g', some (fa_set g (31 + 2 + a) x) = some g' ∧ st_fr 31 g g' ∧ co_R g' (some (sv_up f (q 1).toNatClampNeg x)) := by
    intro a x ha e
    rw [e, nI_clamp (by omega)]
    exact ⟨_, rfl, co_set ha x hz hf⟩
  have at' : ∀ (c : Nat) (z : Int32), c < 4 → z = nI c → fa_at g (31 + 2 + c) = f z.toNatClampNeg := by
    intro c z hc e
    rw [e, nI_clamp (by omega)]; exact hf c hc
  by_cases c0 : q 0 = 0
  · rw [if_pos c0, if_pos c0]
    have e : o = 0 := (oeq 0 (by decide)).mp c0
    subst e
    obtain ⟨a, ha, ea⟩ := h1
    rw [if_neg (st_in' ha ea), st_c ha ea, pf_Fa_becomeNumber]
    exact up a _ ha ea
  · rw [if_neg c0, if_neg c0]
    by_cases c1 : q 0 = 1
    · rw [if_pos c1, if_pos c1]
      have e : o = 1 := (oeq 1 (by decide)).mp c1
      subst e
      obtain ⟨a, ha, ea⟩ := h1
      obtain ⟨d, hd, ed⟩ := h2
      rw [if_neg (st_in' ha ea), if_neg (st_in' hd ed), st_c ha ea, st_c hd ed, pf_Fa_becomeSame, at' d _ hd ed]
      exact up a _ ha ea
    · rw [if_neg c1, if_neg c1]
      have three : ∀ k : Nat, (k = 2 ∨ k = 3 ∨ k = 4) → q 0 = nI k → ∃ g', ((if q 1 < 0 ∨ sh_n (sh_r 31 0) ≤ (q 1).toNatClampNeg then none else if q 2 < 0 ∨ sh_n (sh_r 31 0) ≤ (q 2).toNatClampNeg then none else if q 3 < 0 ∨ sh_n (sh_r 31 0) ≤ (q 3).toNatClampNeg then none else (mf_Fa_becomeResult (sh_r (sh_r 31 0) (q 1).toNatClampNeg) (q 0) (sh_r (sh_r 31 0) (q 2).toNatClampNeg) (sh_r (sh_r 31 0) (q 3).toNatClampNeg) g).bind fun v => some v) : Option wm_Sg) = some g' ∧ st_fr 31 g g' ∧ co_R g' (some (sv_up f (q 1).toNatClampNeg (ft_res (q 0) (f (q 2).toNatClampNeg) (f (q 3).toNatClampNeg)))) := by
        intro k hk e
        have e : o = k := (oeq k (by omega)).mp e
        rw [if_neg (by omega)] at h1
        rw [if_pos (by omega)] at h2 h3
        obtain ⟨a, ha, ea⟩ := h1
        obtain ⟨d, hd, ed⟩ := h2
        obtain ⟨c, hc, ec⟩ := h3
        rw [if_neg (st_in' ha ea), if_neg (st_in' hd ed), if_neg (st_in' hc ec), st_c ha ea, st_c hd ed, st_c hc ec, pf_Fa_becomeResult, at' d _ hd ed, at' c _ hc ec]
        exact up a _ ha ea
      by_cases c2 : q 0 = 2
      · rw [if_pos c2, if_pos (Or.inl c2)]
        exact three 2 (Or.inl rfl) c2
      · rw [if_neg c2]
        by_cases c3 : q 0 = 3
        · rw [if_pos c3, if_pos (Or.inr (Or.inl c3))]
          exact three 3 (Or.inr (Or.inl rfl)) c3
        · rw [if_neg c3]
          by_cases c4 : q 0 = 4
          · rw [if_pos c4, if_pos (Or.inr (Or.inr c4))]
            exact three 4 (Or.inr (Or.inr rfl)) c4
          · rw [if_neg c4, if_neg (show ¬ (q 0 = 2 ∨ q 0 = 3 ∨ q 0 = 4) from fun z => by rcases z with z | z | z; exact c2 z; exact c3 z; exact c4 z)]
            by_cases c5 : q 0 = 5
            · rw [if_pos c5, if_pos c5]
              have e : o = 5 := (oeq 5 (by decide)).mp c5
              subst e
              obtain ⟨a, ha, ea⟩ := h1
              obtain ⟨d, hd, ed⟩ := h2
              obtain ⟨c, hc, ec⟩ := h3
              obtain ⟨g1, k1, k2, k3⟩ := pf_co_keep hc 5 hz hf
              rw [ec, k1, nI_clamp (by omega)]
              have hbq : ∀ j, g1 b j = g b j := fun j => by rw [k2.1 b (by omega) (by omega)]
              show ∃ g', (if g1 31 1 = 0 then (if g1 b 1 < 0 ∨ _ then none else if g1 b 2 < 0 ∨ _ then none else if g1 b 3 < 0 ∨ _ then none else _) else some g1) = some g' ∧ _
              rw [hbq 1, hbq 2, hbq 3, q1, q2, q3]
              cases hk : sv_keep f c 5 with
              | none =>
                rw [hk] at k3
                have k3 : g1 31 1 = 1 := k3
                rw [if_neg (by rw [k3]; decide)]
                exact ⟨g1, rfl, k2, k3⟩
              | some h =>
                rw [hk] at k3
                obtain ⟨z1, z2⟩ := k3
                rw [if_pos z1, if_neg (st_in' ha ea), if_neg (st_in' hd ed), if_neg (st_in' hc ec), st_c ha ea, st_c hd ed, st_c hc ec, pf_Fa_becomeResult]
                have a1 : fa_at g1 (31 + 2 + d) = h (q 2).toNatClampNeg := by rw [ed, nI_clamp (by omega)]; exact z2 d hd
                have a2 : fa_at g1 (31 + 2 + c) = h c := z2 c hc
                rw [a1, a2]
                show ∃ g', some (fa_set g1 (31 + 2 + a) _) = some g' ∧ st_fr 31 g g' ∧ co_R g' (some (sv_up h (q 1).toNatClampNeg _))
                obtain ⟨y1, y2⟩ := co_set (g := g1) (f := h) ha (ft_res 5 (h (q 2).toNatClampNeg) (h c)) z1 z2
                refine ⟨_, rfl, st_fr_trans k2 y1, ?_⟩
                rw [ea, nI_clamp (by omega)]
                exact y2
            · rw [if_neg c5, if_neg c5]
              by_cases c6 : q 0 = 6
              · rw [if_pos c6, if_pos c6]
                have e : o = 6 := (oeq 6 (by decide)).mp c6
                subst e
                obtain ⟨a, ha, ea⟩ := h1
                rw [if_neg (st_in' ha ea), st_c ha ea, pf_Fa_becomeAnything]
                exact up a _ ha ea
              · rw [if_neg c6, if_neg c6]
                exact ⟨g, rfl, ⟨fun _ _ _ => rfl, fun _ _ => rfl⟩, hz, hf⟩
theorem so_R_31 {n : Nat} (hn : n ≤ 24) {g g' : wm_Sg} {σ : sv_S} {w : Nat → Bool} (h : so_R n g σ w) (f : st_fr 31 g g') : so_R n g' σ w := by
  refine ⟨fun i hi => ?_, fun i hi => by rw [f.1 30 (by decide) (by omega)]; exact h.2 i hi⟩
  have hc : ∀ a, 37 ≤ a → g' a = g a := fun a ha => f.1 a (by omega) (by omega)
  refine ⟨by rw [hc _ (by omega)]; exact (h.1 i hi).1, fun l v hv => ?_⟩
  have : st_f g' (37 + 6 * i) v = st_f g (37 + 6 * i) v := fa_at_congr (hc _ (by omega))
  rw [this]; exact (h.1 i hi).2 l v hv
theorem so_fr_31 {g g' : wm_Sg} (f : st_fr 31 g g') : so_fr g g' := ⟨fun a h1 h2 h3 => f.1 a h2 (by omega), fun j hj => by rw [f.1 30 (by decide) (by omega)]⟩
/-- the coming state becomes that of i -/
theorem pf_copy {n i : Nat} (hn : n ≤ 24) (hi : i < n) {g : wm_Sg} {σ : sv_S} {w : Nat → Bool} (h : so_R n g σ w) (hl : (σ i).1 = true) : ∃ g', mf_St_becomeSame 31 (37 + 6 * i) g = some g' ∧ st_fr 31 g g' ∧ so_R n g' σ w ∧ g' 31 1 = 0 ∧ ∀ v, v < 4 → st_f g' 31 v = (σ i).2 v := by
  have hfl := (h.1 i hi).1
  rw [hl] at hfl
  have hfl : g (37 + 6 * i) 1 = 0 := hfl
  obtain ⟨g', a1, a2, a3, a4⟩ := pf_St_becomeSame (o := 31) (q := 37 + 6 * i) so_k.2.2.2.2.2.2.2 (st_kd i (by omega)) (by omega) (Or.inl hfl)
  exact ⟨g', a1, a2, so_R_31 hn h a2, a3.trans hfl, fun v hv => (a4 v hv).trans ((h.1 i hi).2 hl v hv)⟩
theorem ft_keep_not {f : ft_T} (hf : ft_ok f) : ft_keep f ((2 : Int32) ^^^ (-1)) = ft_keep f 5 ∧ ft_keep f ((1 : Int32) ^^^ (-1)) = ft_keep f 6 := by
  obtain ⟨k, s, h1, h2, h3, h4, h5, -⟩ := hf
  unfold ft_keep
  rw [h2]
  have c := (by decide +kernel : ∀ s, s < 8 → nI s &&& ((2 : Int32) ^^^ (-1)) = nI s &&& 5 ∧ nI s &&& ((1 : Int32) ^^^ (-1)) = nI s &&& 6) s h5
  rw [c.1, c.2]
  exact ⟨rfl, rfl⟩
theorem pf_In_jumpSigns (b : Nat) (g : wm_Sg) : mf_In_jumpSigns b g = some (sv_way (g b 0), g) := by
  unfold mf_In_jumpSigns mf_In_jumpSigns_14 sv_way
  by_cases h : g b 0 = 7
  · rw [if_pos h, if_pos h]
  · rw [if_neg h, if_neg h]
theorem sv_keep_not {f : sv_F} {a : Nat} (h : ft_ok (f a)) (o : Int32) : sv_keep f a (sv_way o ^^^ (-1)) = sv_keep f a (sv_oth o) := by
  unfold sv_keep sv_way sv_oth
  by_cases e : o = 7
  · rw [if_pos e, if_pos e, (ft_keep_not h).1]
  · rw [if_neg e, if_neg e, (ft_keep_not h).2]
theorem in_t {q : Nat → Int32} (hq : in_ok q) (h : q 0 = 7 ∨ q 0 = 8 ∨ q 0 = 9) : ∃ t, t ≤ 24 ∧ q 3 = nI t := by
  obtain ⟨o, ho, h0, -, -, h3⟩ := hq
  have e : o = 7 ∨ o = 8 ∨ o = 9 := by
    rw [h0] at h
    rcases h with h | h | h
    · exact Or.inl ((nI_eq (b := 7) (by omega) (by omega)).mp h)
    · exact Or.inr (Or.inl ((nI_eq (b := 8) (by omega) (by omega)).mp h))
    · exact Or.inr (Or.inr ((nI_eq (b := 9) (by omega) (by omega)).mp h))
  rw [if_neg (by omega), if_pos (by omega)] at h3
  exact h3
theorem in_a' {q : Nat → Int32} (hq : in_ok q) (h : q 0 = 7 ∨ q 0 = 8) : ∃ a, a < 4 ∧ q 1 = nI a := by
  obtain ⟨o, ho, h0, h1, -⟩ := hq
  have e : o = 7 ∨ o = 8 := by
    rw [h0] at h
    rcases h with h | h
    · exact Or.inl ((nI_eq (b := 7) (by omega) (by omega)).mp h)
    · exact Or.inr ((nI_eq (b := 8) (by omega) (by omega)).mp h)
  rw [if_neg (by omega)] at h1
  exact h1
theorem pf_So_carry {n i : Nat} {g : wm_Sg} {σ : sv_S} {w : Nat → Bool} {p : Nat → Nat → Int32} (hn : n ≤ 24) (hi : i < n) (hp : pr_R n p g) (hR : so_R n g σ w) (hσ : sv_ok σ) (hl : (σ i).1 = true) (ok : in_ok (p i)) :
    ∃ g' w', mf_So_carry 28 1 (nI i) g = some g' ∧ so_fr g g' ∧ so_R n g' (sv_step n p i σ) w' ∧ (∀ j, w' j = false → w j = false ∧ sv_step n p i σ j = σ j) ∧ (∀ j, w' j = true → w j = true ∨ (sv_step n p i σ j).1 = true) := by
  obtain ⟨k1, k2, k3, k4, k5, k6, k7, k8⟩ := so_k
  have i24 : i < 24 := by omega
  obtain ⟨g1, a1, a2, a3, a4, a5⟩ := pf_copy hn hi hR hl
  have hp1 := pr_R_fr hn hp (so_fr_31 a2)
  have f0 := hp1.2 i hi 0 (by decide)
  have f1 := hp1.2 i hi 1 (by decide)
  have f3 := hp1.2 i hi 3 (by decide)
  unfold mf_So_carry mf_So_carry_156 sv_step
  rw [k6, k7, k1, k4, k3, if_neg (in24 i24), if_neg (in24 i24), nI_clamp (by omega), so_s, so_i, a1]
  show ∃ g' w', (if g1 (4 + i) 0 = 7 then _ else if g1 (4 + i) 0 = 8 then _ else if g1 (4 + i) 0 = 9 then _ else if g1 (4 + i) 0 = 10 then _ else if g1 (4 + i) 0 = 11 then _ else _) = some g' ∧ _
  rw [f0]
  -- the two jumps
  have jump : (p i 0 = 7 ∨ p i 0 = 8) → ∃ g' w', ((mf_In_jumpSigns (4 + i) g1).bind fun v33 => (mf_St_keepSigns 31 (g1 (4 + i) 1) v33.1 v33.2).bind fun v34 => (mf_So_arrive 28 1 (v34 (4 + i) 3) v34).bind fun v35 => if nI i < 0 ∨ 24 ≤ i then none else (mf_St_becomeSame 31 (37 + 6 * i) v35).bind fun v37 => (mf_In_jumpSigns (4 + i) v37).bind fun v38 => (mf_St_keepSigns 31 (v37 (4 + i) 1) (v38.1 ^^^ (-1 : Int32)) v38.2).bind fun v39 => (mf_So_arrive 28 1 (nI i + (1 : Int32)) v39).bind fun v40 => some v40) = some g' ∧ so_fr g g' ∧ so_R n g' (sv_o n (i + 1) (sv_keep ((sv_o n (p i 3).toNatClampNeg (sv_keep (σ i).2 (p i 1).toNatClampNeg (sv_way (p i 0))) σ) i).2 (p i 1).toNatClampNeg (sv_oth (p i 0))) (sv_o n (p i 3).toNatClampNeg (sv_keep (σ i).2 (p i 1).toNatClampNeg (sv_way (p i 0))) σ)) w' ∧ (∀ j, w' j = false → w j = false ∧ sv_o n (i + 1) (sv_keep ((sv_o n (p i 3).toNatClampNeg (sv_keep (σ i).2 (p i 1).toNatClampNeg (sv_way (p i 0))) σ) i).2 (p i 1).toNatClampNeg (sv_oth (p i 0))) (sv_o n (p i 3).toNatClampNeg (sv_keep (σ i).2 (p i 1).toNatClampNeg (sv_way (p i 0))) σ) j = σ j) ∧ (∀ j, w' j = true → w j = true ∨ (sv_o n (i + 1) (sv_keep ((sv_o n (p i 3).toNatClampNeg (sv_keep (σ i).2 (p i 1).toNatClampNeg (sv_way (p i 0))) σ) i).2 (p i 1).toNatClampNeg (sv_oth (p i 0))) (sv_o n (p i 3).toNatClampNeg (sv_keep (σ i).2 (p i 1).toNatClampNeg (sv_way (p i 0))) σ) j).1 = true) := by
    intro hj
    obtain ⟨a, ha, ea⟩ := in_a' ok hj
    obtain ⟨t, ht, et⟩ := in_t ok (by rcases hj with z | z; exact Or.inl z; exact Or.inr (Or.inl z))
    have ca : (p i 1).toNatClampNeg = a := by rw [ea, nI_clamp (by omega)]
    have ct : (p i 3).toNatClampNeg = t := by rw [et, nI_clamp (by omega)]
    rw [ca, ct, pf_In_jumpSigns, f0]
    show ∃ g' w', ((mf_St_keepSigns 31 (g1 (4 + i) 1) (sv_way (p i 0)) g1).bind _) = some g' ∧ _
    obtain ⟨t1, kt1⟩ := kp_way (p i 0)
    obtain ⟨t2, kt2⟩ := kp_oth (p i 0)
    obtain ⟨g2, b1, b2, b3⟩ := pf_co_keep (g := g1) (f := (σ i).2) ha (sv_way (p i 0)) a4 a5
    rw [f1, ea, b1]
    have hR2 := so_R_31 hn a3 b2
    have hp2 := pr_R_fr hn hp1 (so_fr_31 b2)
    have ok1 : ∀ c, sv_keep (σ i).2 a (sv_way (p i 0)) = some c → sv_fok c := fun c e => (sv_keep_ok (hσ i hl) ha kt1 e).1
    obtain ⟨g3, w3, c1, c2, c3, c4, c5, c6, c7⟩ := pf_So_arrive (t := t) hn (by omega) hp2.1 hR2 b3 hσ ok1
    show ∃ g' w', ((mf_So_arrive 28 1 (g2 (4 + i) 3) g2).bind _) = some g' ∧ _
    rw [hp2.2 i hi 3 (by decide), et, c1]
    obtain ⟨s1, s2, -, -, -⟩ := sv_o_grow (n := n) (t := t) (oc := sv_keep (σ i).2 a (sv_way (p i 0))) hσ ok1
    generalize hτ : sv_o n t (sv_keep (σ i).2 a (sv_way (p i 0))) σ = τ at *
    have hl3 := (s2 i hl).1
    have hp3 := pr_R_fr hn hp2 c2
    show ∃ g' w', (if nI i < 0 ∨ 24 ≤ i then none else (mf_St_becomeSame 31 (37 + 6 * i) g3).bind _) = some g' ∧ _
    rw [if_neg (fun z => by rcases z with z | z; exact nI_pos (n := i) (by omega) z; omega)]
    obtain ⟨g4, d1, d2, d3, d4, d5⟩ := pf_copy hn hi c5 hl3
    rw [d1]
    have hp4 := pr_R_fr hn hp3 (so_fr_31 d2)
    show ∃ g' w', ((mf_In_jumpSigns (4 + i) g4).bind _) = some g' ∧ _
    rw [pf_In_jumpSigns, hp4.2 i hi 0 (by decide)]
    show ∃ g' w', ((mf_St_keepSigns 31 (g4 (4 + i) 1) (sv_way (p i 0) ^^^ (-1)) g4).bind _) = some g' ∧ _
    obtain ⟨g5, e1, e2, e3⟩ := pf_co_keep (g := g4) (f := (τ i).2) ha (sv_way (p i 0) ^^^ (-1)) d4 d5
    rw [hp4.2 i hi 1 (by decide), ea, e1]
    rw [sv_keep_not (s1 i hl3 a ha)] at e3
    have hR5 := so_R_31 hn d3 e2
    have hp5 := pr_R_fr hn hp4 (so_fr_31 e2)
    have ok2 : ∀ c, sv_keep (τ i).2 a (sv_oth (p i 0)) = some c → sv_fok c := fun c e => (sv_keep_ok (s1 i hl3) ha kt2 e).1
    obtain ⟨g6, w6, l1, l2, l3, l4, l5, l6, l7⟩ := pf_So_arrive (t := i + 1) hn (by omega) hp5.1 hR5 e3 s1 ok2
    obtain ⟨-, u2, -, -, -⟩ := sv_o_grow (n := n) (t := i + 1) (oc := sv_keep (τ i).2 a (sv_oth (p i 0))) s1 ok2
    show ∃ g' w', ((mf_So_arrive 28 1 (nI i + 1) g5).bind _) = some g' ∧ _
    rw [nI_1, l1]
    refine ⟨g6, w6, rfl, so_fr_trans (so_fr_31 a2) (so_fr_trans (so_fr_31 b2) (so_fr_trans c2 (so_fr_trans (so_fr_31 d2) (so_fr_trans (so_fr_31 e2) l2)))), l5, fun j hj => ?_, fun j hj => ?_⟩
    · obtain ⟨x1, x2⟩ := l6 j hj
      obtain ⟨x3, x4⟩ := c6 j x1
      exact ⟨x3, x2.trans x4⟩
    · rcases l7 j hj with x | x
      · rcases c7 j x with y | y
        · exact Or.inl y
        · exact Or.inr (u2 j y).1
      · exact Or.inr x
  -- on to the next instruction
  have next : p i 0 ≠ 7 → p i 0 ≠ 8 → p i 0 ≠ 9 → p i 0 ≠ 11 → ∃ g' w', ((mf_St_goThrough 31 (4 + i) g1).bind fun v57 => (mf_So_arrive 28 1 (nI i + (1 : Int32)) v57).bind fun v58 => some v58) = some g' ∧ so_fr g g' ∧ so_R n g' (sv_o n (i + 1) (sv_thru (p i) (σ i).2) σ) w' ∧ (∀ j, w' j = false → w j = false ∧ sv_o n (i + 1) (sv_thru (p i) (σ i).2) σ j = σ j) ∧ (∀ j, w' j = true → w j = true ∨ (sv_o n (i + 1) (sv_thru (p i) (σ i).2) σ j).1 = true) := by
    intro _ _ _ _
    obtain ⟨g2, b1, b2, b3⟩ := pf_St_goThrough (g := g1) (f := (σ i).2) (b := 4 + i) (by omega) (q := p i) (fun j hj => hp1.2 i hi j hj) ok a4 a5
    rw [b1]
    have hR2 := so_R_31 hn a3 b2
    have hp2 := pr_R_fr hn hp1 (so_fr_31 b2)
    have ok1 : ∀ c, sv_thru (p i) (σ i).2 = some c → sv_fok c := fun c e => sv_thru_ok ok (hσ i hl) e
    obtain ⟨g3, w3, c1, c2, c3, c4, c5, c6, c7⟩ := pf_So_arrive (t := i + 1) hn (by omega) hp2.1 hR2 b3 hσ ok1
    show ∃ g' w', ((mf_So_arrive 28 1 (nI i + 1) g2).bind _) = some g' ∧ _
    rw [nI_1, c1]
    exact ⟨g3, w3, rfl, so_fr_trans (so_fr_31 a2) (so_fr_trans (so_fr_31 b2) c2), c5, c6, c7⟩
  by_cases c7 : p i 0 = 7
  · rw [if_pos c7, if_neg (by rw [c7]; decide), if_neg (by rw [c7]; decide), if_pos (Or.inl c7)]
    exact jump (Or.inl c7)
  · rw [if_neg c7]
    by_cases c8 : p i 0 = 8
    · rw [if_pos c8, if_neg (by rw [c8]; decide), if_neg (by rw [c8]; decide), if_pos (Or.inr c8)]
      exact jump (Or.inr c8)
    · rw [if_neg c8, if_neg (show ¬ (p i 0 = 7 ∨ p i 0 = 8) from fun z => by rcases z with z | z; exact c7 z; exact c8 z)]
      by_cases c9 : p i 0 = 9
      · rw [if_pos c9, if_neg (by rw [c9]; decide), if_pos c9]
        obtain ⟨t, ht, et⟩ := in_t ok (Or.inr (Or.inr c9))
        have ct : (p i 3).toNatClampNeg = t := by rw [et, nI_clamp (by omega)]
        obtain ⟨g3, w3, z1, z2, z3, z4, z5, z6, z7⟩ := pf_So_arrive (t := t) (oc := some (σ i).2) hn (by omega) hp1.1 a3 ⟨a4, a5⟩ hσ (fun c e => by cases e; exact hσ i hl)
        rw [f3, ct, et, z1]
        exact ⟨g3, w3, rfl, so_fr_trans (so_fr_31 a2) z2, z5, z6, z7⟩
      · rw [if_neg c9, if_neg c9]
        by_cases c10 : p i 0 = 10
        · rw [if_pos c10, if_neg (by rw [c10]; decide)]
          exact next c7 c8 c9 (by rw [c10]; decide)
        · rw [if_neg c10]
          by_cases c11 : p i 0 = 11
          · rw [if_pos c11, if_pos c11]
            exact ⟨g1, w, rfl, so_fr_31 a2, a3, fun j h => ⟨h, rfl⟩, fun j h => Or.inl h⟩
          · rw [if_neg c11, if_neg c11]
            exact next c7 c8 c9 c11
