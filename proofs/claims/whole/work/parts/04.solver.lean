/-! The solver, as mathematics: states, what comes of an instruction, a pass; what doesn't grow is absorbed. -/
abbrev sv_F : Type := Nat → ft_T
abbrev sv_S : Type := Nat → Bool × sv_F
def sv_up (f : sv_F) (a : Nat) (x : ft_T) : sv_F := fun v => if v = a then x else f v
/-- a state comes to t -/
def sv_jn (n t : Nat) (c : sv_F) (σ : sv_S) : sv_S := fun i => if i = t ∧ t < n then (true, if (σ t).1 = true then fun v => if v < 4 then ft_jn ((σ t).2 v) (c v) else (σ t).2 v else c) else σ i
def sv_o (n t : Nat) (oc : Option sv_F) (σ : sv_S) : sv_S := match oc with
  | none => σ
  | some c => sv_jn n t c σ
def sv_keep (f : sv_F) (a : Nat) (kept : Int32) : Option sv_F := if (ft_keep (f a) kept).2.2 = 0 then none else some (sv_up f a (ft_keep (f a) kept))
def sv_way (o : Int32) : Int32 := if o = 7 then 2 else 1
def sv_oth (o : Int32) : Int32 := if o = 7 then 5 else 6
def sv_thru (q : Nat → Int32) (f : sv_F) : Option sv_F :=
  if q 0 = 0 then some (sv_up f (q 1).toNatClampNeg (ft_num (q 3)))
  else if q 0 = 1 then some (sv_up f (q 1).toNatClampNeg (f (q 2).toNatClampNeg))
  else if q 0 = 2 ∨ q 0 = 3 ∨ q 0 = 4 then some (sv_up f (q 1).toNatClampNeg (ft_res (q 0) (f (q 2).toNatClampNeg) (f (q 3).toNatClampNeg)))
  else if q 0 = 5 then (sv_keep f (q 3).toNatClampNeg 5).bind (fun h => some (sv_up h (q 1).toNatClampNeg (ft_res 5 (h (q 2).toNatClampNeg) (h (q 3).toNatClampNeg))))
  else if q 0 = 6 then some (sv_up f (q 1).toNatClampNeg ft_any)
  else some f
def sv_step (n : Nat) (p : Nat → Nat → Int32) (i : Nat) (σ : sv_S) : sv_S :=
  if p i 0 = 11 then σ
  else if p i 0 = 9 then sv_o n (p i 3).toNatClampNeg (some (σ i).2) σ
  else if p i 0 = 7 ∨ p i 0 = 8 then
    sv_o n (i + 1) (sv_keep ((sv_o n (p i 3).toNatClampNeg (sv_keep (σ i).2 (p i 1).toNatClampNeg (sv_way (p i 0))) σ) i).2 (p i 1).toNatClampNeg (sv_oth (p i 0))) (sv_o n (p i 3).toNatClampNeg (sv_keep (σ i).2 (p i 1).toNatClampNeg (sv_way (p i 0))) σ)
  else sv_o n (i + 1) (sv_thru (p i) (σ i).2) σ
/-- an instruction in its normal form -/
def in_ok (q : Nat → Int32) : Prop := ∃ o : Nat, o < 13 ∧ q 0 = nI o ∧ (if o = 9 ∨ o = 11 ∨ o = 12 then q 1 = 0 else ∃ a, a < 4 ∧ q 1 = nI a) ∧ (if 1 ≤ o ∧ o ≤ 5 then ∃ a, a < 4 ∧ q 2 = nI a else q 2 = 0) ∧ (if 2 ≤ o ∧ o ≤ 5 then ∃ a, a < 4 ∧ q 3 = nI a else if 7 ≤ o ∧ o ≤ 9 then ∃ a, a ≤ 24 ∧ q 3 = nI a else if o = 0 then True else q 3 = 0)
def sv_fok (f : sv_F) : Prop := ∀ v, v < 4 → ft_ok (f v)
def sv_ok (σ : sv_S) : Prop := ∀ i, (σ i).1 = true → sv_fok (σ i).2
def sv_fle (f h : sv_F) : Prop := ∀ v, v < 4 → ft_le (f v) (h v)
def sv_le (σ τ : sv_S) : Prop := ∀ i, (σ i).1 = true → (τ i).1 = true ∧ sv_fle (σ i).2 (τ i).2
def sv_ab (n t : Nat) (oc : Option sv_F) (σ : sv_S) : Prop := ∀ c, oc = some c → t < n → (σ t).1 = true ∧ sv_fle c (σ t).2
def sv_abs (n : Nat) (p : Nat → Nat → Int32) (i : Nat) (σ : sv_S) : Prop :=
  if p i 0 = 11 then True
  else if p i 0 = 9 then sv_ab n (p i 3).toNatClampNeg (some (σ i).2) σ
  else if p i 0 = 7 ∨ p i 0 = 8 then sv_ab n (p i 3).toNatClampNeg (sv_keep (σ i).2 (p i 1).toNatClampNeg (sv_way (p i 0))) σ ∧ sv_ab n (i + 1) (sv_keep (σ i).2 (p i 1).toNatClampNeg (sv_oth (p i 0))) σ
  else sv_ab n (i + 1) (sv_thru (p i) (σ i).2) σ
theorem sv_fle_refl {f : sv_F} (h : sv_fok f) : sv_fle f f := fun v hv => ft_le_refl (h v hv)
theorem sv_fle_trans {f h q : sv_F} (a : sv_fle f h) (b : sv_fle h q) : sv_fle f q := fun v hv => ft_le_trans (a v hv) (b v hv)
theorem sv_le_refl {σ : sv_S} (h : sv_ok σ) : sv_le σ σ := fun i hi => ⟨hi, sv_fle_refl (h i hi)⟩
theorem sv_le_trans {σ τ υ : sv_S} (a : sv_le σ τ) (b : sv_le τ υ) : sv_le σ υ := fun i hi => by
  obtain ⟨h1, h2⟩ := a i hi
  obtain ⟨h3, h4⟩ := b i h1
  exact ⟨h3, sv_fle_trans h2 h4⟩
/-- what is absorbed changes nothing -/
theorem sv_o_abs {n t : Nat} {oc : Option sv_F} {σ : sv_S} (hσ : sv_ok σ) (h : sv_ab n t oc σ) : sv_o n t oc σ = σ := by
  cases oc with
  | none => rfl
  | some c =>
    show sv_jn n t c σ = σ
    funext i
    unfold sv_jn
    by_cases q : i = t ∧ t < n
    · rw [if_pos q]
      obtain ⟨rfl, ht⟩ := q
      obtain ⟨h1, h2⟩ := h c rfl ht
      rw [if_pos h1]
      refine Prod.ext h1.symm ?_
      funext v
      show (if v < 4 then _ else _) = _
      by_cases hv : v < 4
      · rw [if_pos hv]; exact ft_jn_abs (hσ i h1 v hv) (h2 v hv)
      · rw [if_neg hv]
    · rw [if_neg q]
theorem sv_step_abs {n : Nat} {p : Nat → Nat → Int32} {i : Nat} {σ : sv_S} (hσ : sv_ok σ) (h : sv_abs n p i σ) : sv_step n p i σ = σ := by
  unfold sv_abs at h
  unfold sv_step
  by_cases c1 : p i 0 = 11
  · rw [if_pos c1]
  · rw [if_neg c1] at h ⊢
    by_cases c2 : p i 0 = 9
    · rw [if_pos c2] at h ⊢; exact sv_o_abs hσ h
    · rw [if_neg c2] at h ⊢
      by_cases c3 : p i 0 = 7 ∨ p i 0 = 8
      · rw [if_pos c3] at h ⊢
        rw [sv_o_abs hσ h.1]
        exact sv_o_abs hσ h.2
      · rw [if_neg c3] at h ⊢; exact sv_o_abs hσ h
/-- a state that comes: good, larger; it is absorbed then -/
theorem sv_o_grow {n t : Nat} {oc : Option sv_F} {σ : sv_S} (hσ : sv_ok σ) (hc : ∀ c, oc = some c → sv_fok c) : sv_ok (sv_o n t oc σ) ∧ sv_le σ (sv_o n t oc σ) ∧ sv_ab n t oc (sv_o n t oc σ) ∧ (∀ i, i ≠ t → sv_o n t oc σ i = σ i) ∧ (¬ t < n → sv_o n t oc σ = σ) := by
  cases oc with
  | none => exact ⟨hσ, sv_le_refl hσ, fun c h => (by cases h), fun _ _ => rfl, fun _ => rfl⟩
  | some c =>
    have hc := hc c rfl
    have hne : ∀ i, ¬ (i = t ∧ t < n) → sv_jn n t c σ i = σ i := fun i q => by unfold sv_jn; rw [if_neg q]
    have heq : t < n → sv_jn n t c σ t = (true, if (σ t).1 = true then fun v => if v < 4 then ft_jn ((σ t).2 v) (c v) else (σ t).2 v else c) := fun q => by unfold sv_jn; rw [if_pos ⟨rfl, q⟩]
    refine ⟨fun i hi v hv => ?_, fun i hi => ?_, fun c' e ht => ?_, fun i hi => hne i (fun q => hi q.1), fun q => funext (fun i => hne i (fun z => q z.2))⟩
    · have hi : (sv_jn n t c σ i).1 = true := hi
      show ft_ok ((sv_jn n t c σ i).2 v)
      by_cases q : i = t ∧ t < n
      · obtain ⟨rfl, ht⟩ := q
        rw [heq ht]
        show ft_ok ((if (σ i).1 = true then _ else _ : sv_F) v)
        by_cases l : (σ i).1 = true
        · rw [if_pos l]
          show ft_ok (if v < 4 then _ else _)
          rw [if_pos hv]; exact ft_jn_ok (hσ i l v hv) (hc v hv)
        · rw [if_neg l]; exact hc v hv
      · rw [hne i q] at hi ⊢; exact hσ i hi v hv
    · show (sv_jn n t c σ i).1 = true ∧ sv_fle (σ i).2 (sv_jn n t c σ i).2
      by_cases q : i = t ∧ t < n
      · obtain ⟨rfl, ht⟩ := q
        rw [heq ht]
        refine ⟨rfl, fun v hv => ?_⟩
        show ft_le _ ((if (σ i).1 = true then _ else _ : sv_F) v)
        rw [if_pos hi]
        show ft_le _ (if v < 4 then _ else _)
        rw [if_pos hv]; exact (ft_le_jn (hσ i hi v hv) (hc v hv)).1
      · rw [hne i q]; exact ⟨hi, sv_fle_refl (hσ i hi)⟩
    · cases e
      show (sv_jn n t c σ t).1 = true ∧ sv_fle c (sv_jn n t c σ t).2
      rw [heq ht]
      refine ⟨rfl, fun v hv => ?_⟩
      show ft_le _ ((if (σ t).1 = true then _ else _ : sv_F) v)
      by_cases l : (σ t).1 = true
      · rw [if_pos l]
        show ft_le _ (if v < 4 then _ else _)
        rw [if_pos hv]; exact (ft_le_jn (hσ t l v hv) (hc v hv)).2
      · rw [if_neg l]; exact ft_le_refl (hc v hv)
theorem sv_ab_mono {n t : Nat} {oc : Option sv_F} {σ τ : sv_S} (h : sv_ab n t oc σ) (hl : sv_le σ τ) : sv_ab n t oc τ := fun c e ht => by
  obtain ⟨h1, h2⟩ := h c e ht
  obtain ⟨h3, h4⟩ := hl t h1
  exact ⟨h3, sv_fle_trans h2 h4⟩
theorem sv_abs_mono {n : Nat} {p : Nat → Nat → Int32} {i : Nat} {σ τ : sv_S} (h : sv_abs n p i σ) (hl : sv_le σ τ) (e : τ i = σ i) : sv_abs n p i τ := by
  unfold sv_abs at h ⊢
  rw [e]
  by_cases c1 : p i 0 = 11
  · rw [if_pos c1]; trivial
  · rw [if_neg c1] at h ⊢
    by_cases c2 : p i 0 = 9
    · rw [if_pos c2] at h ⊢; exact sv_ab_mono h hl
    · rw [if_neg c2] at h ⊢
      by_cases c3 : p i 0 = 7 ∨ p i 0 = 8
      · rw [if_pos c3] at h ⊢; exact ⟨sv_ab_mono h.1 hl, sv_ab_mono h.2 hl⟩
      · rw [if_neg c3] at h ⊢; exact sv_ab_mono h hl
theorem sv_up_ok {f : sv_F} {a : Nat} {x : ft_T} (hf : sv_fok f) (hx : ft_ok x) : sv_fok (sv_up f a x) := fun v hv => by
  unfold sv_up
  by_cases e : v = a
  · rw [if_pos e]; exact hx
  · rw [if_neg e]; exact hf v hv
def kp_n (kept : Int32) (t : Nat) : Prop := t < 8 ∧ ∀ s, s < 8 → nI s &&& kept = nI (s &&& t)
theorem kp_2 : kp_n 2 2 := ⟨by decide, by decide +kernel⟩
theorem kp_1 : kp_n 1 1 := ⟨by decide, by decide +kernel⟩
theorem kp_5 : kp_n 5 5 := ⟨by decide, by decide +kernel⟩
theorem kp_6 : kp_n 6 6 := ⟨by decide, by decide +kernel⟩
theorem sv_keep_ok {f c : sv_F} {a t : Nat} {kept : Int32} (hf : sv_fok f) (ha : a < 4) (hk : kp_n kept t) (h : sv_keep f a kept = some c) : sv_fok c ∧ c a = ft_keep (f a) kept ∧ ∃ s, s < 8 ∧ (c a).2.2 = nI s ∧ s &&& t = s := by
  unfold sv_keep at h
  by_cases e : (ft_keep (f a) kept).2.2 = 0
  · rw [if_pos e] at h; cases h
  · rw [if_neg e] at h
    cases h
    have hca : sv_up f a (ft_keep (f a) kept) a = ft_keep (f a) kept := if_pos rfl
    rcases ft_keep_ok (hf a ha) hk.1 hk.2 with q | ⟨q1, q2⟩
    · exact absurd q e
    · exact ⟨sv_up_ok hf q1, hca, by rw [hca]; exact q2⟩
theorem sv_thru_ok {q : Nat → Int32} {f c : sv_F} (hq : in_ok q) (hf : sv_fok f) (h : sv_thru q f = some c) : sv_fok c := by
  obtain ⟨o, ho, h0, h1, h2, h3⟩ := hq
  unfold sv_thru at h
  have cl : ∀ {a : Nat} {x : Int32}, a < 4 → x = nI a → x.toNatClampNeg < 4 := fun {a} {x} ha e => by rw [e, nI_clamp (by omega)]; exact ha
  have oeq : ∀ k : Nat, k < 13 → (q 0 = nI k ↔ o = k) := fun k hk => by rw [h0]; exact nI_eq (by omega) (by omega)
  by_cases c0 : q 0 = 0
  · rw [if_pos c0] at h; cases h; exact sv_up_ok hf (ft_num_ok _)
  · rw [if_neg c0] at h
    by_cases c1 : q 0 = 1
    · rw [if_pos c1] at h; cases h
      have e : o = 1 := (oeq 1 (by decide)).mp c1
      subst e
      obtain ⟨b, hb, eb⟩ := h2
      exact sv_up_ok hf (hf _ (cl hb eb))
    · rw [if_neg c1] at h
      by_cases c2 : q 0 = 2 ∨ q 0 = 3 ∨ q 0 = 4
      · rw [if_pos c2] at h; cases h
        have e : 2 ≤ o ∧ o ≤ 4 := by
          rcases c2 with c | c | c
          · have := (oeq 2 (by decide)).mp c; omega
          · have := (oeq 3 (by decide)).mp c; omega
          · have := (oeq 4 (by decide)).mp c; omega
        rw [if_pos (by omega)] at h2 h3
        obtain ⟨b, hb, eb⟩ := h2
        obtain ⟨d, hd, ed⟩ := h3
        exact sv_up_ok hf (ft_res_ok (hf _ (cl hb eb)) (hf _ (cl hd ed)) (by rcases c2 with c | c | c <;> simp [c]))
      · rw [if_neg c2] at h
        by_cases c5 : q 0 = 5
        · rw [if_pos c5] at h
          have e : o = 5 := (oeq 5 (by decide)).mp c5
          subst e
          obtain ⟨b, hb, eb⟩ := h2
          obtain ⟨d, hd, ed⟩ := h3
          cases hk : sv_keep f (q 3).toNatClampNeg 5 with
          | none => rw [hk] at h; cases h
          | some k =>
            rw [hk] at h
            cases h
            obtain ⟨k1, k2, s, k3, k4, k5⟩ := sv_keep_ok hf (cl hd ed) kp_5 hk
            refine sv_up_ok k1 (ft_res_ok (k1 _ (cl hb eb)) (k1 _ (cl hd ed)) (Or.inr (Or.inr (Or.inr ⟨rfl, ?_⟩))))
            rw [k4]
            exact (by decide +kernel : ∀ s, s < 8 → s &&& 5 = s → nI s &&& 2 = 0) s k3 k5
        · rw [if_neg c5] at h
          by_cases c6 : q 0 = 6
          · rw [if_pos c6] at h; cases h; exact sv_up_ok hf ft_any_ok
          · rw [if_neg c6] at h; cases h; exact hf
theorem in_a {q : Nat → Int32} (hq : in_ok q) (h : q 0 = 7 ∨ q 0 = 8) : (q 1).toNatClampNeg < 4 := by
  obtain ⟨o, ho, h0, h1, -⟩ := hq
  have e : o = 7 ∨ o = 8 := by
    rw [h0] at h
    rcases h with h | h
    · exact Or.inl ((nI_eq (b := 7) (by omega) (by omega)).mp h)
    · exact Or.inr ((nI_eq (b := 8) (by omega) (by omega)).mp h)
  rw [if_neg (by omega)] at h1
  obtain ⟨a, ha, ea⟩ := h1
  rw [ea, nI_clamp (by omega)]; exact ha
theorem kp_way (o : Int32) : ∃ t, kp_n (sv_way o) t := by
  unfold sv_way
  by_cases e : o = 7
  · rw [if_pos e]; exact ⟨2, kp_2⟩
  · rw [if_neg e]; exact ⟨1, kp_1⟩
theorem kp_oth (o : Int32) : ∃ t, kp_n (sv_oth o) t := by
  unfold sv_oth
  by_cases e : o = 7
  · rw [if_pos e]; exact ⟨5, kp_5⟩
  · rw [if_neg e]; exact ⟨6, kp_6⟩
/-- a step: good, larger; where the instruction's own state didn't grow, all that comes of it is absorbed -/
theorem sv_step_grow {n : Nat} {p : Nat → Nat → Int32} {i : Nat} {σ : sv_S} (hσ : sv_ok σ) (hl : (σ i).1 = true) (hp : in_ok (p i)) : sv_ok (sv_step n p i σ) ∧ sv_le σ (sv_step n p i σ) ∧ (sv_step n p i σ i = σ i → sv_abs n p i (sv_step n p i σ)) := by
  unfold sv_step sv_abs
  by_cases c1 : p i 0 = 11
  · rw [if_pos c1]; exact ⟨hσ, sv_le_refl hσ, fun _ => by rw [if_pos c1]; trivial⟩
  · rw [if_neg c1]
    by_cases c2 : p i 0 = 9
    · rw [if_pos c2]
      obtain ⟨a1, a2, a3, -⟩ := sv_o_grow (n := n) (t := (p i 3).toNatClampNeg) (oc := some (σ i).2) hσ (fun c e => by cases e; exact hσ i hl)
      refine ⟨a1, a2, fun e => ?_⟩
      rw [if_neg c1, if_pos c2, e]; exact a3
    · rw [if_neg c2]
      by_cases c3 : p i 0 = 7 ∨ p i 0 = 8
      · rw [if_pos c3]
        obtain ⟨t1, kt1⟩ := kp_way (p i 0)
        obtain ⟨t2, kt2⟩ := kp_oth (p i 0)
        have ha := in_a hp c3
        obtain ⟨a1, a2, a3, a4, -⟩ := sv_o_grow (n := n) (t := (p i 3).toNatClampNeg) (oc := sv_keep (σ i).2 (p i 1).toNatClampNeg (sv_way (p i 0))) hσ (fun c e => (sv_keep_ok (hσ i hl) ha kt1 e).1)
        generalize hτ : sv_o n (p i 3).toNatClampNeg (sv_keep (σ i).2 (p i 1).toNatClampNeg (sv_way (p i 0))) σ = τ at *
        obtain ⟨b1, b2, b3, b4, -⟩ := sv_o_grow (n := n) (t := i + 1) (oc := sv_keep (τ i).2 (p i 1).toNatClampNeg (sv_oth (p i 0))) a1 (fun c e => (sv_keep_ok (a1 i (a2 i hl).1) ha kt2 e).1)
        refine ⟨b1, sv_le_trans a2 b2, fun e => ?_⟩
        have e1 : τ i = σ i := (b4 i (by omega)).symm.trans e
        rw [if_neg c1, if_neg c2, if_pos c3, e]
        refine ⟨sv_ab_mono a3 b2, ?_⟩
        rw [e1] at b3 ⊢
        exact b3
      · rw [if_neg c3]
        obtain ⟨a1, a2, a3, -⟩ := sv_o_grow (n := n) (t := i + 1) (oc := sv_thru (p i) (σ i).2) hσ (fun c e => sv_thru_ok hp (hσ i hl) e)
        refine ⟨a1, a2, fun e => ?_⟩
        rw [if_neg c1, if_neg c2, if_neg c3, e]; exact a3
/-! passes -/
def sv_pass (n : Nat) (p : Nat → Nat → Int32) : Nat → sv_S → sv_S
  | 0, σ => σ
  | k + 1, σ => if (sv_pass n p k σ k).1 = true then sv_step n p k (sv_pass n p k σ) else sv_pass n p k σ
def sv_it (n : Nat) (p : Nat → Nat → Int32) : Nat → sv_S → sv_S
  | 0, σ => σ
  | k + 1, σ => sv_pass n p n (sv_it n p k σ)
def sv_0 (n : Nat) : sv_S := fun i => (decide (i = 0 ∧ 0 < n), fun _ => (32, 0, 2))
/-- the solution -/
def sv_sol (n : Nat) (p : Nat → Nat → Int32) : sv_S := sv_it n p 2000 (sv_0 n)
theorem sv_0_ok (n : Nat) : sv_ok (sv_0 n) := fun _ _ _ _ => ft_zero_ok
theorem sv_pass_ok {n : Nat} {p : Nat → Nat → Int32} (hp : ∀ i, i < n → in_ok (p i)) {σ : sv_S} (hσ : sv_ok σ) : ∀ k, k ≤ n → sv_ok (sv_pass n p k σ) ∧ sv_le σ (sv_pass n p k σ)
  | 0, _ => ⟨hσ, sv_le_refl hσ⟩
  | k + 1, hk => by
    obtain ⟨h1, h2⟩ := sv_pass_ok hp hσ k (by omega)
    unfold sv_pass
    by_cases c : (sv_pass n p k σ k).1 = true
    · rw [if_pos c]
      obtain ⟨g1, g2, -⟩ := sv_step_grow (n := n) h1 c (hp k (by omega))
      exact ⟨g1, sv_le_trans h2 g2⟩
    · rw [if_neg c]; exact ⟨h1, h2⟩
theorem sv_it_ok {n : Nat} {p : Nat → Nat → Int32} (hp : ∀ i, i < n → in_ok (p i)) {σ : sv_S} (hσ : sv_ok σ) : ∀ k, sv_ok (sv_it n p k σ)
  | 0 => hσ
  | k + 1 => (sv_pass_ok hp (sv_it_ok hp hσ k) n (Nat.le_refl _)).1
theorem sv_it_fix {n : Nat} {p : Nat → Nat → Int32} {σ : sv_S} {k : Nat} (h : sv_pass n p n (sv_it n p k σ) = sv_it n p k σ) : ∀ j, k ≤ j → sv_it n p j σ = sv_it n p k σ := by
  intro j hj
  induction j with
  | zero => rw [show k = 0 by omega]
  | succ j ih =>
    rcases Nat.lt_or_ge j k with q | q
    · rw [show k = j + 1 by omega]
    · show sv_pass n p n (sv_it n p j σ) = _
      rw [ih q]; exact h
/-- all are absorbed: a pass changes nothing -/
theorem sv_pass_abs {n : Nat} {p : Nat → Nat → Int32} {σ : sv_S} (hσ : sv_ok σ) (h : ∀ i, i < n → (σ i).1 = true → sv_abs n p i σ) : ∀ k, k ≤ n → sv_pass n p k σ = σ
  | 0, _ => rfl
  | k + 1, hk => by
    unfold sv_pass
    rw [sv_pass_abs hσ h k (by omega)]
    by_cases c : (σ k).1 = true
    · rw [if_pos c]; exact sv_step_abs hσ (h k (by omega) c)
    · rw [if_neg c]
/-! a measure: passes end -/
def mu_4 (f : sv_F) : Nat := mu_f (f 0) + mu_f (f 1) + mu_f (f 2) + mu_f (f 3)
def mu_1 (x : Bool × sv_F) : Nat := if x.1 = true then mu_4 x.2 else 77
def mu_n (σ : sv_S) : Nat → Nat
  | 0 => 0
  | k + 1 => mu_n σ k + mu_1 (σ k)
theorem mu_4_le {f : sv_F} (h : sv_fok f) : mu_4 f ≤ 76 := by
  have h0 := mu_f_le (h 0 (by decide))
  have h1 := mu_f_le (h 1 (by decide))
  have h2 := mu_f_le (h 2 (by decide))
  have h3 := mu_f_le (h 3 (by decide))
  unfold mu_4
  omega
theorem mu_n_le {σ : sv_S} (hσ : sv_ok σ) : ∀ k, mu_n σ k ≤ 77 * k
  | 0 => Nat.le_refl _
  | k + 1 => by
    have := mu_n_le hσ k
    unfold mu_n mu_1
    by_cases c : (σ k).1 = true
    · rw [if_pos c]
      have := mu_4_le (hσ k c)
      omega
    · rw [if_neg c]; omega
/-- a coming state: the target's number falls, unless nothing changes -/
theorem mu_jn1 {n t : Nat} {c : sv_F} {σ : sv_S} (hσ : sv_ok σ) (hc : sv_fok c) (i : Nat) : mu_1 (sv_jn n t c σ i) ≤ mu_1 (σ i) ∧ (sv_jn n t c σ i ≠ σ i → mu_1 (sv_jn n t c σ i) < mu_1 (σ i)) := by
  unfold sv_jn
  by_cases q : i = t ∧ t < n
  · rw [if_pos q]
    obtain ⟨rfl, ht⟩ := q
    by_cases l : (σ i).1 = true
    · rw [if_pos l]
      unfold mu_1
      rw [if_pos rfl, if_pos l]
      have hm : ∀ v, v < 4 → mu_f (ft_jn ((σ i).2 v) (c v)) ≤ mu_f ((σ i).2 v) ∧ (ft_jn ((σ i).2 v) (c v) ≠ (σ i).2 v → mu_f (ft_jn ((σ i).2 v) (c v)) < mu_f ((σ i).2 v)) := fun v hv => by
        obtain ⟨a1, a2⟩ := mu_jn (hσ i l v hv) (hc v hv)
        exact ⟨a1, fun e => a2 (fun z => e (ft_jn_same (hσ i l v hv) (hc v hv) z.1 z.2))⟩
      have e4 : mu_4 (fun v => if v < 4 then ft_jn ((σ i).2 v) (c v) else (σ i).2 v) = mu_f (ft_jn ((σ i).2 0) (c 0)) + mu_f (ft_jn ((σ i).2 1) (c 1)) + mu_f (ft_jn ((σ i).2 2) (c 2)) + mu_f (ft_jn ((σ i).2 3) (c 3)) := rfl
      show mu_4 _ ≤ mu_4 _ ∧ (_ → mu_4 _ < mu_4 _)
      rw [e4]
      unfold mu_4
      have m0 := hm 0 (by decide)
      have m1 := hm 1 (by decide)
      have m2 := hm 2 (by decide)
      have m3 := hm 3 (by decide)
      refine ⟨by omega, fun e => ?_⟩
      have : ¬ (∀ v, v < 4 → ft_jn ((σ i).2 v) (c v) = (σ i).2 v) := fun z => e (Prod.ext l.symm (funext (fun v => by
        show (if v < 4 then _ else _) = _
        by_cases hv : v < 4
        · rw [if_pos hv]; exact z v hv
        · rw [if_neg hv])))
      by_cases z0 : ft_jn ((σ i).2 0) (c 0) = (σ i).2 0
      · by_cases z1 : ft_jn ((σ i).2 1) (c 1) = (σ i).2 1
        · by_cases z2 : ft_jn ((σ i).2 2) (c 2) = (σ i).2 2
          · by_cases z3 : ft_jn ((σ i).2 3) (c 3) = (σ i).2 3
            · exact absurd (fun v hv => by
                rcases (show v = 0 ∨ v = 1 ∨ v = 2 ∨ v = 3 by omega) with rfl | rfl | rfl | rfl
                · exact z0
                · exact z1
                · exact z2
                · exact z3) this
            · have := m3.2 z3; omega
          · have := m2.2 z2; omega
        · have := m1.2 z1; omega
      · have := m0.2 z0; omega
    · rw [if_neg l]
      unfold mu_1
      rw [if_pos rfl, if_neg l]
      have := mu_4_le hc
      exact ⟨by show mu_4 c ≤ 77; omega, fun _ => by show mu_4 c < 77; omega⟩
  · rw [if_neg q]; exact ⟨Nat.le_refl _, fun e => absurd rfl e⟩
theorem mu_o1 {n t : Nat} {oc : Option sv_F} {σ : sv_S} (hσ : sv_ok σ) (hc : ∀ c, oc = some c → sv_fok c) (i : Nat) : mu_1 (sv_o n t oc σ i) ≤ mu_1 (σ i) ∧ (sv_o n t oc σ i ≠ σ i → mu_1 (sv_o n t oc σ i) < mu_1 (σ i)) := by
  cases oc with
  | none => exact ⟨Nat.le_refl _, fun e => absurd rfl e⟩
  | some c => exact mu_jn1 hσ (hc c rfl) i
theorem mu_s1 {n : Nat} {p : Nat → Nat → Int32} {i : Nat} {σ : sv_S} (hσ : sv_ok σ) (hl : (σ i).1 = true) (hp : in_ok (p i)) (j : Nat) : mu_1 (sv_step n p i σ j) ≤ mu_1 (σ j) ∧ (sv_step n p i σ j ≠ σ j → mu_1 (sv_step n p i σ j) < mu_1 (σ j)) := by
  unfold sv_step
  by_cases c1 : p i 0 = 11
  · rw [if_pos c1]; exact ⟨Nat.le_refl _, fun e => absurd rfl e⟩
  · rw [if_neg c1]
    by_cases c2 : p i 0 = 9
    · rw [if_pos c2]; exact mu_o1 hσ (fun c e => by cases e; exact hσ i hl) j
    · rw [if_neg c2]
      by_cases c3 : p i 0 = 7 ∨ p i 0 = 8
      · rw [if_pos c3]
        obtain ⟨t1, kt1⟩ := kp_way (p i 0)
        obtain ⟨t2, kt2⟩ := kp_oth (p i 0)
        have ha := in_a hp c3
        obtain ⟨a1, a2, -⟩ := sv_o_grow (n := n) (t := (p i 3).toNatClampNeg) (oc := sv_keep (σ i).2 (p i 1).toNatClampNeg (sv_way (p i 0))) hσ (fun c e => (sv_keep_ok (hσ i hl) ha kt1 e).1)
        have m1 := mu_o1 (n := n) (t := (p i 3).toNatClampNeg) (oc := sv_keep (σ i).2 (p i 1).toNatClampNeg (sv_way (p i 0))) hσ (fun c e => (sv_keep_ok (hσ i hl) ha kt1 e).1) j
        generalize sv_o n (p i 3).toNatClampNeg (sv_keep (σ i).2 (p i 1).toNatClampNeg (sv_way (p i 0))) σ = τ at *
        have m2 := mu_o1 (n := n) (t := i + 1) (oc := sv_keep (τ i).2 (p i 1).toNatClampNeg (sv_oth (p i 0))) a1 (fun c e => (sv_keep_ok (a1 i (a2 i hl).1) ha kt2 e).1) j
        refine ⟨by omega, fun e => ?_⟩
        by_cases z : τ j = σ j
        · have := m2.2 (fun q => e (q.trans z)); omega
        · have := m1.2 z; omega
      · rw [if_neg c3]; exact mu_o1 hσ (fun c e => sv_thru_ok hp (hσ i hl) e) j
theorem mu_sum {σ τ : sv_S} (h : ∀ j, mu_1 (τ j) ≤ mu_1 (σ j)) : ∀ n, mu_n τ n ≤ mu_n σ n ∧ ∀ j, j < n → mu_1 (τ j) < mu_1 (σ j) → mu_n τ n < mu_n σ n
  | 0 => ⟨Nat.le_refl _, fun j hj => absurd hj (Nat.not_lt_zero _)⟩
  | n + 1 => by
    obtain ⟨h1, h2⟩ := mu_sum h n
    have h3 := h n
    refine ⟨by unfold mu_n; omega, fun j hj q => ?_⟩
    unfold mu_n
    by_cases e : j = n
    · subst e; omega
    · have := h2 j (by omega) q
      omega
/-! the class takes only what waits: the same states come -/
def sv_inv (n : Nat) (p : Nat → Nat → Int32) (σ : sv_S) (w : Nat → Bool) : Prop := sv_ok σ ∧ (∀ j, j < n → w j = true → (σ j).1 = true) ∧ ∀ j, j < n → (σ j).1 = true → w j = false → sv_abs n p j σ
theorem sv_inv_skip {n : Nat} {p : Nat → Nat → Int32} {σ : sv_S} {w : Nat → Bool} (h : sv_inv n p σ w) {i : Nat} (hi : i < n) (hw : w i = false) : (if (σ i).1 = true then sv_step n p i σ else σ) = σ := by
  by_cases c : (σ i).1 = true
  · rw [if_pos c]; exact sv_step_abs h.1 (h.2.2 i hi c hw)
  · rw [if_neg c]
theorem sv_inv_do {n : Nat} {p : Nat → Nat → Int32} {σ : sv_S} {w w' : Nat → Bool} (h : sv_inv n p σ w) {i : Nat} (hi : i < n) (hw : w i = true) (hp : in_ok (p i)) (h1 : ∀ j, j < n → w' j = false → sv_step n p i σ j = σ j ∧ (j = i ∨ w j = false)) (h2 : ∀ j, j < n → w' j = true → (sv_step n p i σ j).1 = true) : sv_inv n p (sv_step n p i σ) w' := by
  have hl := h.2.1 i hi hw
  obtain ⟨g1, g2, g3⟩ := sv_step_grow (n := n) h.1 hl hp
  refine ⟨g1, h2, fun j hj lj wj => ?_⟩
  obtain ⟨e, c⟩ := h1 j hj wj
  by_cases q : j = i
  · subst q; exact g3 e
  · rcases c with c | c
    · exact absurd c q
    · rw [e] at lj
      exact sv_abs_mono (h.2.2 j hj lj c) g2 e
theorem sv_inv_end {n : Nat} {p : Nat → Nat → Int32} {σ : sv_S} {w : Nat → Bool} (h : sv_inv n p σ w) (hw : ∀ j, j < n → w j = false) : sv_pass n p n σ = σ := sv_pass_abs h.1 (fun i hi l => h.2.2 i hi l (hw i hi)) n (Nat.le_refl _)
theorem sv_inv_0 {n : Nat} (hn : 0 < n) {p : Nat → Nat → Int32} {w : Nat → Bool} (h0 : w 0 = true) (hw : ∀ j, 0 < j → j < n → w j = false) : sv_inv n p (sv_0 n) w := by
  refine ⟨sv_0_ok n, fun j hj q => ?_, fun j hj l q => ?_⟩
  · by_cases e : j = 0
    · subst e; exact decide_eq_true ⟨rfl, hn⟩
    · rw [hw j (by omega) hj] at q; cases q
  · by_cases e : j = 0
    · subst e; rw [h0] at q; cases q
    · have : ¬ (j = 0 ∧ 0 < n) := fun z => e z.1
      have l : decide (j = 0 ∧ 0 < n) = true := l
      rw [decide_eq_false this] at l; cases l
