/-! objects that are being made: the refs before the c-th are there -/
def wp_r (G : wm_G) (c o j : Nat) : Value := if j < c then .ref (G.B + sh_r o j) else .null
def wp_q (G : wm_G) (c o j : Nat) : Option Nat := if j < c then some (G.B + sh_r o j) else none
def wm_Pk (G : wm_G) (c o : Nat) (f : Nat → Int32) (k : Nat) : va_E := match k with
  | 0 => .inr (0, [wp_r G c o 0, wp_r G c o 1, wp_r G c o 2, wp_r G c o 3])
  | 1 => .inr (1, [wp_r G c o 0, .int (f 1), wp_r G c o 2])
  | 2 => .inr (2, [.int (f 0), .int (f 1), .int (f 2), .int (f 3)])
  | 3 => .inr (3, [.int (f 0), .int (f 1), .int (f 2)])
  | 4 => .inr (4, [wp_r G c o 0, .int (f 1)])
  | 5 => .inr (5, [wp_r G c o 0, .int (f 1), wp_r G c o 2, wp_r G c o 3])
  | 6 => .inr (6, [wp_r G c o 0, .int (f 1)])
  | 7 => .inr (7, [wp_r G c o 0, wp_r G c o 1, .int (f 2), .int (f 3), .int (f 4), .int (f 5)])
  | 8 => .inr (8, [.int (f 0), wp_r G c o 1, wp_r G c o 2, wp_r G c o 3, wp_r G c o 4, .int (f 5), wp_r G c o 6, wp_r G c o 7, wp_r G c o 8, wp_r G c o 9, .int (f 10), wp_r G c o 11, wp_r G c o 12, wp_r G c o 13, .int (f 14), .int (f 15), .int (f 16), .int (f 17), wp_r G c o 18, .int (f 19), .int (f 20), wp_r G c o 21, .int (f 22), wp_r G c o 23, .int (f 24)])
  | 20 => .inl (G.2.1 0, sh_n o, .inl f)
  | 21 => .inl (G.2.1 1, sh_n o, .inl f)
  | 22 => .inl (G.2.1 2, sh_n o, .inr (.inr (.inr (.inr (wp_q G c o)))))
  | 23 => .inl (G.2.1 3, sh_n o, .inr (.inr (.inr (.inr (wp_q G c o)))))
  | 24 => .inl (G.2.1 4, sh_n o, .inr (.inr (.inr (.inr (wp_q G c o)))))
  | _ => .inl (G.2.1 0, 0, .inl f)
def wm_P (G : wm_G) (c o : Nat) (f : Nat → Int32) : va_E := wm_Pk G c o f (kd o)
def wm_SC (G : wm_G) (K : Nat → Nat) : wm_Sh := fun k => wm_P G (K k) k
def cu (K : Nat → Nat) (o c : Nat) : Nat → Nat := fun a => if a = o then c else K a
theorem cu_at (K : Nat → Nat) (o c : Nat) : cu K o c o = c := if_pos rfl
theorem cu_ne (K : Nat → Nat) {o a : Nat} (c : Nat) (h : a ≠ o) : cu K o c a = K a := if_neg h
def wm_z (g : wm_Sg) (o : Nat) : wm_Sg := fun a => if a = o then (fun _ => 0) else g a
theorem wm_z_at (g : wm_Sg) (o : Nat) : wm_z g o o = fun _ => 0 := if_pos rfl
theorem wm_z_ne (g : wm_Sg) {o a : Nat} (h : a ≠ o) : wm_z g o a = g a := if_neg h
def limk (o k : Nat) : Nat := match k with
  | 0 => 4
  | 1 => 3
  | 4 => 1
  | 5 => 4
  | 6 => 1
  | 7 => 2
  | 8 => 24
  | 22 => sh_n o
  | 23 => sh_n o
  | 24 => sh_n o
  | _ => 0
def lim (o : Nat) : Nat := limk o (kd o)
theorem wp_r_in (G : wm_G) {c o j : Nat} (h : j < c) : wp_r G c o j = .ref (G.B + sh_r o j) := if_pos h
theorem wp_arr {cA : ClassId} {N : Nat} {f f' : Nat → Option Nat} (h : ∀ j, j < N → f j = f' j) : vp_cell cA (N, .inr (.inr (.inr (.inr f)))) = vp_cell cA (N, .inr (.inr (.inr (.inr f')))) := by
  rw [vp_cell_q, vp_cell_q]
  unfold arrV
  have e : (fun j : Fin N => va_rf (f j.val)) = fun j : Fin N => va_rf (f' j.val) := funext (fun j => by rw [h j.val j.isLt])
  rw [e]
/-- what is full is the shape -/
theorem wm_P_S {G : wm_G} {D : va_G} {cl : List vw_C} {q c o : Nat} {f : Nat → Int32} {H : Heap} (h : lim o ≤ c) : va_at D cl (q, wm_P G c o f) H ↔ va_at D cl (q, wm_S G o f) H := by
  unfold lim at h
  unfold wm_P wm_S
  generalize kd o = k at h ⊢
  have ar : ∀ cA : ClassId, sh_n o ≤ c → (va_at D cl (q, .inl (cA, sh_n o, .inr (.inr (.inr (.inr (wp_q G c o)))))) H ↔ va_at D cl (q, .inl (cA, sh_n o, .inr (.inr (.inr (.inr (fun j => some (G.B + sh_r o j))))))) H) := by
    intro cA hc
    show H[q]? = some (vp_cell _ _) ↔ H[q]? = some (vp_cell _ _)
    rw [wp_arr (f := wp_q G c o) (f' := fun j => some (G.B + sh_r o j)) (fun j hj => if_pos (by omega))]
  match k, h with
  | 0, h =>
    have h : 4 ≤ c := h
    unfold wm_Pk
    rw [wp_r_in G (show 0 < c by omega), wp_r_in G (show 1 < c by omega), wp_r_in G (show 2 < c by omega), wp_r_in G (show 3 < c by omega)]
    exact Iff.rfl
  | 1, h =>
    have h : 3 ≤ c := h
    unfold wm_Pk
    rw [wp_r_in G (show 0 < c by omega), wp_r_in G (show 2 < c by omega)]
    exact Iff.rfl
  | 2, h => exact Iff.rfl
  | 3, h => exact Iff.rfl
  | 4, h =>
    have h : 1 ≤ c := h
    unfold wm_Pk
    rw [wp_r_in G (show 0 < c by omega)]
    exact Iff.rfl
  | 5, h =>
    have h : 4 ≤ c := h
    unfold wm_Pk
    rw [wp_r_in G (show 0 < c by omega), wp_r_in G (show 2 < c by omega), wp_r_in G (show 3 < c by omega)]
    exact Iff.rfl
  | 6, h =>
    have h : 1 ≤ c := h
    unfold wm_Pk
    rw [wp_r_in G (show 0 < c by omega)]
    exact Iff.rfl
  | 7, h =>
    have h : 2 ≤ c := h
    unfold wm_Pk
    rw [wp_r_in G (show 0 < c by omega), wp_r_in G (show 1 < c by omega)]
    exact Iff.rfl
  | 8, h =>
    have h : 24 ≤ c := h
    unfold wm_Pk
    rw [wp_r_in G (show 1 < c by omega), wp_r_in G (show 2 < c by omega), wp_r_in G (show 3 < c by omega), wp_r_in G (show 4 < c by omega), wp_r_in G (show 6 < c by omega), wp_r_in G (show 7 < c by omega), wp_r_in G (show 8 < c by omega), wp_r_in G (show 9 < c by omega), wp_r_in G (show 11 < c by omega), wp_r_in G (show 12 < c by omega), wp_r_in G (show 13 < c by omega), wp_r_in G (show 18 < c by omega), wp_r_in G (show 21 < c by omega), wp_r_in G (show 23 < c by omega)]
    exact Iff.rfl
  | 20, h => exact Iff.rfl
  | 21, h => exact Iff.rfl
  | 22, h => exact ar _ h
  | 23, h => exact ar _ h
  | 24, h => exact ar _ h
  | 9, h => exact Iff.rfl
  | 10, h => exact Iff.rfl
  | 11, h => exact Iff.rfl
  | 12, h => exact Iff.rfl
  | 13, h => exact Iff.rfl
  | 14, h => exact Iff.rfl
  | 15, h => exact Iff.rfl
  | 16, h => exact Iff.rfl
  | 17, h => exact Iff.rfl
  | 18, h => exact Iff.rfl
  | 19, h => exact Iff.rfl
  | n + 25, h => exact Iff.rfl
section AL
variable {G : wm_G} {X : wm_X} {cc : ByteArray} {nL : Nat} {Ts : List Cond} {own : String} {d rc rs : Nat} {cells slots n : Nat} {S : wm_Sh} {g : wm_Sg} {pc : Nat} {L : List (Nat × Value)} {rest : List Value} {K : Nat → Nat}
/-- another way to say the same memory -/
theorem wm_as {S' : wm_Sh} {st : List Value} (h : ∀ k, k < n → ∀ H : Heap, va_at G.D vwCl (G.B + k, S k (g k)) H → va_at G.D vwCl (G.B + k, S' k (g k)) H) (kk : wm_W G X nL cells slots n S' g pc L st) : wm_W G X nL cells slots n S g pc L st := by
  intro H locs ls h1 h2 h3 h4
  refine kk H locs ls h1 (fun k q hq => ?_) h3 h4
  obtain ⟨hk, e⟩ := wm_l_of hq
  rw [e]
  exact h k hk H (h2 k _ (wm_l_at hk))
theorem wm_cv {K' : Nat → Nat} {st : List Value} (h : ∀ k, k < n → K' k = K k ∨ (lim k ≤ K k ∧ lim k ≤ K' k)) (kk : wm_W G X nL cells slots n (wm_SC G K') g pc L st) : wm_W G X nL cells slots n (wm_SC G K) g pc L st := wm_as (fun k hk H ha => by
  show va_at _ _ (_, wm_P G (K' k) k (g k)) H
  rcases h k hk with e | ⟨a, b⟩
  · rw [e]; exact ha
  · exact (wm_P_S b).mpr ((wm_P_S a).mp ha)) kk
theorem wm_cS {st : List Value} (h : ∀ k, k < n → lim k ≤ K k) (kk : wm_W G X nL cells slots n (wm_S G) g pc L st) : wm_W G X nL cells slots n (wm_SC G K) g pc L st := wm_as (fun k hk _ ha => (wm_P_S (h k hk)).mp ha) kk
theorem wm_objInit (C : wm_C G X cc nL Ts own d rc rs) {index o : Nat} (dd : decode cc pc = .ok (.invokespecial index, 3)) (w1 : Cond.methodLink own index Lib.objectInit ∈ Ts) (w2 : Cond.instanceMethod Lib.objectInit ∈ Ts) (w3 : Cond.code Lib.objectInit ⟨#[0xb1]⟩ 1 none ∈ Ts) (hd : 1 ≤ d) (hr : (rest.map fun v => v.category).sum ≤ 8) (k : wm_W G X nL cells slots n S g (pc + 3) L rest) : wm_W G X nL cells slots n S g pc L (.ref (G.B + o) :: rest) := fun H locs ls h1 h2 h3 h4 => W.objInit C.1 C.2.1 C.2.2.2.1 (C.2.2.2.2.1 _ w1) (C.2.2.2.2.1 _ w2) (C.2.2.2.2.1 _ w3) rfl (h4.1.trans C.2.2.1.symm) rfl dd (Nat.le_trans hd C.2.2.2.2.2.2.2.2.1) (by
  have := C.2.2.2.2.2.2.2.2.2.1
  show 2 * 0 + (rest.map fun v => v.category).sum + 12 ≤ X.R.locals
  omega) (k H locs ls h1 h2 h3 h4)
theorem wm_Sn {H H1 : Heap} {locs : List Loc} {A : Nat → Prop} {H0 : Heap} (h3 : va_S A H0 H locs) (z1 : H1.size = H.size + 1) (o1 : ∀ q : Nat, q < H.size → H1[q]? = H[q]?) : va_S A H0 H1 locs := ⟨Nat.le_trans h3.1 (by omega), fun x a b => (o1 x (Nat.lt_of_lt_of_le a h3.1)).trans (h3.2.1 x a b), h3.2.2⟩
theorem wm_new (C : wm_C G X cc nL Ts own d rc rs) {ci N index : Nat} {cn : String} {T : u_T} (ty : Nat → FieldType) (hty : ∀ k, k < N → parseFieldDescriptor (T k).2.2.1 = some (ty k)) (dd : decode cc pc = .ok (.new index, 3)) (hcl : Cond.classLink own index cn ∈ Ts) (hins : Cond.instantiable cn N ∈ Ts) (hini : Cond.initialized cn ∈ Ts) (hin : ∀ w ∈ u_ws cn T N, w ∈ Ts) (hc : vwCl[ci]? = some (cn, T, N)) {fs : List Value} (hP : wm_P G 0 n (fun _ => 0) = .inr (ci, fs)) (hfs : ∀ j, j < N → defaultValue (ty j) = vp_V fs j) (h1c : cells + 1 ≤ rc) (h1s : slots + N ≤ rs) (k : wm_W G X nL (cells + 1) (slots + N) (n + 1) (wm_SC G (cu K n 0)) (wm_z g n) (pc + 3) L (.ref (G.B + n) :: rest)) : wm_W G X nL cells slots n (wm_SC G K) g pc L rest := by
  intro H locs ls h1 h2 h3 h4
  have hts := C.2.2.2.2.1
  have hKn := C.2.2.2.2.2.1.1 ci _ hc
  refine W.newcK C.1 C.2.1 C.2.2.2.1 (hts _ hcl) (hts _ hins) (hts _ hini) rfl dd (Nat.le_trans h1c C.2.2.2.2.2.2.2.2.2.2.1) (Nat.le_trans h1s C.2.2.2.2.2.2.2.2.2.2.2) hKn.2.1 h1 fun H1 kC hkC e1 z1 o1 => ?_
  refine k H1 locs ls (by rw [z1]; rfl) (wm_l_push h2 (fun a ha => by unfold wm_SC; rw [cu_ne _ _ (by omega), wm_z_ne _ (by omega)]) o1 ?_) (wm_Sn h3 (by rw [z1, h1]) (fun q hq => o1 q (by rw [← h1]; exact hq))) h4
  have e : wm_SC G (cu K n 0) n (wm_z g n n) = .inr (ci, fs) := by unfold wm_SC; rw [cu_at, wm_z_at]; exact hP
  rw [e]
  exact ⟨_, hc, (u_born ty hts hin hKn hkC e1 hty).to hfs⟩
theorem wm_newi (C : wm_C G X cc nL Ts own d rc rs) {x : Int32} {N : Nat} (hk : kd n = 20) (hN : sh_n n = N) (dd : decode cc pc = .ok (.newarray .int, 2)) (ha : Cond.arrayClass .int ∈ Ts) (hx : ¬ x < 0) (hxN : x.toNatClampNeg = N) (hb : N ≤ 1000) (h1c : cells + 1 ≤ rc) (h1s : slots + N ≤ rs) (k : wm_W G X nL (cells + 1) (slots + N) (n + 1) (wm_SC G K) (wm_z g n) (pc + 2) L (.ref (G.B + n) :: rest)) : wm_W G X nL cells slots n (wm_SC G K) g pc L (.int x :: rest) := by
  intro H locs ls h1 h2 h3 h4
  have hts := C.2.2.2.2.1
  refine va_newaK C.1 C.2.1 (atype := .int) (hts _ ha) rfl dd rfl hx hxN (by show N * 4 ≤ _; omega) (Nat.le_trans h1c C.2.2.2.2.2.2.2.2.2.2.1) (Nat.le_trans h1s C.2.2.2.2.2.2.2.2.2.2.2) h1 fun H1 cA e1 z1 o1 hAr hNm => ?_
  have hA : cA = G.2.1 0 := Option.some.inj (hNm.symm.trans (C.2.2.2.2.2.1.2 0 (G.2.1 0, .int) rfl).2)
  refine k H1 locs ls (by rw [z1]; rfl) (wm_l_push h2 (fun a ha => by rw [wm_z_ne _ (by omega)]) o1 ?_) (wm_Sn h3 (by rw [z1, h1]) (fun q hq => o1 q (by rw [← h1]; exact hq))) h4
  have e : wm_SC G K n (wm_z g n n) = .inl (G.2.1 0, N, .inl (fun _ => 0)) := by unfold wm_SC wm_P; rw [hk, wm_z_at, ← hN]; rfl
  rw [e, ← hA]
  exact e1
theorem wm_newz (C : wm_C G X cc nL Ts own d rc rs) {x : Int32} {N : Nat} (hk : kd n = 21) (hN : sh_n n = N) (dd : decode cc pc = .ok (.newarray .boolean, 2)) (ha : Cond.arrayClass .boolean ∈ Ts) (hx : ¬ x < 0) (hxN : x.toNatClampNeg = N) (hb : N ≤ 1000) (h1c : cells + 1 ≤ rc) (h1s : slots + N ≤ rs) (k : wm_W G X nL (cells + 1) (slots + N) (n + 1) (wm_SC G K) (wm_z g n) (pc + 2) L (.ref (G.B + n) :: rest)) : wm_W G X nL cells slots n (wm_SC G K) g pc L (.int x :: rest) := by
  intro H locs ls h1 h2 h3 h4
  have hts := C.2.2.2.2.1
  refine va_newaK C.1 C.2.1 (atype := .boolean) (hts _ ha) rfl dd rfl hx hxN (by show N * 1 ≤ _; omega) (Nat.le_trans h1c C.2.2.2.2.2.2.2.2.2.2.1) (Nat.le_trans h1s C.2.2.2.2.2.2.2.2.2.2.2) h1 fun H1 cA e1 z1 o1 hAr hNm => ?_
  have hA : cA = G.2.1 1 := Option.some.inj (hNm.symm.trans (C.2.2.2.2.2.1.2 1 (G.2.1 1, .boolean) rfl).2)
  refine k H1 locs ls (by rw [z1]; rfl) (wm_l_push h2 (fun a ha => by rw [wm_z_ne _ (by omega)]) o1 ?_) (wm_Sn h3 (by rw [z1, h1]) (fun q hq => o1 q (by rw [← h1]; exact hq))) h4
  have e : wm_SC G K n (wm_z g n n) = .inl (G.2.1 1, N, .inl (fun _ => 0)) := by unfold wm_SC wm_P; rw [hk, wm_z_at, ← hN]; rfl
  rw [e, ← hA]
  exact e1
theorem wm_newq (C : wm_C G X cc nL Ts own d rc rs) {x : Int32} {N index t0 : Nat} {cn : String} (ht : G.t[t0]? = some (G.2.1 t0, .object cn)) (hP : wm_P G 0 n (fun _ => 0) = .inl (G.2.1 t0, N, .inr (.inr (.inr (.inr (wp_q G 0 n)))))) (dd : decode cc pc = .ok (.anewarray index, 3)) (hcl : Cond.classLink own index cn ∈ Ts) (hov : Cond.arrayOver (.object cn) ∈ wm_nw) (hx : ¬ x < 0) (hxN : x.toNatClampNeg = N) (hb : N ≤ 1000) (h1c : cells + 1 ≤ rc) (h1s : slots + N ≤ rs) (k : wm_W G X nL (cells + 1) (slots + N) (n + 1) (wm_SC G (cu K n 0)) (wm_z g n) (pc + 3) L (.ref (G.B + n) :: rest)) : wm_W G X nL cells slots n (wm_SC G K) g pc L (.int x :: rest) := by
  intro H locs ls h1 h2 h3 h4
  subst hxN
  have hts := C.2.2.2.2.1
  refine W.anew C.1 C.2.1 C.2.2.2.1 (hts _ hcl) (va_AO.use (C.2.2.2.2.2.2.2.1.2 _ hov)) rfl dd rfl hx (by omega) (Nat.le_trans h1c C.2.2.2.2.2.2.2.2.2.2.1) (Nat.le_trans h1s C.2.2.2.2.2.2.2.2.2.2.2) fun cA kA comp f1 f2 f3 f4 => ?_
  generalize hH1 : H.push ({ cls := cA, slots := Array.replicate x.toNatClampNeg .null, vm := .none } : Cell) = H1
  have z1 : H1.size = H.size + 1 := by rw [← hH1, Array.size_push]
  have e1 : H1[H.size]? = some (arrV cA x.toNatClampNeg (fun _ => .null)) := by rw [← hH1, Array.getElem?_push_size, ← arrV_new]
  have o1 : ∀ q : Nat, q < H.size → H1[q]? = H[q]? := fun q hq => by rw [← hH1, Array.getElem?_push, if_neg (Nat.ne_of_lt hq)]
  obtain ⟨_, _, -, -, -, k4⟩ := (C.2.2.2.2.2.1.2 t0 _ ht).2
  have hA : cA = G.2.1 t0 := Option.some.inj (f1.symm.trans k4)
  rw [h1] at e1 z1 o1 ⊢
  refine k H1 locs ls z1 (wm_l_push h2 (fun a ha => by unfold wm_SC; rw [cu_ne _ _ (by omega), wm_z_ne _ (by omega)]) o1 ?_) (wm_Sn h3 (by rw [z1, h1]) (fun q hq => o1 q (by rw [← h1]; exact hq))) h4
  have e : wm_SC G (cu K n 0) n (wm_z g n n) = .inl (G.2.1 t0, x.toNatClampNeg, .inr (.inr (.inr (.inr (wp_q G 0 n))))) := by unfold wm_SC; rw [cu_at, wm_z_at]; exact hP
  rw [e, ← hA]
  show H1[G.B + n]? = some (vp_cell _ _)
  rw [vp_cell_q, e1]
  rfl
/-- a final field is written in its class's constructor -/
theorem wm_putF (C : wm_C G X cc nL Ts own d rc rs) (hy : X.y.name = "<init>") {o ci index N q : Nat} {T : u_T} {fs : List Value} {ty : FieldType} {c : Nat} (j : Nat) (ty0 : Nat → FieldType) (hty : ∀ k, k < N → parseFieldDescriptor (T k).2.2.1 = some (ty0 k)) (hnm : ∀ a, a < N → ∀ b, b < N → a ≠ b → (T a).2.1 ≠ (T b).2.1) (dd : decode cc pc = .ok (.putfield index, 3)) (hm : wm_P G (K o) o (g o) = .inr (ci, fs)) (ho : o < n) (hc : vwCl[ci]? = some (own, T, N)) (hin : ∀ w ∈ u_ws own T N, w ∈ Ts) (hj : j < N) (hw : Cond.fieldLink own index (T j).1 (T j).2.1 (T j).2.2.1 ∈ Ts) (hfin : (T j).2.2.2 = true) (hdecl : (T j).1 = own) (hd : parseFieldDescriptor (T j).2.2.1 = some ty) (hn : narrow ty (.ref (G.B + q)) = .ref (G.B + q)) (hfit : fits ty (.ref (G.B + q)) = true) (hl : j < fs.length) (hn1 : wm_P G c o (g o) = .inr (ci, fs.set j (.ref (G.B + q)))) (k : wm_W G X nL cells slots n (wm_SC G (cu K o c)) g (pc + 3) L rest) : wm_W G X nL cells slots n (wm_SC G K) g pc L (.ref (G.B + q) :: .ref (G.B + o) :: rest) := by
  intro H locs ls h1 h2 h3 h4
  have hts := C.2.2.2.2.1
  have hK := C.2.2.2.2.2.1
  have hap := va_apart (own := own) hts hin ty0 hty hnm hK hc
  have hat := h2 o _ (wm_l_at ho)
  rw [show wm_SC G K o (g o) = .inr (ci, fs) from hm] at hat
  obtain ⟨r, e1, cell, q1, q2, q3, q4⟩ := hat
  cases e1.symm.trans hc
  obtain ⟨hS, hfc, kC, hkC, hkind⟩ := hK.1 ci _ hc
  obtain ⟨cf, kf, fi, f, hi, hsl⟩ := hS j hj
  have hlay := hts _ (hin _ (u_in_lay hj))
  unfold u_lay at hlay
  rw [if_pos hfin] at hlay
  have hst := (u_facts hfc hkC (u_lays hts hin hj) hi).1
  have hcf : X.m.cls = cf := by
    obtain ⟨_, _, c', _, _, _, -, -, hf', -, -, -, hown2, -⟩ := Cond.laysFinal_spec hlay
    have e1 : c' = cf := by have := hi.symm.trans hf'; simp at this; exact this.1.symm
    rw [hdecl] at hown2
    rw [← e1]; exact Option.some.inj (C.2.2.2.1.symm.trans hown2)
  have h6 := u_fits hfc hkC hkind (Or.inr hlay) hi hd hn hfit
  refine W.putFinK C.1 C.2.1 C.2.2.2.1 (hts _ hw) hi hst hcf hy (by rw [q2]; exact h6) q1 q3 (by rw [hsl]; exact k2_hasslot (q4 j hj)) rfl rfl dd fun H1 a1 a2 a3 => ?_
  rw [hsl] at a1 ⊢
  refine k H1 _ ls (a2.trans h1) (wm_l_put h2 (fun a _ h => by unfold wm_SC; rw [cu_ne _ _ h]) a3 ?_) (h3.put a2 a3 (Nat.le_add_right _ _)) h4
  rw [show wm_SC G (cu K o c) o (g o) = .inr (ci, fs.set j (.ref (G.B + q))) by unfold wm_SC; rw [cu_at]; exact hn1]
  exact ⟨_, hc, t_OB.to (V := updV (vp_V fs) j (.ref (G.B + q))) ⟨_, a1, q2, q3, t_set q4 hap hj _⟩ (fun i _ => vp_updV_set hl _ i)⟩
/-- the next element of an array of objects -/
theorem wm_ast (C : wm_C G X cc nL Ts own d rc rs) {o q t0 ci i N : Nat} {r : vw_C} {x : Int32} (dd : decode cc pc = .ok (.aastore, 1)) (ho : o < n) (hq : q < n) (hm : ∀ c, wm_P G c o (g o) = .inl (G.2.1 t0, N, .inr (.inr (.inr (.inr (wp_q G c o)))))) (ht : G.t[t0]? = some (G.2.1 t0, .object r.1)) (hv : ∃ vs, wm_P G (K q) q (g q) = .inr (ci, vs)) (hc : vwCl[ci]? = some r) (hi : i < N) (hx : x = nI i) (hN : N ≤ 1000) (hKo : K o = i) (hsh : sh_r o i = q) (k : wm_W G X nL cells slots n (wm_SC G (cu K o (i + 1))) g (pc + 1) L rest) : wm_W G X nL cells slots n (wm_SC G K) g pc L (.ref (G.B + q) :: .int x :: .ref (G.B + o) :: rest) := by
  intro H locs ls h1 h2 h3 h4
  obtain ⟨vs, hv⟩ := hv
  have hK := C.2.2.2.2.2.1
  have ex : x.toNatClampNeg = i := by rw [hx]; exact nI_clamp (by omega)
  have h0 : ¬ x < 0 := by rw [hx]; exact fun q => by have := (nI_ltI (b := 0) (show i < 2 ^ 31 by omega) (by decide)).mp q; omega
  have hat := h2 o _ (wm_l_at ho)
  rw [show wm_SC G K o (g o) = _ from hm (K o)] at hat
  have hvt := h2 q _ (wm_l_at hq)
  rw [show wm_SC G K q (g q) = _ from hv] at hvt
  obtain ⟨r', hr', cellV, g1, g2, g3, -⟩ := hvt
  have hcls := (hK.1 ci r hc).2
  obtain ⟨kA, comp, k1, k2, k3, -⟩ := (hK.2 t0 _ ht).2
  have hcomp : comp = G.D.1 ci := Option.some.inj (k3.symm.trans hcls.1)
  subst hcomp
  obtain ⟨kC, hkC, -⟩ := hcls.2
  refine W.aast C.1 C.2.1 hat (fun q h => by cases h) (fun h => by cases h) k1 k2 rfl hkC ⟨h0, by show _ < (arrV _ _ _).slots.size; rw [arrV_size, ex]; exact hi⟩ g1 (fun q h => by rw [g3] at h; cases h) (by rw [g2]; exact hkC) (by rw [g2]; exact va_assign hcls) rfl rfl dd fun H1 a1 a2 a3 => ?_
  refine k H1 _ ls (a2.trans h1) (wm_l_put h2 (fun a _ h => by unfold wm_SC; rw [cu_ne _ _ h]) a3 ?_) (h3.put a2 a3 (Nat.le_add_right _ _)) h4
  rw [show wm_SC G (cu K o (i + 1)) o (g o) = .inl (G.2.1 t0, N, .inr (.inr (.inr (.inr (wp_q G (i + 1) o))))) by unfold wm_SC; rw [cu_at]; exact hm (i + 1)]
  show H1[G.B + o]? = some (vp_cell _ _)
  rw [a1, vp_cell_q, vp_cell_q, arrV_store, ex]
  congr 2
  funext y
  unfold updV wp_q
  by_cases hy : y = i
  · rw [if_pos hy, if_pos (show y < i + 1 by omega), hy, hsh]; rfl
  · rw [if_neg hy, hKo]
    by_cases hz : y < i
    · show va_rf (if y < i then _ else _) = _
      rw [if_pos hz, if_pos (show y < i + 1 by omega)]
    · show va_rf (if y < i then _ else _) = _
      rw [if_neg hz, if_neg (show ¬ y < i + 1 by omega)]
variable {y : MethodName} {ws ws' : List Cond} {bytes : ByteArray} {maxL dy index mc ms : Nat}
theorem wm_cI (C : wm_C G X cc nL Ts own d rc rs) {o : Nat} {post : Nat → wm_Sh → wm_Sg → Prop} (hM : wm_MI X.l G y ws dy mc ms n S [.ref (G.B + o)] g post) (gi : GoodIn Ts ws) (hw : ws = Cond.code y bytes maxL none :: ws') (hi : Cond.initialized y.cls ∈ Ts) (hl : Cond.methodLink own index y ∈ Ts) (hin : Cond.instanceMethod y ∈ Ts) (hy1 : y.name = "<init>") (hd : y.cls ≠ "java/lang/invoke/MethodHandle" ∧ y.cls ≠ "java/lang/invoke/VarHandle" ∧ (parseMethodDescriptor y.desc).map (fun d => d.parameters.length) = some 0) (hdy : dy + 1 ≤ d) (hml : maxL ≤ 21) (dd : decode cc pc = .ok (.invokespecial index, 3)) (hr : (rest.map fun v => v.category).sum ≤ 8) (hcs : cells + mc ≤ rc) (hss : slots + ms ≤ rs) (k : ∀ (n' : Nat) (S' : wm_Sh) (g' : wm_Sg), post n' S' g' → wm_W G X nL (cells + mc) (slots + ms) n' S' g' (pc + 3) L rest) : wm_W G X nL cells slots n S g pc L (.ref (G.B + o) :: rest) := by
  intro H locs ls h1 h2 h3 h4
  refine va_callv (va_runI (As := []) (rest := rest) ⟨C.1, C.2.1, C.2.2.1, C.2.2.2.1, C.2.2.2.2.1⟩ hM (cwI 0 C.2.2.2.2.1 gi hw rfl rfl (C.2.2.2.2.1 _ hi) (C.2.2.2.2.1 _ hl) (C.2.2.2.2.1 _ hin) hy1 hd ⟨by show dy + 1 ≤ X.R.frames; have := C.2.2.2.2.2.2.2.2.1; omega, by show 8 + (maxL + 11) + 40 * dy ≤ X.R.locals; have := C.2.2.2.2.2.2.2.2.2.1; omega⟩) ⟨wm_A.blind, fun U hU hW => ⟨rfl, wm_A.pre C h1 h2 h3 U hU hW⟩⟩ rfl rfl h4.1 rfl (lv_room hr) dd ⟨Nat.le_trans hcs C.2.2.2.2.2.2.2.2.2.2.1, Nat.le_trans hss C.2.2.2.2.2.2.2.2.2.2.2⟩) h3 (fun q _ h => h) (fun q h => h) (fun u t H1 locs1 ht hvm hp hB hz hk hS => k u.1 u.2.1 u.2.2 hp H1 locs1 ls (by rw [← ht]; exact hB.1) (by rw [← ht]; exact hB.2) hS h4)
theorem wm_cIN (C : wm_C G X cc nL Ts own d rc rs) {o : Nat} {host : String} {post : Nat → wm_Sh → wm_Sg → Prop} (hM : wm_MI X.l G y ws dy mc ms n S [.ref (G.B + o)] g post) (gi : GoodIn Ts ws) (hnw : Cond.methodLinkNest own index y host ∈ wm_nw) (hw : ws = Cond.code y bytes maxL none :: ws') (hi : Cond.initialized y.cls ∈ Ts) (hin : Cond.instanceMethod y ∈ Ts) (hy1 : y.name = "<init>") (hd : y.cls ≠ "java/lang/invoke/MethodHandle" ∧ y.cls ≠ "java/lang/invoke/VarHandle" ∧ (parseMethodDescriptor y.desc).map (fun d => d.parameters.length) = some 0) (hdy : dy + 1 ≤ d) (hml : maxL ≤ 21) (dd : decode cc pc = .ok (.invokespecial index, 3)) (hr : (rest.map fun v => v.category).sum ≤ 8) (hcs : cells + mc ≤ rc) (hss : slots + ms ≤ rs) (k : ∀ (n' : Nat) (S' : wm_Sh) (g' : wm_Sg), post n' S' g' → wm_W G X nL (cells + mc) (slots + ms) n' S' g' (pc + 3) L rest) : wm_W G X nL cells slots n S g pc L (.ref (G.B + o) :: rest) := by
  intro H locs ls h1 h2 h3 h4
  refine va_callv (va_runIN (As := []) (rest := rest) ⟨C.1, C.2.1, C.2.2.1, C.2.2.2.1, C.2.2.2.2.1⟩ hM ⟨va_cnB 0 C.2.2.2.2.1 gi hw rfl rfl (C.2.2.2.2.2.2.2.1.2 _ hnw) (C.2.2.2.2.1 _ hi) hd ⟨by show dy + 1 ≤ X.R.frames; have := C.2.2.2.2.2.2.2.2.1; omega, by show 8 + (maxL + 11) + 40 * dy ≤ X.R.locals; have := C.2.2.2.2.2.2.2.2.2.1; omega⟩, hy1, C.2.2.2.2.1 _ hin⟩ ⟨wm_A.blind, fun U hU hW => ⟨rfl, wm_A.pre C h1 h2 h3 U hU hW⟩⟩ rfl rfl h4.1 rfl (lv_room hr) dd ⟨Nat.le_trans hcs C.2.2.2.2.2.2.2.2.2.2.1, Nat.le_trans hss C.2.2.2.2.2.2.2.2.2.2.2⟩) h3 (fun q _ h => h) (fun q h => h) (fun u t H1 locs1 ht hvm hp hB hz hk hS => k u.1 u.2.1 u.2.2 hp H1 locs1 ls (by rw [← ht]; exact hB.1) (by rw [← ht]; exact hB.2) hS h4)
end AL
