/-! The layer: a memory of n cells from the base B on, locals as a list, one judgement wm_W. -/
abbrev wm_Sh : Type := Nat → (Nat → Int32) → va_E
abbrev wm_Sg : Type := Nat → Nat → Int32
/-- the classes' numbers, the array classes, the base, the static tables' addresses -/
abbrev wm_G : Type := va_G × (Nat → ClassId) × Nat × (Nat → Nat)
abbrev wm_G.B (G : wm_G) : Nat := G.2.2.1
abbrev wm_G.t (G : wm_G) : List (ClassId × FieldType) := [(G.2.1 0, .int), (G.2.1 1, .boolean), (G.2.1 2, .object "FactFlow$Instruction"), (G.2.1 3, .object "FactFlow$Fact"), (G.2.1 4, .object "FactFlow$State")]
abbrev wm_G.D (G : wm_G) : va_G := G.1
abbrev wm_G.F (G : wm_G) : Nat → Prop := fun q => G.2.2.1 ≤ q
def wm_l (B n : Nat) (S : wm_Sh) (g : wm_Sg) : va_W := (List.range n).map (fun k => (B + k, S k (g k)))
/-- one int of one cell is another one -/
def wm_u (g : wm_Sg) (o j : Nat) (v : Int32) : wm_Sg := fun a => if a = o then upd (g o) j v else g a
theorem wm_u_self (g : wm_Sg) (o j : Nat) (v : Int32) : wm_u g o j v o = upd (g o) j v := if_pos rfl
theorem wm_u_ne (g : wm_Sg) {o a : Nat} (j : Nat) (v : Int32) (h : a ≠ o) : wm_u g o j v a = g a := if_neg h
theorem wm_l_at {B n : Nat} {S : wm_Sh} {g : wm_Sg} {k : Nat} (h : k < n) : (wm_l B n S g)[k]? = some (B + k, S k (g k)) := by
  simp [wm_l, h]
theorem wm_l_of {B n : Nat} {S : wm_Sh} {g : wm_Sg} {k : Nat} {q : Nat × va_E} (h : (wm_l B n S g)[k]? = some q) : k < n ∧ q = (B + k, S k (g k)) := by
  have hl : k < n := by
    have := (List.getElem?_eq_some_iff.mp h).1
    simpa [wm_l] using this
  rw [wm_l_at hl] at h
  exact ⟨hl, (Option.some.inj h).symm⟩
theorem wm_l_put {D : va_G} {cl : List vw_C} {B n o : Nat} {S S' : wm_Sh} {g g' : wm_Sg} {H H1 : Heap} (hP : va_P D cl (wm_l B n S g) H) (ho : ∀ k, k < n → k ≠ o → S' k (g' k) = S k (g k)) (oq : ∀ q : Nat, q ≠ B + o → H1[q]? = H[q]?) (hx : va_at D cl (B + o, S' o (g' o)) H1) : va_P D cl (wm_l B n S' g') H1 := by
  intro k q hk
  obtain ⟨hl, rfl⟩ := wm_l_of hk
  by_cases h : k = o
  · subst h; exact hx
  · rw [ho k hl h]
    exact (hP k _ (wm_l_at hl)).kept (oq _ (by show B + k ≠ B + o; omega))
theorem wm_l_push {D : va_G} {cl : List vw_C} {B n : Nat} {S S' : wm_Sh} {g g' : wm_Sg} {H H1 : Heap} (hP : va_P D cl (wm_l B n S g) H) (ho : ∀ k, k < n → S' k (g' k) = S k (g k)) (oq : ∀ q : Nat, q < B + n → H1[q]? = H[q]?) (hx : va_at D cl (B + n, S' n (g' n)) H1) : va_P D cl (wm_l B (n + 1) S' g') H1 := by
  intro k q hk
  obtain ⟨hl, rfl⟩ := wm_l_of hk
  by_cases h : k = n
  · subst h; exact hx
  · rw [ho k (by omega)]
    exact (hP k _ (wm_l_at (by omega))).kept (oq _ (by show B + k < B + n; omega))
theorem wm_l_D (B n : Nat) (S : wm_Sh) (g : wm_Sg) : va_D (fun q => B ≤ q) (wm_l B n S g) := by
  refine ⟨fun i j x y hi hj hxy => ?_, fun k q hk => ?_⟩
  · obtain ⟨-, rfl⟩ := wm_l_of hi
    obtain ⟨-, rfl⟩ := wm_l_of hj
    have : B + i = B + j := hxy
    omega
  · obtain ⟨-, rfl⟩ := wm_l_of hk
    exact Nat.le_add_right _ _
/-- the static tables and the nest mates' words -/
def wm_St (G : wm_G) (U : State) (H : Heap) : Prop := (∀ i, i < 4 → va_Z wm_TC (wm_Tn i) "[I" (.ref (G.2.2.2 i)) G.F U H ∧ va_T .int (G.2.2.2 i) 9 (fun j => .int (fc_tab i j)) G.F U H) ∧ ∀ w ∈ wm_nw, va_Nw w U
theorem wm_St.kept {G : wm_G} {U : State} {H H1 : Heap} (h : wm_St G U H) (hq : ∀ a : Nat, a < H.size → ¬ G.F a → H1[a]? = H[a]?) : wm_St G U H1 := ⟨fun i hi => ⟨(h.1 i hi).1.kept hq, (h.1 i hi).2.kept hq⟩, h.2⟩
theorem wm_St.warm {G : wm_G} {s U : State} {H : Heap} (hW : s.WarmedH U.vm) (h : wm_St G s H) : wm_St G U H := ⟨fun i hi => ⟨va_Z.moved hW.alike (h.1 i hi).1, va_T.moved hW.alike (h.1 i hi).2⟩, fun w hw => wm_nw_warm hW w hw (h.2 w hw)⟩
theorem wm_St.same {G : wm_G} {s U : State} {H : Heap} (e : s.vm = U.vm) (h : wm_St G s H) : wm_St G U H := ⟨fun i hi => ⟨va_Z.moved (by rw [e]; exact Vm.Alike.refl _) (h.1 i hi).1, va_T.moved (by rw [e]; exact Vm.Alike.refl _) (h.1 i hi).2⟩, fun w hw => wm_nw_same e w hw (h.2 w hw)⟩
/-- the context of a walk: program, launch, environment, room, entry state, method, arguments, frames below, the method's data, its code, the end that is wanted -/
abbrev wm_X : Type := Program × Launch × Env × Room × State × MethodId × Array Value × List Frame × Method × Code × (State → Prop)
abbrev wm_X.p (X : wm_X) : Program := X.1
abbrev wm_X.l (X : wm_X) : Launch := X.2.1
abbrev wm_X.e (X : wm_X) : Env := X.2.2.1
abbrev wm_X.R (X : wm_X) : Room := X.2.2.2.1
abbrev wm_X.s (X : wm_X) : State := X.2.2.2.2.1
abbrev wm_X.m (X : wm_X) : MethodId := X.2.2.2.2.2.1
abbrev wm_X.a (X : wm_X) : Array Value := X.2.2.2.2.2.2.1
abbrev wm_X.b (X : wm_X) : List Frame := X.2.2.2.2.2.2.2.1
abbrev wm_X.y (X : wm_X) : Method := X.2.2.2.2.2.2.2.2.1
abbrev wm_X.c (X : wm_X) : Code := X.2.2.2.2.2.2.2.2.2.1
abbrev wm_X.Q (X : wm_X) : State → Prop := X.2.2.2.2.2.2.2.2.2.2
def wm_W (G : wm_G) (X : wm_X) (nL cells slots n : Nat) (S : wm_Sh) (g : wm_Sg) (pc : Nat) (L : List (Nat × Value)) (st : List Value) : Prop :=
  ∀ (H : Heap) (locs : List Loc) (ls : Array Slot), H.size = G.B + n → va_P G.D vwCl (wm_l G.B n S g) H → va_S G.F X.s.heap H locs → lv_has ls nL L →
    W X.p X.l X.e X.R X.s X.m X.a X.b X.y X.c H locs cells slots X.Q (F0 X.m pc ls st)
/-- what holds in a walk; d: frames that calls may take, rc, rs: the room's cells and slots -/
def wm_C (G : wm_G) (X : wm_X) (cc : ByteArray) (nL : Nat) (Ts : List Cond) (own : String) (d rc rs : Nat) : Prop :=
  X.p.tables.exec = Jvm.exec ∧ X.c.code = cc ∧ X.c.maxLocals = nL ∧ X.s.vm.findClass own = some X.m.cls ∧ (∀ w ∈ Ts, w.before X.a X.s = true) ∧ va_K G.D vwCl G.t X.s ∧ G.B ≤ X.s.heap.size ∧ wm_St G X.s X.s.heap ∧ d ≤ X.R.frames ∧ 40 * d ≤ X.R.locals ∧ rc ≤ X.R.cells ∧ rs ≤ X.R.slots
def wm_k : List (Nat × Value) → Nat → Option Value
  | [], _ => none
  | q :: t, k => cond (Nat.beq q.1 k) (some q.2) (wm_k t k)
theorem wm_k_mem : ∀ {L : List (Nat × Value)} {k : Nat} {v : Value}, wm_k L k = some v → (k, v) ∈ L
  | [], _, _, h => by cases h
  | q :: t, k, v, h => by
    unfold wm_k at h
    cases hq : Nat.beq q.1 k with
    | true =>
      rw [hq] at h
      have e1 : q.1 = k := Nat.eq_of_beq_eq_true hq
      have e2 : q.2 = v := Option.some.inj h
      subst e1; subst e2
      exact List.mem_cons_self
    | false =>
      rw [hq] at h
      exact List.mem_cons_of_mem _ (wm_k_mem h)
theorem wm_k_at {ls : Array Slot} {nL k : Nat} {L : List (Nat × Value)} {v : Value} (h : lv_has ls nL L) (hk : wm_k L k = some v) : ls[k]? = some (.val v) := h.2.2 (k, v) (wm_k_mem hk)
/-- the locals behind a store -/
def wm_s (L : List (Nat × Value)) (i : Nat) (v : Value) : List (Nat × Value) := (i, v) :: L.filter (fun q => !(q.1 == i) && !(q.1 + 1 == i && q.2.category == 2))
section WM
variable {G : wm_G} {X : wm_X} {cc : ByteArray} {nL : Nat} {Ts : List Cond} {own : String} {d rc rs : Nat} {cells slots n : Nat} {S : wm_Sh} {g : wm_Sg} {pc : Nat} {L : List (Nat × Value)} {rest : List Value}
theorem wm_widen {k j : Nat} {st : List Value} (h1 : cells ≤ k) (h2 : slots ≤ j) (kk : wm_W G X nL k j n S g pc L st) : wm_W G X nL cells slots n S g pc L st := fun H locs ls a b c d => W.widen h1 h2 (kk H locs ls a b c d)
/-- fewer locals, or in another order -/
theorem wm_L {L' : List (Nat × Value)} {st : List Value} (h : ∀ q ∈ L', wm_k L q.1 = some q.2) (kk : wm_W G X nL cells slots n S g pc L' st) : wm_W G X nL cells slots n S g pc L st := fun H locs ls a b c d => kk H locs ls a b c ⟨d.1, d.2.1, fun q hq => wm_k_at d (h q hq)⟩
theorem wm_top {x y : Int32} {st : List Value} (h : x = y) (kk : wm_W G X nL cells slots n S g pc L (.int y :: st)) : wm_W G X nL cells slots n S g pc L (.int x :: st) := by
  subst h; exact kk
theorem wm_g {g' : wm_Sg} {st : List Value} (h : g = g') (kk : wm_W G X nL cells slots n S g' pc L st) : wm_W G X nL cells slots n S g pc L st := by
  subst h; exact kk

theorem wm_iconst (C : wm_C G X cc nL Ts own d rc rs) {i : Int} {v : Int32} (dd : decode cc pc = .ok (.iconst i, 1)) (hv : Int32.ofInt i = v) (k : wm_W G X nL cells slots n S g (pc + 1) L (.int v :: rest)) : wm_W G X nL cells slots n S g pc L (rest) := fun H locs ls h1 h2 h3 h4 => lv_iconst C.1 C.2.1 dd hv (k H locs ls h1 h2 h3 h4)
theorem wm_bipush (C : wm_C G X cc nL Ts own d rc rs) {i : Int} {v : Int32} (dd : decode cc pc = .ok (.bipush i, 2)) (hv : (Int8.ofInt i).toInt32 = v) (k : wm_W G X nL cells slots n S g (pc + 2) L (.int v :: rest)) : wm_W G X nL cells slots n S g pc L (rest) := fun H locs ls h1 h2 h3 h4 => lv_bipush C.1 C.2.1 dd hv (k H locs ls h1 h2 h3 h4)
theorem wm_sipush (C : wm_C G X cc nL Ts own d rc rs) {i : Int} {v : Int32} (dd : decode cc pc = .ok (.sipush i, 3)) (hv : (Int16.ofInt i).toInt32 = v) (k : wm_W G X nL cells slots n S g (pc + 3) L (.int v :: rest)) : wm_W G X nL cells slots n S g pc L (rest) := fun H locs ls h1 h2 h3 h4 => lv_sipush C.1 C.2.1 dd hv (k H locs ls h1 h2 h3 h4)
theorem wm_ldc (C : wm_C G X cc nL Ts own d rc rs) {i : Nat} {v : Int32} (dd : decode cc pc = .ok (.ldc i, 2)) (hw : Cond.constant own i v ∈ Ts) (k : wm_W G X nL cells slots n S g (pc + 2) L (.int v :: rest)) : wm_W G X nL cells slots n S g pc L (rest) := fun H locs ls h1 h2 h3 h4 => lv_ldc C.1 C.2.1 C.2.2.2.1 (C.2.2.2.2.1 _ hw) dd (k H locs ls h1 h2 h3 h4)
theorem wm_ldc_w (C : wm_C G X cc nL Ts own d rc rs) {i : Nat} {v : Int32} (dd : decode cc pc = .ok (.ldc_w i, 3)) (hw : Cond.constant own i v ∈ Ts) (k : wm_W G X nL cells slots n S g (pc + 3) L (.int v :: rest)) : wm_W G X nL cells slots n S g pc L (rest) := fun H locs ls h1 h2 h3 h4 => lv_ldcw C.1 C.2.1 C.2.2.2.1 (C.2.2.2.2.1 _ hw) dd (k H locs ls h1 h2 h3 h4)
theorem wm_iload_n (C : wm_C G X cc nL Ts own d rc rs) {i : Fin 4} {x : Int32} (dd : decode cc pc = .ok (.iload_n i, 1)) (hk : wm_k L i.val = some (.int x)) (k : wm_W G X nL cells slots n S g (pc + 1) L (.int x :: rest)) : wm_W G X nL cells slots n S g pc L (rest) := fun H locs ls h1 h2 h3 h4 => lv_iload_n C.1 C.2.1 dd rfl (wm_k_at h4 hk) (k H locs ls h1 h2 h3 h4)
theorem wm_iload (C : wm_C G X cc nL Ts own d rc rs) {i : Nat} {x : Int32} (dd : decode cc pc = .ok (.iload i, 2)) (hk : wm_k L i = some (.int x)) (k : wm_W G X nL cells slots n S g (pc + 2) L (.int x :: rest)) : wm_W G X nL cells slots n S g pc L (rest) := fun H locs ls h1 h2 h3 h4 => lv_iload C.1 C.2.1 dd (wm_k_at h4 hk) (k H locs ls h1 h2 h3 h4)
theorem wm_aload_n (C : wm_C G X cc nL Ts own d rc rs) {i : Fin 4} {x : Nat} (dd : decode cc pc = .ok (.aload_n i, 1)) (hk : wm_k L i.val = some (.ref x)) (k : wm_W G X nL cells slots n S g (pc + 1) L (.ref x :: rest)) : wm_W G X nL cells slots n S g pc L (rest) := fun H locs ls h1 h2 h3 h4 => lv_aload_n C.1 C.2.1 dd rfl (wm_k_at h4 hk) (k H locs ls h1 h2 h3 h4)
theorem wm_aload (C : wm_C G X cc nL Ts own d rc rs) {i : Nat} {x : Nat} (dd : decode cc pc = .ok (.aload i, 2)) (hk : wm_k L i = some (.ref x)) (k : wm_W G X nL cells slots n S g (pc + 2) L (.ref x :: rest)) : wm_W G X nL cells slots n S g pc L (rest) := fun H locs ls h1 h2 h3 h4 => lv_aload C.1 C.2.1 dd (wm_k_at h4 hk) (k H locs ls h1 h2 h3 h4)
theorem wm_istore_n (C : wm_C G X cc nL Ts own d rc rs) {i : Fin 4} {x : Int32} (dd : decode cc pc = .ok (.istore_n i, 1)) (hn : i.val < nL) (k : wm_W G X nL cells slots n S g (pc + 1) (wm_s L i.val (.int x)) rest) : wm_W G X nL cells slots n S g pc L (.int x :: rest) := fun H locs ls h1 h2 h3 h4 => lv_istore_n C.1 C.2.1 dd rfl h4 hn rfl (fun ls' h' => k H locs ls' h1 h2 h3 h')
theorem wm_istore (C : wm_C G X cc nL Ts own d rc rs) {i : Nat} {x : Int32} (dd : decode cc pc = .ok (.istore i, 2)) (hn : i < nL) (k : wm_W G X nL cells slots n S g (pc + 2) (wm_s L i (.int x)) rest) : wm_W G X nL cells slots n S g pc L (.int x :: rest) := fun H locs ls h1 h2 h3 h4 => lv_istore C.1 C.2.1 dd h4 hn rfl (fun ls' h' => k H locs ls' h1 h2 h3 h')
theorem wm_astore_n (C : wm_C G X cc nL Ts own d rc rs) {i : Fin 4} {x : Nat} (dd : decode cc pc = .ok (.astore_n i, 1)) (hn : i.val < nL) (k : wm_W G X nL cells slots n S g (pc + 1) (wm_s L i.val (.ref x)) rest) : wm_W G X nL cells slots n S g pc L (.ref x :: rest) := fun H locs ls h1 h2 h3 h4 => lv_astore_n C.1 C.2.1 dd rfl h4 hn rfl (fun ls' h' => k H locs ls' h1 h2 h3 h')
theorem wm_astore (C : wm_C G X cc nL Ts own d rc rs) {i : Nat} {x : Nat} (dd : decode cc pc = .ok (.astore i, 2)) (hn : i < nL) (k : wm_W G X nL cells slots n S g (pc + 2) (wm_s L i (.ref x)) rest) : wm_W G X nL cells slots n S g pc L (.ref x :: rest) := fun H locs ls h1 h2 h3 h4 => lv_astore C.1 C.2.1 dd h4 hn rfl (fun ls' h' => k H locs ls' h1 h2 h3 h')
theorem wm_iinc (C : wm_C G X cc nL Ts own d rc rs) {i : Nat} {z : Int} {x v : Int32} (dd : decode cc pc = .ok (.iinc i z, 3)) (hk : wm_k L i = some (.int x)) (hv : x + Int32.ofInt z = v) (hn : i < nL) (k : wm_W G X nL cells slots n S g (pc + 3) (wm_s L i (.int v)) rest) : wm_W G X nL cells slots n S g pc L rest := by
  intro H locs ls h1 h2 h3 h4
  obtain ⟨j, hj⟩ := List.getElem?_of_mem (wm_k_mem hk)
  exact lv_iinc C.1 C.2.1 dd h4 hj hv hn rfl (fun ls' h' => k H locs ls' h1 h2 h3 h')
theorem wm_iadd (C : wm_C G X cc nL Ts own d rc rs) {x y : Int32} (dd : decode cc pc = .ok (.iadd, 1)) (k : wm_W G X nL cells slots n S g (pc + 1) L (.int (x + y) :: rest)) : wm_W G X nL cells slots n S g pc L (.int y :: .int x :: rest) := fun H locs ls h1 h2 h3 h4 => lv_iadd C.1 C.2.1 dd (k H locs ls h1 h2 h3 h4)
theorem wm_isub (C : wm_C G X cc nL Ts own d rc rs) {x y : Int32} (dd : decode cc pc = .ok (.isub, 1)) (k : wm_W G X nL cells slots n S g (pc + 1) L (.int (x - y) :: rest)) : wm_W G X nL cells slots n S g pc L (.int y :: .int x :: rest) := fun H locs ls h1 h2 h3 h4 => lv_isub C.1 C.2.1 dd (k H locs ls h1 h2 h3 h4)
theorem wm_imul (C : wm_C G X cc nL Ts own d rc rs) {x y : Int32} (dd : decode cc pc = .ok (.imul, 1)) (k : wm_W G X nL cells slots n S g (pc + 1) L (.int (x * y) :: rest)) : wm_W G X nL cells slots n S g pc L (.int y :: .int x :: rest) := fun H locs ls h1 h2 h3 h4 => lv_imul C.1 C.2.1 dd (k H locs ls h1 h2 h3 h4)
theorem wm_iand (C : wm_C G X cc nL Ts own d rc rs) {x y : Int32} (dd : decode cc pc = .ok (.iand, 1)) (k : wm_W G X nL cells slots n S g (pc + 1) L (.int (x &&& y) :: rest)) : wm_W G X nL cells slots n S g pc L (.int y :: .int x :: rest) := fun H locs ls h1 h2 h3 h4 => lv_iand C.1 C.2.1 dd (k H locs ls h1 h2 h3 h4)
theorem wm_ior (C : wm_C G X cc nL Ts own d rc rs) {x y : Int32} (dd : decode cc pc = .ok (.ior, 1)) (k : wm_W G X nL cells slots n S g (pc + 1) L (.int (x ||| y) :: rest)) : wm_W G X nL cells slots n S g pc L (.int y :: .int x :: rest) := fun H locs ls h1 h2 h3 h4 => lv_ior C.1 C.2.1 dd (k H locs ls h1 h2 h3 h4)
theorem wm_ixor (C : wm_C G X cc nL Ts own d rc rs) {x y : Int32} (dd : decode cc pc = .ok (.ixor, 1)) (k : wm_W G X nL cells slots n S g (pc + 1) L (.int (x ^^^ y) :: rest)) : wm_W G X nL cells slots n S g pc L (.int y :: .int x :: rest) := fun H locs ls h1 h2 h3 h4 => lv_ixor C.1 C.2.1 dd (k H locs ls h1 h2 h3 h4)
theorem wm_ishl (C : wm_C G X cc nL Ts own d rc rs) {x y : Int32} (dd : decode cc pc = .ok (.ishl, 1)) (k : wm_W G X nL cells slots n S g (pc + 1) L (.int (x <<< (y &&& 31)) :: rest)) : wm_W G X nL cells slots n S g pc L (.int y :: .int x :: rest) := fun H locs ls h1 h2 h3 h4 => lv_ishl C.1 C.2.1 dd (k H locs ls h1 h2 h3 h4)
theorem wm_ishr (C : wm_C G X cc nL Ts own d rc rs) {x y : Int32} (dd : decode cc pc = .ok (.ishr, 1)) (k : wm_W G X nL cells slots n S g (pc + 1) L (.int (x >>> (y &&& 31)) :: rest)) : wm_W G X nL cells slots n S g pc L (.int y :: .int x :: rest) := fun H locs ls h1 h2 h3 h4 => lv_ishr C.1 C.2.1 dd (k H locs ls h1 h2 h3 h4)
theorem wm_iushr (C : wm_C G X cc nL Ts own d rc rs) {x y v : Int32} (dd : decode cc pc = .ok (.iushr, 1)) (hv : (x.toUInt32 >>> (y.toUInt32 &&& Int32.toUInt32 31)).toInt32 = v) (k : wm_W G X nL cells slots n S g (pc + 1) L (.int v :: rest)) : wm_W G X nL cells slots n S g pc L (.int y :: .int x :: rest) := fun H locs ls h1 h2 h3 h4 => lv_iushr C.1 C.2.1 dd hv (k H locs ls h1 h2 h3 h4)
theorem wm_idiv (C : wm_C G X cc nL Ts own d rc rs) {x y : Int32} (dd : decode cc pc = .ok (.idiv, 1)) (hy : ¬ y = 0) (k : wm_W G X nL cells slots n S g (pc + 1) L (.int (x / y) :: rest)) : wm_W G X nL cells slots n S g pc L (.int y :: .int x :: rest) := fun H locs ls h1 h2 h3 h4 => lv_idiv C.1 C.2.1 dd hy (k H locs ls h1 h2 h3 h4)
theorem wm_irem (C : wm_C G X cc nL Ts own d rc rs) {x y : Int32} (dd : decode cc pc = .ok (.irem, 1)) (hy : ¬ y = 0) (k : wm_W G X nL cells slots n S g (pc + 1) L (.int (x - x / y * y) :: rest)) : wm_W G X nL cells slots n S g pc L (.int y :: .int x :: rest) := fun H locs ls h1 h2 h3 h4 => lv_irem C.1 C.2.1 dd hy (k H locs ls h1 h2 h3 h4)
theorem wm_ineg (C : wm_C G X cc nL Ts own d rc rs) {x : Int32} (dd : decode cc pc = .ok (.ineg, 1)) (k : wm_W G X nL cells slots n S g (pc + 1) L (.int (-x) :: rest)) : wm_W G X nL cells slots n S g pc L (.int x :: rest) := fun H locs ls h1 h2 h3 h4 => lv_ineg C.1 C.2.1 dd (k H locs ls h1 h2 h3 h4)
theorem wm_dup (C : wm_C G X cc nL Ts own d rc rs) {v : Value} (dd : decode cc pc = .ok (.dup, 1)) (hv : v.category = 1) (k : wm_W G X nL cells slots n S g (pc + 1) L (v :: v :: rest)) : wm_W G X nL cells slots n S g pc L (v :: rest) := fun H locs ls h1 h2 h3 h4 => lv_dup C.1 C.2.1 dd hv (k H locs ls h1 h2 h3 h4)
theorem wm_pop (C : wm_C G X cc nL Ts own d rc rs) {v : Value} (dd : decode cc pc = .ok (.pop, 1)) (hv : v.category = 1) (k : wm_W G X nL cells slots n S g (pc + 1) L (rest)) : wm_W G X nL cells slots n S g pc L (v :: rest) := fun H locs ls h1 h2 h3 h4 => lv_pop C.1 C.2.1 dd hv (k H locs ls h1 h2 h3 h4)
theorem wm_dup_x1 (C : wm_C G X cc nL Ts own d rc rs) {v u : Value} (dd : decode cc pc = .ok (.dup_x1, 1)) (hv : v.category = 1) (hu : u.category = 1) (k : wm_W G X nL cells slots n S g (pc + 1) L (v :: u :: v :: rest)) : wm_W G X nL cells slots n S g pc L (v :: u :: rest) := fun H locs ls h1 h2 h3 h4 => lv_dup_x1 C.1 C.2.1 dd hv hu (k H locs ls h1 h2 h3 h4)
theorem wm_if_eq (C : wm_C G X cc nL Ts own d rc rs) {x : Int32} {off : Int} {tgt : Nat} (dd : decode cc pc = .ok (.ifCond .eq off, 3)) (ht : (pc : Int) + off = (tgt : Int)) (kt : x = 0 → wm_W G X nL cells slots n S g tgt L rest) (kf : ¬ (x = 0) → wm_W G X nL cells slots n S g (pc + 3) L rest) : wm_W G X nL cells slots n S g pc L (.int x :: rest) := fun H locs ls h1 h2 h3 h4 => lv_if_eq C.1 C.2.1 dd ht (fun q => kt q H locs ls h1 h2 h3 h4) (fun q => kf q H locs ls h1 h2 h3 h4)
theorem wm_icmp_eq (C : wm_C G X cc nL Ts own d rc rs) {x y : Int32} {off : Int} {tgt : Nat} (dd : decode cc pc = .ok (.if_icmp .eq off, 3)) (ht : (pc : Int) + off = (tgt : Int)) (kt : x = y → wm_W G X nL cells slots n S g tgt L rest) (kf : ¬ (x = y) → wm_W G X nL cells slots n S g (pc + 3) L rest) : wm_W G X nL cells slots n S g pc L (.int y :: .int x :: rest) := fun H locs ls h1 h2 h3 h4 => lv_icmp_eq C.1 C.2.1 dd ht (fun q => kt q H locs ls h1 h2 h3 h4) (fun q => kf q H locs ls h1 h2 h3 h4)
theorem wm_if_ne (C : wm_C G X cc nL Ts own d rc rs) {x : Int32} {off : Int} {tgt : Nat} (dd : decode cc pc = .ok (.ifCond .ne off, 3)) (ht : (pc : Int) + off = (tgt : Int)) (kt : ¬ x = 0 → wm_W G X nL cells slots n S g tgt L rest) (kf : x = 0 → wm_W G X nL cells slots n S g (pc + 3) L rest) : wm_W G X nL cells slots n S g pc L (.int x :: rest) := fun H locs ls h1 h2 h3 h4 => lv_if_ne C.1 C.2.1 dd ht (fun q => kt q H locs ls h1 h2 h3 h4) (fun q => kf q H locs ls h1 h2 h3 h4)
theorem wm_icmp_ne (C : wm_C G X cc nL Ts own d rc rs) {x y : Int32} {off : Int} {tgt : Nat} (dd : decode cc pc = .ok (.if_icmp .ne off, 3)) (ht : (pc : Int) + off = (tgt : Int)) (kt : ¬ x = y → wm_W G X nL cells slots n S g tgt L rest) (kf : x = y → wm_W G X nL cells slots n S g (pc + 3) L rest) : wm_W G X nL cells slots n S g pc L (.int y :: .int x :: rest) := fun H locs ls h1 h2 h3 h4 => lv_icmp_ne C.1 C.2.1 dd ht (fun q => kt q H locs ls h1 h2 h3 h4) (fun q => kf q H locs ls h1 h2 h3 h4)
theorem wm_if_lt (C : wm_C G X cc nL Ts own d rc rs) {x : Int32} {off : Int} {tgt : Nat} (dd : decode cc pc = .ok (.ifCond .lt off, 3)) (ht : (pc : Int) + off = (tgt : Int)) (kt : x < 0 → wm_W G X nL cells slots n S g tgt L rest) (kf : ¬ (x < 0) → wm_W G X nL cells slots n S g (pc + 3) L rest) : wm_W G X nL cells slots n S g pc L (.int x :: rest) := fun H locs ls h1 h2 h3 h4 => lv_if_lt C.1 C.2.1 dd ht (fun q => kt q H locs ls h1 h2 h3 h4) (fun q => kf q H locs ls h1 h2 h3 h4)
theorem wm_icmp_lt (C : wm_C G X cc nL Ts own d rc rs) {x y : Int32} {off : Int} {tgt : Nat} (dd : decode cc pc = .ok (.if_icmp .lt off, 3)) (ht : (pc : Int) + off = (tgt : Int)) (kt : x < y → wm_W G X nL cells slots n S g tgt L rest) (kf : ¬ (x < y) → wm_W G X nL cells slots n S g (pc + 3) L rest) : wm_W G X nL cells slots n S g pc L (.int y :: .int x :: rest) := fun H locs ls h1 h2 h3 h4 => lv_icmp_lt C.1 C.2.1 dd ht (fun q => kt q H locs ls h1 h2 h3 h4) (fun q => kf q H locs ls h1 h2 h3 h4)
theorem wm_if_ge (C : wm_C G X cc nL Ts own d rc rs) {x : Int32} {off : Int} {tgt : Nat} (dd : decode cc pc = .ok (.ifCond .ge off, 3)) (ht : (pc : Int) + off = (tgt : Int)) (kt : 0 ≤ x → wm_W G X nL cells slots n S g tgt L rest) (kf : ¬ (0 ≤ x) → wm_W G X nL cells slots n S g (pc + 3) L rest) : wm_W G X nL cells slots n S g pc L (.int x :: rest) := fun H locs ls h1 h2 h3 h4 => lv_if_ge C.1 C.2.1 dd ht (fun q => kt q H locs ls h1 h2 h3 h4) (fun q => kf q H locs ls h1 h2 h3 h4)
theorem wm_icmp_ge (C : wm_C G X cc nL Ts own d rc rs) {x y : Int32} {off : Int} {tgt : Nat} (dd : decode cc pc = .ok (.if_icmp .ge off, 3)) (ht : (pc : Int) + off = (tgt : Int)) (kt : y ≤ x → wm_W G X nL cells slots n S g tgt L rest) (kf : ¬ (y ≤ x) → wm_W G X nL cells slots n S g (pc + 3) L rest) : wm_W G X nL cells slots n S g pc L (.int y :: .int x :: rest) := fun H locs ls h1 h2 h3 h4 => lv_icmp_ge C.1 C.2.1 dd ht (fun q => kt q H locs ls h1 h2 h3 h4) (fun q => kf q H locs ls h1 h2 h3 h4)
theorem wm_if_gt (C : wm_C G X cc nL Ts own d rc rs) {x : Int32} {off : Int} {tgt : Nat} (dd : decode cc pc = .ok (.ifCond .gt off, 3)) (ht : (pc : Int) + off = (tgt : Int)) (kt : 0 < x → wm_W G X nL cells slots n S g tgt L rest) (kf : ¬ (0 < x) → wm_W G X nL cells slots n S g (pc + 3) L rest) : wm_W G X nL cells slots n S g pc L (.int x :: rest) := fun H locs ls h1 h2 h3 h4 => lv_if_gt C.1 C.2.1 dd ht (fun q => kt q H locs ls h1 h2 h3 h4) (fun q => kf q H locs ls h1 h2 h3 h4)
theorem wm_icmp_gt (C : wm_C G X cc nL Ts own d rc rs) {x y : Int32} {off : Int} {tgt : Nat} (dd : decode cc pc = .ok (.if_icmp .gt off, 3)) (ht : (pc : Int) + off = (tgt : Int)) (kt : y < x → wm_W G X nL cells slots n S g tgt L rest) (kf : ¬ (y < x) → wm_W G X nL cells slots n S g (pc + 3) L rest) : wm_W G X nL cells slots n S g pc L (.int y :: .int x :: rest) := fun H locs ls h1 h2 h3 h4 => lv_icmp_gt C.1 C.2.1 dd ht (fun q => kt q H locs ls h1 h2 h3 h4) (fun q => kf q H locs ls h1 h2 h3 h4)
theorem wm_if_le (C : wm_C G X cc nL Ts own d rc rs) {x : Int32} {off : Int} {tgt : Nat} (dd : decode cc pc = .ok (.ifCond .le off, 3)) (ht : (pc : Int) + off = (tgt : Int)) (kt : x ≤ 0 → wm_W G X nL cells slots n S g tgt L rest) (kf : ¬ (x ≤ 0) → wm_W G X nL cells slots n S g (pc + 3) L rest) : wm_W G X nL cells slots n S g pc L (.int x :: rest) := fun H locs ls h1 h2 h3 h4 => lv_if_le C.1 C.2.1 dd ht (fun q => kt q H locs ls h1 h2 h3 h4) (fun q => kf q H locs ls h1 h2 h3 h4)
theorem wm_icmp_le (C : wm_C G X cc nL Ts own d rc rs) {x y : Int32} {off : Int} {tgt : Nat} (dd : decode cc pc = .ok (.if_icmp .le off, 3)) (ht : (pc : Int) + off = (tgt : Int)) (kt : x ≤ y → wm_W G X nL cells slots n S g tgt L rest) (kf : ¬ (x ≤ y) → wm_W G X nL cells slots n S g (pc + 3) L rest) : wm_W G X nL cells slots n S g pc L (.int y :: .int x :: rest) := fun H locs ls h1 h2 h3 h4 => lv_icmp_le C.1 C.2.1 dd ht (fun q => kt q H locs ls h1 h2 h3 h4) (fun q => kf q H locs ls h1 h2 h3 h4)
theorem wm_goto (C : wm_C G X cc nL Ts own d rc rs) {off : Int} {tgt : Nat} (dd : decode cc pc = .ok (.goto off, 3)) (ht : (pc : Int) + off = (tgt : Int)) (k : wm_W G X nL cells slots n S g tgt L rest) : wm_W G X nL cells slots n S g pc L rest := fun H locs ls h1 h2 h3 h4 => lv_goto C.1 C.2.1 dd ht (k H locs ls h1 h2 h3 h4)
theorem wm_tableOut (C : wm_C G X cc nL Ts own d rc rs) {dflt lo hi : Int} {offs : Array Int} {len : Nat} {x : Int32} {tgt : Nat} (dd : decode cc pc = .ok (.tableswitch dflt lo hi offs, len)) (h : x.toInt < lo ∨ hi < x.toInt) (ht : (pc : Int) + dflt = (tgt : Int)) (k : wm_W G X nL cells slots n S g tgt L rest) : wm_W G X nL cells slots n S g pc L (.int x :: rest) := fun H locs ls h1 h2 h3 h4 => lv_tableOut C.1 C.2.1 dd h ht (k H locs ls h1 h2 h3 h4)
theorem wm_tableIn (C : wm_C G X cc nL Ts own d rc rs) {dflt lo hi : Int} {offs : Array Int} {len : Nat} {x : Int32} {off : Int} {tgt : Nat} (dd : decode cc pc = .ok (.tableswitch dflt lo hi offs, len)) (g1 : ¬ x.toInt < lo) (g2 : ¬ hi < x.toInt) (ho : offs[(x.toInt - lo).toNat]? = some off) (ht : (pc : Int) + off = (tgt : Int)) (k : wm_W G X nL cells slots n S g tgt L rest) : wm_W G X nL cells slots n S g pc L (.int x :: rest) := fun H locs ls h1 h2 h3 h4 => lv_tableIn C.1 C.2.1 dd g1 g2 ho ht (k H locs ls h1 h2 h3 h4)
theorem wm_lookup (C : wm_C G X cc nL Ts own d rc rs) {dflt : Int} {ps : Array (Int × Int)} {len : Nat} {x : Int32} {off : Int} {tgt : Nat} (dd : decode cc pc = .ok (.lookupswitch dflt ps, len)) (hp : (ps.toList.zip (ps.toList.drop 1)).all (fun (a, next) => a.1 < next.1) = true) (ho : Op.lookupswitch.offset ps.toList dflt x.toInt = off) (ht : (pc : Int) + off = (tgt : Int)) (k : wm_W G X nL cells slots n S g tgt L rest) : wm_W G X nL cells slots n S g pc L (.int x :: rest) := fun H locs ls h1 h2 h3 h4 => lv_lookup C.1 C.2.1 dd hp ho ht (k H locs ls h1 h2 h3 h4)
/-- a field is read -/
theorem wm_get (C : wm_C G X cc nL Ts own d rc rs) {o ci index N : Nat} {cn : String} {T : u_T} {fs : List Value} {v : Value} (j : Nat) (dd : decode cc pc = .ok (.getfield index, 3)) (hm : S o (g o) = .inr (ci, fs)) (ho : o < n) (hc : vwCl[ci]? = some (cn, T, N)) (hin : ∀ w ∈ u_ws cn T N, w ∈ Ts) (hj : j < N) (hw : Cond.fieldLink own index (T j).1 (T j).2.1 (T j).2.2.1 ∈ Ts) (hv : fs[j]? = some v) (k : wm_W G X nL cells slots n S g (pc + 3) L (v :: rest)) : wm_W G X nL cells slots n S g pc L (.ref (G.B + o) :: rest) := fun H locs ls h1 h2 h3 h4 => va_get C.1 C.2.1 C.2.2.2.2.1 hin C.2.2.2.1 C.2.2.2.2.2.1 h2 o (by rw [wm_l_at ho, hm]) hc j hj (C.2.2.2.2.1 _ hw) (fun _ h => h) hv dd (k H locs ls h1 h2 h3 h4)
/-- a field (not final) is written; S', g': the memory behind it -/
theorem wm_put (C : wm_C G X cc nL Ts own d rc rs) {o ci index N : Nat} {cn : String} {T : u_T} {fs : List Value} {v : Value} {ty : FieldType} {S' : wm_Sh} {g' : wm_Sg} (j : Nat) (ty0 : Nat → FieldType) (hty : ∀ k, k < N → parseFieldDescriptor (T k).2.2.1 = some (ty0 k)) (hnm : ∀ a, a < N → ∀ b, b < N → a ≠ b → (T a).2.1 ≠ (T b).2.1) (dd : decode cc pc = .ok (.putfield index, 3)) (hm : S o (g o) = .inr (ci, fs)) (ho : o < n) (hc : vwCl[ci]? = some (cn, T, N)) (hin : ∀ w ∈ u_ws cn T N, w ∈ Ts) (hj : j < N) (hw : Cond.fieldLink own index (T j).1 (T j).2.1 (T j).2.2.1 ∈ Ts) (hfin : (T j).2.2.2 = false) (hd : parseFieldDescriptor (T j).2.2.1 = some ty) (hn : narrow ty v = v) (hfit : fits ty v = true) (hl : j < fs.length) (hn1 : S' o (g' o) = .inr (ci, fs.set j v)) (hn2 : ∀ a, a < n → a ≠ o → S' a (g' a) = S a (g a)) (k : wm_W G X nL cells slots n S' g' (pc + 3) L rest) : wm_W G X nL cells slots n S g pc L (v :: .ref (G.B + o) :: rest) := by
  intro H locs ls h1 h2 h3 h4
  have hts := C.2.2.2.2.1
  have hK := C.2.2.2.2.2.1
  have hap := va_apart (own := own) hts hin ty0 hty hnm hK hc
  have hat := h2 o _ (wm_l_at ho)
  rw [hm] at hat
  obtain ⟨r, e1, cell, q1, q2, q3, q4⟩ := hat
  cases e1.symm.trans hc
  obtain ⟨hS, hfc, kC, hkC, hkind⟩ := hK.1 ci _ hc
  obtain ⟨cf, kf, fi, f, hi, hsl⟩ := hS j hj
  have hlay := hts _ (hin _ (u_in_lay hj))
  unfold u_lay at hlay
  rw [if_neg (by rw [hfin]; decide)] at hlay
  refine W.putK C.1 C.2.1 (f := f) ⟨C.2.2.2.1, hts _ hw, ⟨_, _, _, hi⟩, (u_facts hfc hkC (Or.inl hlay) hi).1⟩ (by rw [q2]; exact u_store hfc hkC hkind hlay hi hd hn hfit) q1 q3 (by rw [hsl]; exact k2_hasslot (q4 j hj)) rfl rfl dd fun H1 a1 a2 a3 => ?_
  rw [hsl] at a1 ⊢
  refine k H1 _ ls (a2.trans h1) (wm_l_put h2 hn2 a3 ?_) (h3.put a2 a3 (Nat.le_add_right _ _)) h4
  rw [hn1]
  exact ⟨_, hc, t_OB.to (V := updV (vp_V fs) j v) ⟨_, a1, q2, q3, t_set q4 hap hj v⟩ (fun i _ => vp_updV_set hl v i)⟩
/-- an int field is written: only the ints change -/
theorem wm_puti (C : wm_C G X cc nL Ts own d rc rs) {o ci index N : Nat} {cn : String} {T : u_T} {fs : List Value} {x : Int32} {ty : FieldType} (j : Nat) (ty0 : Nat → FieldType) (hty : ∀ k, k < N → parseFieldDescriptor (T k).2.2.1 = some (ty0 k)) (hnm : ∀ a, a < N → ∀ b, b < N → a ≠ b → (T a).2.1 ≠ (T b).2.1) (dd : decode cc pc = .ok (.putfield index, 3)) (hm : S o (g o) = .inr (ci, fs)) (ho : o < n) (hc : vwCl[ci]? = some (cn, T, N)) (hin : ∀ w ∈ u_ws cn T N, w ∈ Ts) (hj : j < N) (hw : Cond.fieldLink own index (T j).1 (T j).2.1 (T j).2.2.1 ∈ Ts) (hfin : (T j).2.2.2 = false) (hd : parseFieldDescriptor (T j).2.2.1 = some ty) (hn : narrow ty (.int x) = .int x) (hfit : fits ty (.int x) = true) (hl : j < fs.length) (hn1 : S o (upd (g o) j x) = .inr (ci, fs.set j (.int x))) (k : wm_W G X nL cells slots n S (wm_u g o j x) (pc + 3) L rest) : wm_W G X nL cells slots n S g pc L (.int x :: .ref (G.B + o) :: rest) :=
  wm_put C j ty0 hty hnm dd hm ho hc hin hj hw hfin hd hn hfit hl (by rw [wm_u_self]; exact hn1) (fun a _ h => by rw [wm_u_ne _ _ _ h]) k
theorem wm_iald (C : wm_C G X cc nL Ts own d rc rs) {o N t0 : Nat} {cA : ClassId} {f : Nat → Int32} {i : Int32} (dd : decode cc pc = .ok (.iaload, 1)) (hm : S o (g o) = .inl (cA, N, .inl f)) (ho : o < n) (ht : G.t[t0]? = some (cA, .int)) (hin : vp_in i N) (k : wm_W G X nL cells slots n S g (pc + 1) L (.int (f i.toNatClampNeg) :: rest)) : wm_W G X nL cells slots n S g pc L (.int i :: .ref (G.B + o) :: rest) := fun H locs ls h1 h2 h3 h4 => va_iald C.1 C.2.1 C.2.2.2.2.2.1 h2 o t0 (by rw [wm_l_at ho, hm]) ht hin dd (k H locs ls h1 h2 h3 h4)
theorem wm_zald (C : wm_C G X cc nL Ts own d rc rs) {o N t0 : Nat} {cA : ClassId} {f : Nat → Int32} {i : Int32} (dd : decode cc pc = .ok (.baload, 1)) (hm : S o (g o) = .inl (cA, N, .inl f)) (ho : o < n) (ht : G.t[t0]? = some (cA, .boolean)) (hin : vp_in i N) (k : wm_W G X nL cells slots n S g (pc + 1) L (.int (f i.toNatClampNeg) :: rest)) : wm_W G X nL cells slots n S g pc L (.int i :: .ref (G.B + o) :: rest) := fun H locs ls h1 h2 h3 h4 => va_zald C.1 C.2.1 C.2.2.2.2.2.1 h2 o t0 (by rw [wm_l_at ho, hm]) ht hin dd (k H locs ls h1 h2 h3 h4)
theorem wm_aald (C : wm_C G X cc nL Ts own d rc rs) {o N t0 : Nat} {cA : ClassId} {cn : String} {f : Nat → Option Nat} {i : Int32} {x : Nat} (dd : decode cc pc = .ok (.aaload, 1)) (hm : S o (g o) = .inl (cA, N, .inr (.inr (.inr (.inr f))))) (ho : o < n) (ht : G.t[t0]? = some (cA, .object cn)) (hin : vp_in i N) (hx : f i.toNatClampNeg = some x) (k : wm_W G X nL cells slots n S g (pc + 1) L (.ref x :: rest)) : wm_W G X nL cells slots n S g pc L (.int i :: .ref (G.B + o) :: rest) := fun H locs ls h1 h2 h3 h4 => va_aldq C.1 C.2.1 C.2.2.2.2.2.1 h2 o t0 (by rw [wm_l_at ho, hm]) ht hin dd (by rw [hx]; exact k H locs ls h1 h2 h3 h4)
theorem wm_iast (C : wm_C G X cc nL Ts own d rc rs) {o N t0 : Nat} {cA : ClassId} {f : Nat → Int32} {i x : Int32} (dd : decode cc pc = .ok (.iastore, 1)) (hm : S o (g o) = .inl (cA, N, .inl f)) (ho : o < n) (ht : G.t[t0]? = some (cA, .int)) (hin : vp_in i N) (hn1 : S o (upd (g o) i.toNatClampNeg x) = .inl (cA, N, .inl (upd f i.toNatClampNeg x))) (k : wm_W G X nL cells slots n S (wm_u g o i.toNatClampNeg x) (pc + 1) L rest) : wm_W G X nL cells slots n S g pc L (.int x :: .int i :: .ref (G.B + o) :: rest) := by
  intro H locs ls h1 h2 h3 h4
  have hat := h2 o _ (wm_l_at ho)
  rw [hm] at hat
  refine W.iast C.1 C.2.1 hat ((C.2.2.2.2.2.1.2 t0 _ ht).1 N (fun j => .int (f j))) (fun q => by cases q) (by show ¬ (i < 0 ∨ (arrV _ _ _).slots.size ≤ _); rw [arrV_size]; exact hin) rfl rfl dd fun H1 a1 a2 a3 => ?_
  refine k H1 _ ls (a2.trans h1) (wm_l_put h2 (fun a _ h => by rw [wm_u_ne _ _ _ h]) a3 ?_) (h3.put a2 a3 (Nat.le_add_right _ _)) h4
  rw [wm_u_self, hn1]
  show H1[G.B + o]? = some (vp_cell _ _)
  rw [a1, vp_cell_i, vp_cell_i, arrV_store]
  congr 2
  funext q
  by_cases hq : q = i.toNatClampNeg
  · subst hq
    simp [updV, upd]
  · simp [updV, upd, hq]
theorem wm_zast (C : wm_C G X cc nL Ts own d rc rs) {o N t0 : Nat} {cA : ClassId} {f : Nat → Int32} {i x : Int32} (dd : decode cc pc = .ok (.bastore, 1)) (hm : S o (g o) = .inl (cA, N, .inl f)) (ho : o < n) (ht : G.t[t0]? = some (cA, .boolean)) (hin : vp_in i N) (hx : narrow .boolean (.int x) = .int x) (hn1 : S o (upd (g o) i.toNatClampNeg x) = .inl (cA, N, .inl (upd f i.toNatClampNeg x))) (k : wm_W G X nL cells slots n S (wm_u g o i.toNatClampNeg x) (pc + 1) L rest) : wm_W G X nL cells slots n S g pc L (.int x :: .int i :: .ref (G.B + o) :: rest) := by
  intro H locs ls h1 h2 h3 h4
  have hat := h2 o _ (wm_l_at ho)
  rw [hm] at hat
  refine W.zast C.1 C.2.1 hat ((C.2.2.2.2.2.1.2 t0 _ ht).1 N (fun j => .int (f j))) (fun q => by cases q) (by show ¬ (i < 0 ∨ (arrV _ _ _).slots.size ≤ _); rw [arrV_size]; exact hin) rfl rfl dd fun H1 a1 a2 a3 => ?_
  refine k H1 _ ls (a2.trans h1) (wm_l_put h2 (fun a _ h => by rw [wm_u_ne _ _ _ h]) a3 ?_) (h3.put a2 a3 (Nat.le_add_right _ _)) h4
  rw [wm_u_self, hn1]
  show H1[G.B + o]? = some (vp_cell _ _)
  rw [a1, vp_cell_i, vp_cell_i, arrV_store]
  congr 2
  funext q
  by_cases hq : q = i.toNatClampNeg
  · subst hq
    simp [updV, upd, hx]
  · simp [updV, upd, hq]
theorem wm_gets (C : wm_C G X cc nL Ts own d rc rs) {index : Nat} {nm : String} (i : Nat) (hi : i < 4) (dd : decode cc pc = .ok (.getstatic index, 3)) (hn : wm_Tn i = nm) (hw : Cond.fieldLink own index wm_TC nm "[I" ∈ Ts) (k : wm_W G X nL cells slots n S g (pc + 3) L (.ref (G.2.2.2 i) :: rest)) : wm_W G X nL cells slots n S g pc L rest := fun H locs ls h1 h2 h3 h4 => va_gets C.1 C.2.1 (C.2.2.2.2.2.2.2.1.1 i hi).1 h3 C.2.2.2.1 (by rw [hn]; exact C.2.2.2.2.1 _ hw) (fun _ h => h) dd (k H locs ls h1 h2 h3 h4)
theorem wm_tab (C : wm_C G X cc nL Ts own d rc rs) {x : Int32} (i : Nat) (hi : i < 4) (dd : decode cc pc = .ok (.iaload, 1)) (hin : vp_in x 9) (k : wm_W G X nL cells slots n S g (pc + 1) L (.int (fc_tab i x.toNatClampNeg) :: rest)) : wm_W G X nL cells slots n S g pc L (.int x :: .ref (G.2.2.2 i) :: rest) := fun H locs ls h1 h2 h3 h4 => va_ti C.1 C.2.1 (C.2.2.2.2.2.2.2.1.1 i hi).2 h3 hin rfl dd (k H locs ls h1 h2 h3 h4)
theorem wm_mmin (C : wm_C G X cc nL Ts own d rc rs) {index : Nat} {x y : Int32} (dd : decode cc pc = .ok (.invokestatic index, 3)) (w1 : Cond.methodLink own index Lib.Math.min.name ∈ Ts) (w2 : Cond.static Lib.Math.min.name ∈ Ts) (w3 : Cond.initialized "java/lang/Math" ∈ Ts) (w4 : Cond.code Lib.Math.min.name Lib.Math.min.code 2 (some .int) ∈ Ts) (hd : 1 ≤ d) (hr : (rest.map fun v => v.category).sum + 13 ≤ 40) (hc : cells ≤ rc) (hs : slots ≤ rs) (k : wm_W G X nL cells slots n S g (pc + 3) L (.int (if y < x then y else x) :: rest)) : wm_W G X nL cells slots n S g pc L (.int y :: .int x :: rest) := fun H locs ls h1 h2 h3 h4 => va_mmin C.1 C.2.1 (C.2.2.1.trans h4.1.symm) C.2.2.2.1 (C.2.2.2.2.1 _ w1) (C.2.2.2.2.1 _ w2) (C.2.2.2.2.1 _ w3) (C.2.2.2.2.1 _ w4) (Nat.le_trans hd C.2.2.2.2.2.2.2.2.1) (by have := C.2.2.2.2.2.2.2.2.2.1; omega) (Nat.le_trans hc C.2.2.2.2.2.2.2.2.2.2.1) (Nat.le_trans hs C.2.2.2.2.2.2.2.2.2.2.2) dd (k H locs ls h1 h2 h3 h4)
end WM
/-! contracts: at memory (n, S, g) with the arguments av the method returns, the memory is (n, S, g') then, with post -/
def wm_rm (d mc ms : Nat) : Room := { frames := d, cells := mc, slots := ms, locals := 40 * d }
def wm_B (G : wm_G) (n : Nat) (S : wm_Sh) (g : wm_Sg) (t : State) : Prop := t.heap.size = G.B + n ∧ va_P G.D vwCl (wm_l G.B n S g) t.heap
def wm_A (G : wm_G) (n : Nat) (S : wm_Sh) (g : wm_Sg) (U : State) : Prop := wm_B G n S g U ∧ va_K G.D vwCl G.t U ∧ wm_St G U U.heap
def wm_Mi (l : Launch) (G : wm_G) (y : MethodName) (ws : List Cond) (d n : Nat) (S : wm_Sh) (av : List Value) (g : wm_Sg) (post : Int32 → wm_Sg → Prop) : Prop := Met l y ws (wm_rm d 0 0) (va_Pc av (wm_A G n S g)) (va_Qi post (wm_B G n S) G.F) 0 0 G.F
def wm_Mv (l : Launch) (G : wm_G) (y : MethodName) (ws : List Cond) (d n : Nat) (S : wm_Sh) (av : List Value) (g : wm_Sg) (post : wm_Sg → Prop) : Prop := Met l y ws (wm_rm d 0 0) (va_Pc av (wm_A G n S g)) (va_Qv post (wm_B G n S) G.F) 0 0 G.F
def wm_Mr (l : Launch) (G : wm_G) (y : MethodName) (ws : List Cond) (d n : Nat) (S : wm_Sh) (av : List Value) (g : wm_Sg) (post : Nat → wm_Sg → Prop) : Prop := Met l y ws (wm_rm d 0 0) (va_Pc av (wm_A G n S g)) (va_Qr (fun _ : wm_Sg => True) (fun g' a t => wm_B G n S g' t ∧ post a g') G.F) 0 0 G.F
/-- a constructor: cells may come, shapes may change -/
def wm_MI (l : Launch) (G : wm_G) (y : MethodName) (ws : List Cond) (d mc ms n : Nat) (S : wm_Sh) (av : List Value) (g : wm_Sg) (post : Nat → wm_Sh → wm_Sg → Prop) : Prop := Met l y ws (wm_rm d mc ms) (va_Pc av (wm_A G n S g)) (va_Qv (fun u : Nat × wm_Sh × wm_Sg => post u.1 u.2.1 u.2.2) (fun u => wm_B G u.1 u.2.1 u.2.2) G.F) mc ms G.F
theorem wm_A.blind {G : wm_G} {n : Nat} {S : wm_Sh} {g : wm_Sg} {av : List Value} : FrameBlind (va_Pc av (wm_A G n S g)) := fun a U f mk h => ⟨h.1, h.2.1, va_K.moved (u := U) (U := U.calling f mk a) (Vm.Alike.refl U.vm) h.2.2.1, wm_St.same (s := U) (U := U.calling f mk a) rfl h.2.2.2⟩
theorem wm_A.pre {G : wm_G} {X : wm_X} {cc : ByteArray} {nL : Nat} {Ts : List Cond} {own : String} {d rc rs n : Nat} {S : wm_Sh} {g : wm_Sg} {H : Heap} {locs : List Loc} (C : wm_C G X cc nL Ts own d rc rs) (h1 : H.size = G.B + n) (h2 : va_P G.D vwCl (wm_l G.B n S g) H) (h3 : va_S G.F X.s.heap H locs) (U : State) (hU : U.heap = H) (hW : X.s.WarmedH U.vm) : wm_A G n S g U := by
  refine ⟨⟨by rw [hU]; exact h1, by rw [hU]; exact h2⟩, va_K.moved hW.alike C.2.2.2.2.2.1, ?_⟩
  rw [hU]
  exact (C.2.2.2.2.2.2.2.1.kept (fun a ha hA => h3.2.1 a ha hA)).warm hW

theorem wm_in_i {l : Launch} {G : wm_G} {y : MethodName} {ws ws' : List Cond} {d n : Nat} {S : wm_Sh} {av : List Value} {g : wm_Sg} {cc : ByteArray} {maxL : Nat} {post : Int32 → wm_Sg → Prop} (hy : plainName y.cls = true) (hw : ws = Cond.code y cc maxL (some .int) :: ws') (hlen : (lg_sl av).length ≤ maxL)
    (body : ∀ X : wm_X, wm_C G X cc maxL ws y.cls d 0 0 → X.l = l → (∀ (r : Int32) (g' : wm_Sg) (pc : Nat) (L : List (Nat × Value)), decode cc pc = .ok (.ireturn, 1) → post r g' → wm_W G X maxL 0 0 n S g' pc L [.int r]) → wm_W G X maxL 0 0 n S g 0 (lv_args 0 av) []) : wm_Mi l G y ws d n S av g post := by
  refine Met.ofW (cc := cc) (maxL := maxL) (ret := (some .int)) hy hw ?_
  intro p e s m args below meth c s₁ B hml hv
  obtain ⟨rfl, ⟨hsz, hP⟩, hK, hSt⟩ := hv
  have hl := lv_entry av (n := maxL) hlen
  rw [lg_entry_eq]
  have hB : G.B ≤ s.heap.size := by rw [hsz]; exact Nat.le_add_right _ _
  refine body (p, l, e, (headSpec ws (wm_rm d 0 0)).room, s, m, av.toArray, below, meth, c, MQ below (va_Qi post (wm_B G n S) G.F) av.toArray s 0 0 G.F) ⟨B.exec, B.bytes, hml, findClass_of_methodNamed B.named, atoms_spec (ws := ws) B.pre, hK, hB, hSt, Nat.le_refl _, Nat.le_refl _, Nat.le_refl _, Nat.le_refl _⟩ rfl ?_ s.heap [] _ hsz hP va_S.rf hl
  intro r g' pc L hd hp H locs ls h1 h2 h3 h4
  exact W.iret B.exec B.bytes B.returns (fun t ht hW => ⟨⟨r, g', rfl, hp, ⟨by rw [ht]; exact h1, by rw [ht]; exact h2⟩⟩, h3.F ht⟩) h3.2.2 hd B.notSynchronized
theorem wm_in_z {l : Launch} {G : wm_G} {y : MethodName} {ws ws' : List Cond} {d n : Nat} {S : wm_Sh} {av : List Value} {g : wm_Sg} {cc : ByteArray} {maxL : Nat} {post : Int32 → wm_Sg → Prop} (hy : plainName y.cls = true) (hw : ws = Cond.code y cc maxL (some .boolean) :: ws') (hlen : (lg_sl av).length ≤ maxL)
    (body : ∀ X : wm_X, wm_C G X cc maxL ws y.cls d 0 0 → X.l = l → (∀ (r : Int32) (g' : wm_Sg) (pc : Nat) (L : List (Nat × Value)), decode cc pc = .ok (.ireturn, 1) → narrow .boolean (.int r) = .int r → post r g' → wm_W G X maxL 0 0 n S g' pc L [.int r]) → wm_W G X maxL 0 0 n S g 0 (lv_args 0 av) []) : wm_Mi l G y ws d n S av g post := by
  refine Met.ofW (cc := cc) (maxL := maxL) (ret := (some .boolean)) hy hw ?_
  intro p e s m args below meth c s₁ B hml hv
  obtain ⟨rfl, ⟨hsz, hP⟩, hK, hSt⟩ := hv
  have hl := lv_entry av (n := maxL) hlen
  rw [lg_entry_eq]
  have hB : G.B ≤ s.heap.size := by rw [hsz]; exact Nat.le_add_right _ _
  refine body (p, l, e, (headSpec ws (wm_rm d 0 0)).room, s, m, av.toArray, below, meth, c, MQ below (va_Qi post (wm_B G n S) G.F) av.toArray s 0 0 G.F) ⟨B.exec, B.bytes, hml, findClass_of_methodNamed B.named, atoms_spec (ws := ws) B.pre, hK, hB, hSt, Nat.le_refl _, Nat.le_refl _, Nat.le_refl _, Nat.le_refl _⟩ rfl ?_ s.heap [] _ hsz hP va_S.rf hl
  intro r g' pc L hd hz hp H locs ls h1 h2 h3 h4
  exact W.zret B.exec B.bytes B.returns hz (fun t ht hW => ⟨⟨r, g', rfl, hp, ⟨by rw [ht]; exact h1, by rw [ht]; exact h2⟩⟩, h3.F ht⟩) h3.2.2 hd B.notSynchronized
theorem wm_in_v {l : Launch} {G : wm_G} {y : MethodName} {ws ws' : List Cond} {d n : Nat} {S : wm_Sh} {av : List Value} {g : wm_Sg} {cc : ByteArray} {maxL : Nat} {post : wm_Sg → Prop} (hy : plainName y.cls = true) (hw : ws = Cond.code y cc maxL none :: ws') (hlen : (lg_sl av).length ≤ maxL)
    (body : ∀ X : wm_X, wm_C G X cc maxL ws y.cls d 0 0 → X.l = l → (∀ (g' : wm_Sg) (pc : Nat) (L : List (Nat × Value)), decode cc pc = .ok (.return_, 1) → post g' → wm_W G X maxL 0 0 n S g' pc L []) → wm_W G X maxL 0 0 n S g 0 (lv_args 0 av) []) : wm_Mv l G y ws d n S av g post := by
  refine Met.ofW (cc := cc) (maxL := maxL) (ret := none) hy hw ?_
  intro p e s m args below meth c s₁ B hml hv
  obtain ⟨rfl, ⟨hsz, hP⟩, hK, hSt⟩ := hv
  have hl := lv_entry av (n := maxL) hlen
  rw [lg_entry_eq]
  have hB : G.B ≤ s.heap.size := by rw [hsz]; exact Nat.le_add_right _ _
  refine body (p, l, e, (headSpec ws (wm_rm d 0 0)).room, s, m, av.toArray, below, meth, c, MQ below (va_Qv post (wm_B G n S) G.F) av.toArray s 0 0 G.F) ⟨B.exec, B.bytes, hml, findClass_of_methodNamed B.named, atoms_spec (ws := ws) B.pre, hK, hB, hSt, Nat.le_refl _, Nat.le_refl _, Nat.le_refl _, Nat.le_refl _⟩ rfl ?_ s.heap [] _ hsz hP va_S.rf hl
  intro g' pc L hd hp H locs ls h1 h2 h3 h4
  exact W.vret B.exec B.bytes B.returns (fun t ht hW => ⟨⟨g', rfl, hp, ⟨by rw [ht]; exact h1, by rw [ht]; exact h2⟩⟩, h3.F ht⟩) h3.2.2 hd B.notSynchronized
theorem wm_in_r {l : Launch} {G : wm_G} {y : MethodName} {ws ws' : List Cond} {d n : Nat} {S : wm_Sh} {av : List Value} {g : wm_Sg} {cc : ByteArray} {maxL : Nat} {post : Nat → wm_Sg → Prop} {rt : FieldType} (hrt : (∃ n, rt = .object n) ∨ ∃ t, rt = .array t) (hy : plainName y.cls = true) (hw : ws = Cond.code y cc maxL (some rt) :: ws') (hlen : (lg_sl av).length ≤ maxL)
    (body : ∀ X : wm_X, wm_C G X cc maxL ws y.cls d 0 0 → X.l = l → (∀ (r : Nat) (g' : wm_Sg) (pc : Nat) (L : List (Nat × Value)), decode cc pc = .ok (.areturn, 1) → post r g' → wm_W G X maxL 0 0 n S g' pc L [.ref r]) → wm_W G X maxL 0 0 n S g 0 (lv_args 0 av) []) : wm_Mr l G y ws d n S av g post := by
  refine Met.ofW (cc := cc) (maxL := maxL) (ret := (some rt)) hy hw ?_
  intro p e s m args below meth c s₁ B hml hv
  obtain ⟨rfl, ⟨hsz, hP⟩, hK, hSt⟩ := hv
  have hl := lv_entry av (n := maxL) hlen
  rw [lg_entry_eq]
  have hB : G.B ≤ s.heap.size := by rw [hsz]; exact Nat.le_add_right _ _
  refine body (p, l, e, (headSpec ws (wm_rm d 0 0)).room, s, m, av.toArray, below, meth, c, MQ below (va_Qr (fun _ : wm_Sg => True) (fun g' a t => wm_B G n S g' t ∧ post a g') G.F) av.toArray s 0 0 G.F) ⟨B.exec, B.bytes, hml, findClass_of_methodNamed B.named, atoms_spec (ws := ws) B.pre, hK, hB, hSt, Nat.le_refl _, Nat.le_refl _, Nat.le_refl _, Nat.le_refl _⟩ rfl ?_ s.heap [] _ hsz hP va_S.rf hl
  intro r g' pc L hd hp H locs ls h1 h2 h3 h4
  exact W.aret B.exec B.bytes B.returns hrt (Or.inr ⟨r, rfl⟩) (fun t ht hW => ⟨⟨g', r, rfl, trivial, ⟨by rw [ht]; exact h1, by rw [ht]; exact h2⟩, hp⟩, h3.F ht⟩) h3.2.2 hd B.notSynchronized
theorem wm_in_I {l : Launch} {G : wm_G} {y : MethodName} {ws ws' : List Cond} {d n : Nat} {S : wm_Sh} {av : List Value} {g : wm_Sg} {cc : ByteArray} {maxL : Nat} {mc ms : Nat} {post : Nat → wm_Sh → wm_Sg → Prop} (hy : plainName y.cls = true) (hw : ws = Cond.code y cc maxL none :: ws') (hlen : (lg_sl av).length ≤ maxL)
    (body : ∀ X : wm_X, wm_C G X cc maxL ws y.cls d mc ms → X.l = l → X.y.name = y.name → (∀ (n' : Nat) (S' : wm_Sh) (g' : wm_Sg) (pc : Nat) (L : List (Nat × Value)), decode cc pc = .ok (.return_, 1) → post n' S' g' → wm_W G X maxL mc ms n' S' g' pc L []) → wm_W G X maxL 0 0 n S g 0 (lv_args 0 av) []) : wm_MI l G y ws d mc ms n S av g post := by
  refine Met.ofW (cc := cc) (maxL := maxL) (ret := none) hy hw ?_
  intro p e s m args below meth c s₁ B hml hv
  obtain ⟨rfl, ⟨hsz, hP⟩, hK, hSt⟩ := hv
  have hl := lv_entry av (n := maxL) hlen
  rw [lg_entry_eq]
  have hB : G.B ≤ s.heap.size := by rw [hsz]; exact Nat.le_add_right _ _
  refine body (p, l, e, (headSpec ws (wm_rm d mc ms)).room, s, m, av.toArray, below, meth, c, MQ below (va_Qv (fun u : Nat × wm_Sh × wm_Sg => post u.1 u.2.1 u.2.2) (fun u => wm_B G u.1 u.2.1 u.2.2) G.F) av.toArray s mc ms G.F) ⟨B.exec, B.bytes, hml, findClass_of_methodNamed B.named, atoms_spec (ws := ws) B.pre, hK, hB, hSt, Nat.le_refl _, Nat.le_refl _, Nat.le_refl _, Nat.le_refl _⟩ rfl (name_of_methodNamed B.named B.method).1 ?_ s.heap [] _ hsz hP va_S.rf hl
  intro n' S' g' pc L hd hp H locs ls h1 h2 h3 h4
  exact W.vret B.exec B.bytes B.returns (fun t ht hW => ⟨⟨(n', S', g'), rfl, hp, ⟨by rw [ht]; exact h1, by rw [ht]; exact h2⟩⟩, h3.F ht⟩) h3.2.2 hd B.notSynchronized
section WC
variable {G : wm_G} {X : wm_X} {cc : ByteArray} {nL : Nat} {Ts : List Cond} {own : String} {d rc rs : Nat} {cells slots n : Nat} {S : wm_Sh} {g : wm_Sg} {pc : Nat} {L : List (Nat × Value)} {rest st : List Value}
variable {y : MethodName} {ws ws' : List Cond} {bytes : ByteArray} {maxL dy index na : Nat} {ret : Option FieldType} {As : List Value}
theorem wm_recv {ci o : Nat} {q : vw_C} (C : wm_C G X cc nL Ts own d rc rs) {H : Heap} (h2 : va_P G.D vwCl (wm_l G.B n S g) H) (ho : o < n) (hc : vwCl[ci]? = some q) (hm : ∃ fs, S o (g o) = .inr (ci, fs)) : ∃ cell : Cell, H[G.B + o]? = some cell ∧ cell.vm.isStatics = false ∧ X.s.vm.findClass q.1 = some cell.cls := by
  obtain ⟨fs, hm⟩ := hm
  exact va_recv C.2.2.2.2.2.1 h2 hc (by rw [wm_l_at ho, hm])

theorem wm_cSi (C : wm_C G X cc nL Ts own d rc rs) {post : Int32 → wm_Sg → Prop} (hM : wm_Mi X.l G y ws dy n S As g post) (gi : GoodIn Ts (va_wsS own index y ws)) (hw : ws = Cond.code y bytes maxL ret :: ws') (hd : y.cls ≠ "java/lang/invoke/MethodHandle" ∧ y.cls ≠ "java/lang/invoke/VarHandle" ∧ (parseMethodDescriptor y.desc).map (fun d => d.parameters.length) = some na) (hna : As.length = na) (hdy : dy + 1 ≤ d) (hml : maxL ≤ 21) (dd : decode cc pc = .ok (.invokestatic index, 3)) (hst : st = As.reverse ++ rest) (hr : (rest.map fun v => v.category).sum ≤ 8) (hcs : cells ≤ rc) (hss : slots ≤ rs) (k : ∀ (r : Int32) (g' : wm_Sg), post r g' → wm_W G X nL cells slots n S g' (pc + 3) L (.int r :: rest)) : wm_W G X nL cells slots n S g pc L st := by
  intro H locs ls h1 h2 h3 h4
  subst hst
  subst hna
  refine va_calli (va_runS (As := As) (rest := rest) ⟨C.1, C.2.1, C.2.2.1, C.2.2.2.1, C.2.2.2.2.1⟩ hM (va_cwS As.length C.2.2.2.2.1 gi hw rfl rfl hd ⟨by show dy + 1 ≤ X.R.frames; have := C.2.2.2.2.2.2.2.2.1; omega, by show 8 + (maxL + 11) + 40 * dy ≤ X.R.locals; have := C.2.2.2.2.2.2.2.2.2.1; omega⟩) ⟨wm_A.blind, fun U hU hW => ⟨rfl, wm_A.pre C h1 h2 h3 U hU hW⟩⟩ rfl rfl h4.1 rfl (lv_room hr) dd ⟨Nat.le_trans hcs C.2.2.2.2.2.2.2.2.2.2.1, Nat.le_trans hss C.2.2.2.2.2.2.2.2.2.2.2⟩) h3 (fun q _ h => h) (fun q h => h) (fun r g' t H1 locs1 ht hvm hp hB hz hk hS => k r g' hp H1 locs1 ls (by rw [← ht]; exact hB.1) (by rw [← ht]; exact hB.2) hS h4)
theorem wm_cNi (C : wm_C G X cc nL Ts own d rc rs) {post : Int32 → wm_Sg → Prop} {host : String} (hM : wm_Mi X.l G y ws dy n S As g post) (gi : GoodIn Ts ws) (hnw : Cond.methodLinkNest own index y host ∈ wm_nw) (hs1 : Cond.static y ∈ Ts) (hs2 : Cond.initialized y.cls ∈ Ts) (hw : ws = Cond.code y bytes maxL ret :: ws') (hd : y.cls ≠ "java/lang/invoke/MethodHandle" ∧ y.cls ≠ "java/lang/invoke/VarHandle" ∧ (parseMethodDescriptor y.desc).map (fun d => d.parameters.length) = some na) (hna : As.length = na) (hdy : dy + 1 ≤ d) (hml : maxL ≤ 21) (dd : decode cc pc = .ok (.invokestatic index, 3)) (hst : st = As.reverse ++ rest) (hr : (rest.map fun v => v.category).sum ≤ 8) (hcs : cells ≤ rc) (hss : slots ≤ rs) (k : ∀ (r : Int32) (g' : wm_Sg), post r g' → wm_W G X nL cells slots n S g' (pc + 3) L (.int r :: rest)) : wm_W G X nL cells slots n S g pc L st := by
  intro H locs ls h1 h2 h3 h4
  subst hst
  subst hna
  refine va_calli (va_runSN (As := As) (rest := rest) ⟨C.1, C.2.1, C.2.2.1, C.2.2.2.1, C.2.2.2.2.1⟩ hM ⟨va_cnB As.length C.2.2.2.2.1 gi hw rfl rfl (C.2.2.2.2.2.2.2.1.2 _ hnw) (C.2.2.2.2.1 _ hs2) hd ⟨by show dy + 1 ≤ X.R.frames; have := C.2.2.2.2.2.2.2.2.1; omega, by show 8 + (maxL + 11) + 40 * dy ≤ X.R.locals; have := C.2.2.2.2.2.2.2.2.2.1; omega⟩, C.2.2.2.2.1 _ hs1, trivial⟩ ⟨wm_A.blind, fun U hU hW => ⟨rfl, wm_A.pre C h1 h2 h3 U hU hW⟩⟩ rfl rfl h4.1 rfl (lv_room hr) dd ⟨Nat.le_trans hcs C.2.2.2.2.2.2.2.2.2.2.1, Nat.le_trans hss C.2.2.2.2.2.2.2.2.2.2.2⟩) h3 (fun q _ h => h) (fun q h => h) (fun r g' t H1 locs1 ht hvm hp hB hz hk hS => k r g' hp H1 locs1 ls (by rw [← ht]; exact hB.1) (by rw [← ht]; exact hB.2) hS h4)
theorem wm_cVi (C : wm_C G X cc nL Ts own d rc rs) {post : Int32 → wm_Sg → Prop} {o ci : Nat} {q : vw_C} (hM : wm_Mi X.l G y ws dy n S (.ref (G.B + o) :: As) g post) (gi : GoodIn Ts (wsV own index q.1 y ws)) (ho : o < n) (hc : vwCl[ci]? = some q) (hm : ∃ fs, S o (g o) = .inr (ci, fs)) (hyc : y.cls = q.1) (hw : ws = Cond.code y bytes maxL ret :: ws') (hd : y.cls ≠ "java/lang/invoke/MethodHandle" ∧ y.cls ≠ "java/lang/invoke/VarHandle" ∧ (parseMethodDescriptor y.desc).map (fun d => d.parameters.length) = some na) (hna : As.length = na) (hdy : dy + 1 ≤ d) (hml : maxL ≤ 21) (dd : decode cc pc = .ok (.invokevirtual index, 3)) (hst : st = As.reverse ++ .ref (G.B + o) :: rest) (hr : (rest.map fun v => v.category).sum ≤ 8) (hcs : cells ≤ rc) (hss : slots ≤ rs) (k : ∀ (r : Int32) (g' : wm_Sg), post r g' → wm_W G X nL cells slots n S g' (pc + 3) L (.int r :: rest)) : wm_W G X nL cells slots n S g pc L st := by
  intro H locs ls h1 h2 h3 h4
  subst hst
  subst hna
  refine va_calli (va_runV (As := As) (rest := rest) ⟨C.1, C.2.1, C.2.2.1, C.2.2.2.1, C.2.2.2.2.1⟩ hM (cwV As.length C.2.2.2.2.1 gi hw rfl rfl ⟨hyc, hd⟩ ⟨by show dy + 1 ≤ X.R.frames; have := C.2.2.2.2.2.2.2.2.1; omega, by show 8 + (maxL + 11) + 40 * dy ≤ X.R.locals; have := C.2.2.2.2.2.2.2.2.2.1; omega⟩) ⟨wm_A.blind, wm_recv C h2 ho hc hm, fun U hU hW => ⟨rfl, wm_A.pre C h1 h2 h3 U hU hW⟩⟩ rfl rfl h4.1 rfl (lv_room hr) dd ⟨Nat.le_trans hcs C.2.2.2.2.2.2.2.2.2.2.1, Nat.le_trans hss C.2.2.2.2.2.2.2.2.2.2.2⟩) h3 (fun q _ h => h) (fun q h => h) (fun r g' t H1 locs1 ht hvm hp hB hz hk hS => k r g' hp H1 locs1 ls (by rw [← ht]; exact hB.1) (by rw [← ht]; exact hB.2) hS h4)
theorem wm_cSv (C : wm_C G X cc nL Ts own d rc rs) {post : wm_Sg → Prop} (hM : wm_Mv X.l G y ws dy n S As g post) (gi : GoodIn Ts (va_wsS own index y ws)) (hw : ws = Cond.code y bytes maxL ret :: ws') (hd : y.cls ≠ "java/lang/invoke/MethodHandle" ∧ y.cls ≠ "java/lang/invoke/VarHandle" ∧ (parseMethodDescriptor y.desc).map (fun d => d.parameters.length) = some na) (hna : As.length = na) (hdy : dy + 1 ≤ d) (hml : maxL ≤ 21) (dd : decode cc pc = .ok (.invokestatic index, 3)) (hst : st = As.reverse ++ rest) (hr : (rest.map fun v => v.category).sum ≤ 8) (hcs : cells ≤ rc) (hss : slots ≤ rs) (k : ∀ g' : wm_Sg, post g' → wm_W G X nL cells slots n S g' (pc + 3) L rest) : wm_W G X nL cells slots n S g pc L st := by
  intro H locs ls h1 h2 h3 h4
  subst hst
  subst hna
  refine va_callv (va_runS (As := As) (rest := rest) ⟨C.1, C.2.1, C.2.2.1, C.2.2.2.1, C.2.2.2.2.1⟩ hM (va_cwS As.length C.2.2.2.2.1 gi hw rfl rfl hd ⟨by show dy + 1 ≤ X.R.frames; have := C.2.2.2.2.2.2.2.2.1; omega, by show 8 + (maxL + 11) + 40 * dy ≤ X.R.locals; have := C.2.2.2.2.2.2.2.2.2.1; omega⟩) ⟨wm_A.blind, fun U hU hW => ⟨rfl, wm_A.pre C h1 h2 h3 U hU hW⟩⟩ rfl rfl h4.1 rfl (lv_room hr) dd ⟨Nat.le_trans hcs C.2.2.2.2.2.2.2.2.2.2.1, Nat.le_trans hss C.2.2.2.2.2.2.2.2.2.2.2⟩) h3 (fun q _ h => h) (fun q h => h) (fun g' t H1 locs1 ht hvm hp hB hz hk hS => k g' hp H1 locs1 ls (by rw [← ht]; exact hB.1) (by rw [← ht]; exact hB.2) hS h4)
theorem wm_cNv (C : wm_C G X cc nL Ts own d rc rs) {post : wm_Sg → Prop} {host : String} (hM : wm_Mv X.l G y ws dy n S As g post) (gi : GoodIn Ts ws) (hnw : Cond.methodLinkNest own index y host ∈ wm_nw) (hs1 : Cond.static y ∈ Ts) (hs2 : Cond.initialized y.cls ∈ Ts) (hw : ws = Cond.code y bytes maxL ret :: ws') (hd : y.cls ≠ "java/lang/invoke/MethodHandle" ∧ y.cls ≠ "java/lang/invoke/VarHandle" ∧ (parseMethodDescriptor y.desc).map (fun d => d.parameters.length) = some na) (hna : As.length = na) (hdy : dy + 1 ≤ d) (hml : maxL ≤ 21) (dd : decode cc pc = .ok (.invokestatic index, 3)) (hst : st = As.reverse ++ rest) (hr : (rest.map fun v => v.category).sum ≤ 8) (hcs : cells ≤ rc) (hss : slots ≤ rs) (k : ∀ g' : wm_Sg, post g' → wm_W G X nL cells slots n S g' (pc + 3) L rest) : wm_W G X nL cells slots n S g pc L st := by
  intro H locs ls h1 h2 h3 h4
  subst hst
  subst hna
  refine va_callv (va_runSN (As := As) (rest := rest) ⟨C.1, C.2.1, C.2.2.1, C.2.2.2.1, C.2.2.2.2.1⟩ hM ⟨va_cnB As.length C.2.2.2.2.1 gi hw rfl rfl (C.2.2.2.2.2.2.2.1.2 _ hnw) (C.2.2.2.2.1 _ hs2) hd ⟨by show dy + 1 ≤ X.R.frames; have := C.2.2.2.2.2.2.2.2.1; omega, by show 8 + (maxL + 11) + 40 * dy ≤ X.R.locals; have := C.2.2.2.2.2.2.2.2.2.1; omega⟩, C.2.2.2.2.1 _ hs1, trivial⟩ ⟨wm_A.blind, fun U hU hW => ⟨rfl, wm_A.pre C h1 h2 h3 U hU hW⟩⟩ rfl rfl h4.1 rfl (lv_room hr) dd ⟨Nat.le_trans hcs C.2.2.2.2.2.2.2.2.2.2.1, Nat.le_trans hss C.2.2.2.2.2.2.2.2.2.2.2⟩) h3 (fun q _ h => h) (fun q h => h) (fun g' t H1 locs1 ht hvm hp hB hz hk hS => k g' hp H1 locs1 ls (by rw [← ht]; exact hB.1) (by rw [← ht]; exact hB.2) hS h4)
theorem wm_cVv (C : wm_C G X cc nL Ts own d rc rs) {post : wm_Sg → Prop} {o ci : Nat} {q : vw_C} (hM : wm_Mv X.l G y ws dy n S (.ref (G.B + o) :: As) g post) (gi : GoodIn Ts (wsV own index q.1 y ws)) (ho : o < n) (hc : vwCl[ci]? = some q) (hm : ∃ fs, S o (g o) = .inr (ci, fs)) (hyc : y.cls = q.1) (hw : ws = Cond.code y bytes maxL ret :: ws') (hd : y.cls ≠ "java/lang/invoke/MethodHandle" ∧ y.cls ≠ "java/lang/invoke/VarHandle" ∧ (parseMethodDescriptor y.desc).map (fun d => d.parameters.length) = some na) (hna : As.length = na) (hdy : dy + 1 ≤ d) (hml : maxL ≤ 21) (dd : decode cc pc = .ok (.invokevirtual index, 3)) (hst : st = As.reverse ++ .ref (G.B + o) :: rest) (hr : (rest.map fun v => v.category).sum ≤ 8) (hcs : cells ≤ rc) (hss : slots ≤ rs) (k : ∀ g' : wm_Sg, post g' → wm_W G X nL cells slots n S g' (pc + 3) L rest) : wm_W G X nL cells slots n S g pc L st := by
  intro H locs ls h1 h2 h3 h4
  subst hst
  subst hna
  refine va_callv (va_runV (As := As) (rest := rest) ⟨C.1, C.2.1, C.2.2.1, C.2.2.2.1, C.2.2.2.2.1⟩ hM (cwV As.length C.2.2.2.2.1 gi hw rfl rfl ⟨hyc, hd⟩ ⟨by show dy + 1 ≤ X.R.frames; have := C.2.2.2.2.2.2.2.2.1; omega, by show 8 + (maxL + 11) + 40 * dy ≤ X.R.locals; have := C.2.2.2.2.2.2.2.2.2.1; omega⟩) ⟨wm_A.blind, wm_recv C h2 ho hc hm, fun U hU hW => ⟨rfl, wm_A.pre C h1 h2 h3 U hU hW⟩⟩ rfl rfl h4.1 rfl (lv_room hr) dd ⟨Nat.le_trans hcs C.2.2.2.2.2.2.2.2.2.2.1, Nat.le_trans hss C.2.2.2.2.2.2.2.2.2.2.2⟩) h3 (fun q _ h => h) (fun q h => h) (fun g' t H1 locs1 ht hvm hp hB hz hk hS => k g' hp H1 locs1 ls (by rw [← ht]; exact hB.1) (by rw [← ht]; exact hB.2) hS h4)
theorem wm_cSr (C : wm_C G X cc nL Ts own d rc rs) {post : Nat → wm_Sg → Prop} (hM : wm_Mr X.l G y ws dy n S As g post) (gi : GoodIn Ts (va_wsS own index y ws)) (hw : ws = Cond.code y bytes maxL ret :: ws') (hd : y.cls ≠ "java/lang/invoke/MethodHandle" ∧ y.cls ≠ "java/lang/invoke/VarHandle" ∧ (parseMethodDescriptor y.desc).map (fun d => d.parameters.length) = some na) (hna : As.length = na) (hdy : dy + 1 ≤ d) (hml : maxL ≤ 21) (dd : decode cc pc = .ok (.invokestatic index, 3)) (hst : st = As.reverse ++ rest) (hr : (rest.map fun v => v.category).sum ≤ 8) (hcs : cells ≤ rc) (hss : slots ≤ rs) (k : ∀ (r : Nat) (g' : wm_Sg), post r g' → wm_W G X nL cells slots n S g' (pc + 3) L (.ref r :: rest)) : wm_W G X nL cells slots n S g pc L st := by
  intro H locs ls h1 h2 h3 h4
  subst hst
  subst hna
  refine va_callr (va_runS (As := As) (rest := rest) ⟨C.1, C.2.1, C.2.2.1, C.2.2.2.1, C.2.2.2.2.1⟩ hM (va_cwS As.length C.2.2.2.2.1 gi hw rfl rfl hd ⟨by show dy + 1 ≤ X.R.frames; have := C.2.2.2.2.2.2.2.2.1; omega, by show 8 + (maxL + 11) + 40 * dy ≤ X.R.locals; have := C.2.2.2.2.2.2.2.2.2.1; omega⟩) ⟨wm_A.blind, fun U hU hW => ⟨rfl, wm_A.pre C h1 h2 h3 U hU hW⟩⟩ rfl rfl h4.1 rfl (lv_room hr) dd ⟨Nat.le_trans hcs C.2.2.2.2.2.2.2.2.2.2.1, Nat.le_trans hss C.2.2.2.2.2.2.2.2.2.2.2⟩) h3 (fun q _ h => h) (fun q h => h) (fun g' r t H1 locs1 ht hvm hp hB hz hk hS => k r g' hB.2 H1 locs1 ls (by rw [← ht]; exact hB.1.1) (by rw [← ht]; exact hB.1.2) hS h4)
theorem wm_cNr (C : wm_C G X cc nL Ts own d rc rs) {post : Nat → wm_Sg → Prop} {host : String} (hM : wm_Mr X.l G y ws dy n S As g post) (gi : GoodIn Ts ws) (hnw : Cond.methodLinkNest own index y host ∈ wm_nw) (hs1 : Cond.static y ∈ Ts) (hs2 : Cond.initialized y.cls ∈ Ts) (hw : ws = Cond.code y bytes maxL ret :: ws') (hd : y.cls ≠ "java/lang/invoke/MethodHandle" ∧ y.cls ≠ "java/lang/invoke/VarHandle" ∧ (parseMethodDescriptor y.desc).map (fun d => d.parameters.length) = some na) (hna : As.length = na) (hdy : dy + 1 ≤ d) (hml : maxL ≤ 21) (dd : decode cc pc = .ok (.invokestatic index, 3)) (hst : st = As.reverse ++ rest) (hr : (rest.map fun v => v.category).sum ≤ 8) (hcs : cells ≤ rc) (hss : slots ≤ rs) (k : ∀ (r : Nat) (g' : wm_Sg), post r g' → wm_W G X nL cells slots n S g' (pc + 3) L (.ref r :: rest)) : wm_W G X nL cells slots n S g pc L st := by
  intro H locs ls h1 h2 h3 h4
  subst hst
  subst hna
  refine va_callr (va_runSN (As := As) (rest := rest) ⟨C.1, C.2.1, C.2.2.1, C.2.2.2.1, C.2.2.2.2.1⟩ hM ⟨va_cnB As.length C.2.2.2.2.1 gi hw rfl rfl (C.2.2.2.2.2.2.2.1.2 _ hnw) (C.2.2.2.2.1 _ hs2) hd ⟨by show dy + 1 ≤ X.R.frames; have := C.2.2.2.2.2.2.2.2.1; omega, by show 8 + (maxL + 11) + 40 * dy ≤ X.R.locals; have := C.2.2.2.2.2.2.2.2.2.1; omega⟩, C.2.2.2.2.1 _ hs1, trivial⟩ ⟨wm_A.blind, fun U hU hW => ⟨rfl, wm_A.pre C h1 h2 h3 U hU hW⟩⟩ rfl rfl h4.1 rfl (lv_room hr) dd ⟨Nat.le_trans hcs C.2.2.2.2.2.2.2.2.2.2.1, Nat.le_trans hss C.2.2.2.2.2.2.2.2.2.2.2⟩) h3 (fun q _ h => h) (fun q h => h) (fun g' r t H1 locs1 ht hvm hp hB hz hk hS => k r g' hB.2 H1 locs1 ls (by rw [← ht]; exact hB.1.1) (by rw [← ht]; exact hB.1.2) hS h4)
theorem wm_cVr (C : wm_C G X cc nL Ts own d rc rs) {post : Nat → wm_Sg → Prop} {o ci : Nat} {q : vw_C} (hM : wm_Mr X.l G y ws dy n S (.ref (G.B + o) :: As) g post) (gi : GoodIn Ts (wsV own index q.1 y ws)) (ho : o < n) (hc : vwCl[ci]? = some q) (hm : ∃ fs, S o (g o) = .inr (ci, fs)) (hyc : y.cls = q.1) (hw : ws = Cond.code y bytes maxL ret :: ws') (hd : y.cls ≠ "java/lang/invoke/MethodHandle" ∧ y.cls ≠ "java/lang/invoke/VarHandle" ∧ (parseMethodDescriptor y.desc).map (fun d => d.parameters.length) = some na) (hna : As.length = na) (hdy : dy + 1 ≤ d) (hml : maxL ≤ 21) (dd : decode cc pc = .ok (.invokevirtual index, 3)) (hst : st = As.reverse ++ .ref (G.B + o) :: rest) (hr : (rest.map fun v => v.category).sum ≤ 8) (hcs : cells ≤ rc) (hss : slots ≤ rs) (k : ∀ (r : Nat) (g' : wm_Sg), post r g' → wm_W G X nL cells slots n S g' (pc + 3) L (.ref r :: rest)) : wm_W G X nL cells slots n S g pc L st := by
  intro H locs ls h1 h2 h3 h4
  subst hst
  subst hna
  refine va_callr (va_runV (As := As) (rest := rest) ⟨C.1, C.2.1, C.2.2.1, C.2.2.2.1, C.2.2.2.2.1⟩ hM (cwV As.length C.2.2.2.2.1 gi hw rfl rfl ⟨hyc, hd⟩ ⟨by show dy + 1 ≤ X.R.frames; have := C.2.2.2.2.2.2.2.2.1; omega, by show 8 + (maxL + 11) + 40 * dy ≤ X.R.locals; have := C.2.2.2.2.2.2.2.2.2.1; omega⟩) ⟨wm_A.blind, wm_recv C h2 ho hc hm, fun U hU hW => ⟨rfl, wm_A.pre C h1 h2 h3 U hU hW⟩⟩ rfl rfl h4.1 rfl (lv_room hr) dd ⟨Nat.le_trans hcs C.2.2.2.2.2.2.2.2.2.2.1, Nat.le_trans hss C.2.2.2.2.2.2.2.2.2.2.2⟩) h3 (fun q _ h => h) (fun q h => h) (fun g' r t H1 locs1 ht hvm hp hB hz hk hS => k r g' hB.2 H1 locs1 ls (by rw [← ht]; exact hB.1.1) (by rw [← ht]; exact hB.1.2) hS h4)
end WC

