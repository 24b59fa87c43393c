/-! the static tables' names; nest mates' links, arrays of objects: words that don't keep by themselves -/
def wm_TC : String := "FactFlow$Fact"
def wm_Tn (i : Nat) : String := match i with
  | 0 => "SUM_SIGNS"
  | 1 => "DIFFERENCE_SIGNS"
  | 2 => "PRODUCT_SIGNS"
  | _ => "QUOTIENT_SIGNS"
def wm_nw : List Cond := [Cond.methodLinkNest "FactFlow$Program" 23 y_Fa_init "FactFlow", Cond.methodLinkNest "FactFlow$Program" 28 y_In_init "FactFlow", Cond.methodLinkNest "FactFlow$State" 21 y_Fa_init "FactFlow", Cond.methodLinkNest "FactFlow" 25 y_Ip_init "FactFlow", Cond.methodLinkNest "FactFlow" 32 y_Ma_init "FactFlow", Cond.methodLinkNest "FactFlow$Instruction" 28 y_Ff_isVariable "FactFlow", Cond.methodLinkNest "FactFlow$Fact" 32 y_Ff_calculated "FactFlow", Cond.methodLinkNest "FactFlow$Machine" 66 y_Ff_calculated "FactFlow", Cond.arrayOver (.object "FactFlow$Instruction"), Cond.arrayOver (.object "FactFlow$State"), Cond.arrayOver (.object "FactFlow$Fact")]
theorem wm_nw_warm {s U : State} (hW : s.WarmedH U.vm) : ∀ w ∈ wm_nw, va_Nw w s → va_Nw w U := by
  intro w hw h
  unfold wm_nw at hw
  rcases List.mem_cons.mp hw with e | hw
  · subst e; exact va_Nw.warmM hW h
  rcases List.mem_cons.mp hw with e | hw
  · subst e; exact va_Nw.warmM hW h
  rcases List.mem_cons.mp hw with e | hw
  · subst e; exact va_Nw.warmM hW h
  rcases List.mem_cons.mp hw with e | hw
  · subst e; exact va_Nw.warmM hW h
  rcases List.mem_cons.mp hw with e | hw
  · subst e; exact va_Nw.warmM hW h
  rcases List.mem_cons.mp hw with e | hw
  · subst e; exact va_Nw.warmM hW h
  rcases List.mem_cons.mp hw with e | hw
  · subst e; exact va_Nw.warmM hW h
  rcases List.mem_cons.mp hw with e | hw
  · subst e; exact va_Nw.warmM hW h
  rcases List.mem_cons.mp hw with e | hw
  · subst e; exact va_AO.moved (C := "FactFlow$Instruction") hW.alike h
  rcases List.mem_cons.mp hw with e | hw
  · subst e; exact va_AO.moved (C := "FactFlow$State") hW.alike h
  rcases List.mem_cons.mp hw with e | hw
  · subst e; exact va_AO.moved (C := "FactFlow$Fact") hW.alike h
  cases hw
theorem wm_nw_same {s U : State} (e : s.vm = U.vm) : ∀ w ∈ wm_nw, va_Nw w s → va_Nw w U := by
  intro w hw h
  unfold wm_nw at hw
  rcases List.mem_cons.mp hw with e1 | hw
  · subst e1; exact va_Nw.same rfl e h
  rcases List.mem_cons.mp hw with e1 | hw
  · subst e1; exact va_Nw.same rfl e h
  rcases List.mem_cons.mp hw with e1 | hw
  · subst e1; exact va_Nw.same rfl e h
  rcases List.mem_cons.mp hw with e1 | hw
  · subst e1; exact va_Nw.same rfl e h
  rcases List.mem_cons.mp hw with e1 | hw
  · subst e1; exact va_Nw.same rfl e h
  rcases List.mem_cons.mp hw with e1 | hw
  · subst e1; exact va_Nw.same rfl e h
  rcases List.mem_cons.mp hw with e1 | hw
  · subst e1; exact va_Nw.same rfl e h
  rcases List.mem_cons.mp hw with e1 | hw
  · subst e1; exact va_Nw.same rfl e h
  rcases List.mem_cons.mp hw with e1 | hw
  · subst e1; exact va_AO.moved (C := "FactFlow$Instruction") (by rw [e]; exact Vm.Alike.refl _) h
  rcases List.mem_cons.mp hw with e1 | hw
  · subst e1; exact va_AO.moved (C := "FactFlow$State") (by rw [e]; exact Vm.Alike.refl _) h
  rcases List.mem_cons.mp hw with e1 | hw
  · subst e1; exact va_AO.moved (C := "FactFlow$Fact") (by rw [e]; exact Vm.Alike.refl _) h
  cases hw
