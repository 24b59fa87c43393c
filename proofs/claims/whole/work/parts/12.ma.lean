/-! FactFlow$Instruction.usesA(I)Z -/
def mf_In_usesA_23 (s0 : Int32) (g : wm_Sg) : Option (Int32 × wm_Sg) :=
  if s0 = 0 ∨ s0 = 1 then some (s0, g) else none
def mf_In_usesA_22  (g : wm_Sg) : Option (Int32 × wm_Sg) :=
  mf_In_usesA_23 (0 : Int32) g
def mf_In_usesA (a0 : Int32) (g : wm_Sg) : Option (Int32 × wm_Sg) :=
  if a0 = (9 : Int32) then (mf_In_usesA_22 g) else (if a0 = (11 : Int32) then (mf_In_usesA_22 g) else (if a0 = (12 : Int32) then (mf_In_usesA_22 g) else (mf_In_usesA_23 (1 : Int32) g)))
set_option maxHeartbeats 4000000 in
set_option maxRecDepth 100000 in
theorem mc_In_usesA {l : Launch} {G : wm_G} (a0 : Int32) (g : wm_Sg) (v : (Int32 × wm_Sg)) (h : mf_In_usesA a0 g = some v) : wm_Mi l G y_In_usesA ws_In_usesA 0 wm_n (wm_S G) [.int a0] g (fun r u => r = v.1 ∧ u = v.2) := by
  refine wm_in_z (cc := c_In_usesA) (maxL := 1) (by decide) rfl (Nat.le_of_ble_eq_true rfl) (fun X C _ E => ?_)
  have c_23 : ∀ (s0 : Int32) (g : wm_Sg), mf_In_usesA_23  s0 g = some v → wm_W G X 1 0 0 wm_n (wm_S G) g 23 [] [.int s0] := by
    intro s0 g h
    unfold mf_In_usesA_23 at h
    exact wk_yes h (fun q h => E _ _ _ _ d_In_usesA_23 (wk_nar q) (wk_ret h))
  have c_22 : ∀ (g : wm_Sg), mf_In_usesA_22  g = some v → wm_W G X 1 0 0 wm_n (wm_S G) g 22 [] [] := by
    intro g h
    unfold mf_In_usesA_22 at h
    refine wm_iconst (v := (0 : Int32)) C d_In_usesA_22 (by decide) ?_
    refine wk_cut (c_23 (0 : Int32) g h) ?_
    exact trivial
  unfold mf_In_usesA at h
  refine wm_iload_n C d_In_usesA_0 rfl ?_
  refine wm_bipush (v := (9 : Int32)) C d_In_usesA_1 (by decide) ?_
  refine wk_icmp_eq (tgt := 22) C d_In_usesA_3 rfl h (fun _ h => ?_) (fun _ h => ?_)
  · refine wk_cut (c_22 g h) ?_
    exact trivial
  · refine wm_iload_n C d_In_usesA_6 rfl ?_
    refine wm_bipush (v := (11 : Int32)) C d_In_usesA_7 (by decide) ?_
    refine wk_icmp_eq (tgt := 22) C d_In_usesA_9 rfl h (fun _ h => ?_) (fun _ h => ?_)
    · refine wk_cut (c_22 g h) ?_
      exact trivial
    · refine wm_iload_n C d_In_usesA_12 rfl ?_
      refine wm_bipush (v := (12 : Int32)) C d_In_usesA_13 (by decide) ?_
      refine wk_icmp_eq (tgt := 22) C d_In_usesA_15 rfl h (fun _ h => ?_) (fun _ h => ?_)
      · refine wk_cut (c_22 g h) ?_
        exact trivial
      · refine wm_iconst (v := (1 : Int32)) C d_In_usesA_18 (by decide) ?_
        refine wm_goto (tgt := 23) C d_In_usesA_19 rfl ?_
        refine wk_cut (c_23 (1 : Int32) g h) ?_
        exact trivial
/-! FactFlow.isVariable(I)Z -/
def mf_Ff_isVariable_14 (s0 : Int32) (g : wm_Sg) : Option (Int32 × wm_Sg) :=
  if s0 = 0 ∨ s0 = 1 then some (s0, g) else none
def mf_Ff_isVariable_13  (g : wm_Sg) : Option (Int32 × wm_Sg) :=
  mf_Ff_isVariable_14 (0 : Int32) g
def mf_Ff_isVariable (a0 : Int32) (g : wm_Sg) : Option (Int32 × wm_Sg) :=
  if a0 < (0 : Int32) then (mf_Ff_isVariable_13 g) else (if (4 : Int32) ≤ a0 then (mf_Ff_isVariable_13 g) else (mf_Ff_isVariable_14 (1 : Int32) g))
set_option maxHeartbeats 4000000 in
set_option maxRecDepth 100000 in
theorem mc_Ff_isVariable {l : Launch} {G : wm_G} (a0 : Int32) (g : wm_Sg) (v : (Int32 × wm_Sg)) (h : mf_Ff_isVariable a0 g = some v) : wm_Mi l G y_Ff_isVariable ws_Ff_isVariable 0 wm_n (wm_S G) [.int a0] g (fun r u => r = v.1 ∧ u = v.2) := by
  refine wm_in_z (cc := c_Ff_isVariable) (maxL := 1) (by decide) rfl (Nat.le_of_ble_eq_true rfl) (fun X C _ E => ?_)
  have c_14 : ∀ (s0 : Int32) (g : wm_Sg), mf_Ff_isVariable_14  s0 g = some v → wm_W G X 1 0 0 wm_n (wm_S G) g 14 [] [.int s0] := by
    intro s0 g h
    unfold mf_Ff_isVariable_14 at h
    exact wk_yes h (fun q h => E _ _ _ _ d_Ff_isVariable_14 (wk_nar q) (wk_ret h))
  have c_13 : ∀ (g : wm_Sg), mf_Ff_isVariable_13  g = some v → wm_W G X 1 0 0 wm_n (wm_S G) g 13 [] [] := by
    intro g h
    unfold mf_Ff_isVariable_13 at h
    refine wm_iconst (v := (0 : Int32)) C d_Ff_isVariable_13 (by decide) ?_
    refine wk_cut (c_14 (0 : Int32) g h) ?_
    exact trivial
  unfold mf_Ff_isVariable at h
  refine wm_iload_n C d_Ff_isVariable_0 rfl ?_
  refine wk_if_lt (tgt := 13) C d_Ff_isVariable_1 rfl h (fun _ h => ?_) (fun _ h => ?_)
  · refine wk_cut (c_13 g h) ?_
    exact trivial
  · refine wm_iload_n C d_Ff_isVariable_4 rfl ?_
    refine wm_iconst (v := (4 : Int32)) C d_Ff_isVariable_5 (by decide) ?_
    refine wk_icmp_ge (tgt := 13) C d_Ff_isVariable_6 rfl h (fun _ h => ?_) (fun _ h => ?_)
    · refine wk_cut (c_13 g h) ?_
      exact trivial
    · refine wm_iconst (v := (1 : Int32)) C d_Ff_isVariable_9 (by decide) ?_
      refine wm_goto (tgt := 14) C d_Ff_isVariable_10 rfl ?_
      refine wk_cut (c_14 (1 : Int32) g h) ?_
      exact trivial
/-! FactFlow$Instruction.calculates(I)Z -/
def mf_In_calculates_15 (s0 : Int32) (g : wm_Sg) : Option (Int32 × wm_Sg) :=
  if s0 = 0 ∨ s0 = 1 then some (s0, g) else none
def mf_In_calculates_14  (g : wm_Sg) : Option (Int32 × wm_Sg) :=
  mf_In_calculates_15 (0 : Int32) g
def mf_In_calculates (a0 : Int32) (g : wm_Sg) : Option (Int32 × wm_Sg) :=
  if a0 < (2 : Int32) then (mf_In_calculates_14 g) else (if (5 : Int32) < a0 then (mf_In_calculates_14 g) else (mf_In_calculates_15 (1 : Int32) g))
set_option maxHeartbeats 4000000 in
set_option maxRecDepth 100000 in
theorem mc_In_calculates {l : Launch} {G : wm_G} (a0 : Int32) (g : wm_Sg) (v : (Int32 × wm_Sg)) (h : mf_In_calculates a0 g = some v) : wm_Mi l G y_In_calculates ws_In_calculates 0 wm_n (wm_S G) [.int a0] g (fun r u => r = v.1 ∧ u = v.2) := by
  refine wm_in_z (cc := c_In_calculates) (maxL := 1) (by decide) rfl (Nat.le_of_ble_eq_true rfl) (fun X C _ E => ?_)
  have c_15 : ∀ (s0 : Int32) (g : wm_Sg), mf_In_calculates_15  s0 g = some v → wm_W G X 1 0 0 wm_n (wm_S G) g 15 [] [.int s0] := by
    intro s0 g h
    unfold mf_In_calculates_15 at h
    exact wk_yes h (fun q h => E _ _ _ _ d_In_calculates_15 (wk_nar q) (wk_ret h))
  have c_14 : ∀ (g : wm_Sg), mf_In_calculates_14  g = some v → wm_W G X 1 0 0 wm_n (wm_S G) g 14 [] [] := by
    intro g h
    unfold mf_In_calculates_14 at h
    refine wm_iconst (v := (0 : Int32)) C d_In_calculates_14 (by decide) ?_
    refine wk_cut (c_15 (0 : Int32) g h) ?_
    exact trivial
  unfold mf_In_calculates at h
  refine wm_iload_n C d_In_calculates_0 rfl ?_
  refine wm_iconst (v := (2 : Int32)) C d_In_calculates_1 (by decide) ?_
  refine wk_icmp_lt (tgt := 14) C d_In_calculates_2 rfl h (fun _ h => ?_) (fun _ h => ?_)
  · refine wk_cut (c_14 g h) ?_
    exact trivial
  · refine wm_iload_n C d_In_calculates_5 rfl ?_
    refine wm_iconst (v := (5 : Int32)) C d_In_calculates_6 (by decide) ?_
    refine wk_icmp_gt (tgt := 14) C d_In_calculates_7 rfl h (fun _ h => ?_) (fun _ h => ?_)
    · refine wk_cut (c_14 g h) ?_
      exact trivial
    · refine wm_iconst (v := (1 : Int32)) C d_In_calculates_10 (by decide) ?_
      refine wm_goto (tgt := 15) C d_In_calculates_11 rfl ?_
      refine wk_cut (c_15 (1 : Int32) g h) ?_
      exact trivial
/-! FactFlow$Instruction.usesB(I)Z -/
def mf_In_usesB_17 (s0 : Int32) (g : wm_Sg) : Option (Int32 × wm_Sg) :=
  if s0 = 0 ∨ s0 = 1 then some (s0, g) else none
def mf_In_usesB_12  (g : wm_Sg) : Option (Int32 × wm_Sg) :=
  mf_In_usesB_17 (1 : Int32) g
def mf_In_usesB (a0 : Int32) (g : wm_Sg) : Option (Int32 × wm_Sg) :=
  if a0 = (1 : Int32) then (mf_In_usesB_12 g) else ((mf_In_calculates a0 g).bind fun v2 => if v2.1 = (0 : Int32) then (mf_In_usesB_17 (0 : Int32) v2.2) else (mf_In_usesB_12 v2.2))
set_option maxHeartbeats 4000000 in
set_option maxRecDepth 100000 in
theorem mc_In_usesB {l : Launch} {G : wm_G} (a0 : Int32) (g : wm_Sg) (v : (Int32 × wm_Sg)) (h : mf_In_usesB a0 g = some v) : wm_Mi l G y_In_usesB ws_In_usesB 1 wm_n (wm_S G) [.int a0] g (fun r u => r = v.1 ∧ u = v.2) := by
  refine wm_in_z (cc := c_In_usesB) (maxL := 1) (by decide) rfl (Nat.le_of_ble_eq_true rfl) (fun X C _ E => ?_)
  have c_17 : ∀ (s0 : Int32) (g : wm_Sg), mf_In_usesB_17  s0 g = some v → wm_W G X 1 0 0 wm_n (wm_S G) g 17 [] [.int s0] := by
    intro s0 g h
    unfold mf_In_usesB_17 at h
    exact wk_yes h (fun q h => E _ _ _ _ d_In_usesB_17 (wk_nar q) (wk_ret h))
  have c_12 : ∀ (g : wm_Sg), mf_In_usesB_12  g = some v → wm_W G X 1 0 0 wm_n (wm_S G) g 12 [] [] := by
    intro g h
    unfold mf_In_usesB_12 at h
    refine wm_iconst (v := (1 : Int32)) C d_In_usesB_12 (by decide) ?_
    refine wm_goto (tgt := 17) C d_In_usesB_13 rfl ?_
    refine wk_cut (c_17 (1 : Int32) g h) ?_
    exact trivial
  unfold mf_In_usesB at h
  refine wm_iload_n C d_In_usesB_0 rfl ?_
  refine wm_iconst (v := (1 : Int32)) C d_In_usesB_1 (by decide) ?_
  refine wk_icmp_eq (tgt := 12) C d_In_usesB_2 rfl h (fun _ h => ?_) (fun _ h => ?_)
  · refine wk_cut (c_12 g h) ?_
    exact trivial
  · refine wm_iload_n C d_In_usesB_5 rfl ?_
    refine wk_bind h (fun v2 e2 h => wm_cSi (na := 1) C (mc_In_calculates a0 g v2 e2) (gc_In_calculates mw_0_217) rfl (by decide +kernel) rfl (by decide) (by decide) d_In_usesB_6 rfl (Nat.le_of_ble_eq_true rfl) (Nat.zero_le _) (Nat.zero_le _) (fun r2 u2 q2 => ?_))
    obtain ⟨rfl, rfl⟩ := q2
    refine wk_if_eq (tgt := 16) C d_In_usesB_9 rfl h (fun _ h => ?_) (fun _ h => ?_)
    · refine wm_iconst (v := (0 : Int32)) C d_In_usesB_16 (by decide) ?_
      refine wk_cut (c_17 (0 : Int32) v2.2 h) ?_
      exact trivial
    · refine wk_cut (c_12 v2.2 h) ?_
      exact trivial
/-! FactFlow$Instruction.jumps(I)Z -/
def mf_In_jumps_17 (s0 : Int32) (g : wm_Sg) : Option (Int32 × wm_Sg) :=
  if s0 = 0 ∨ s0 = 1 then some (s0, g) else none
def mf_In_jumps_16  (g : wm_Sg) : Option (Int32 × wm_Sg) :=
  mf_In_jumps_17 (0 : Int32) g
def mf_In_jumps (a0 : Int32) (g : wm_Sg) : Option (Int32 × wm_Sg) :=
  if a0 < (7 : Int32) then (mf_In_jumps_16 g) else (if (9 : Int32) < a0 then (mf_In_jumps_16 g) else (mf_In_jumps_17 (1 : Int32) g))
set_option maxHeartbeats 4000000 in
set_option maxRecDepth 100000 in
theorem mc_In_jumps {l : Launch} {G : wm_G} (a0 : Int32) (g : wm_Sg) (v : (Int32 × wm_Sg)) (h : mf_In_jumps a0 g = some v) : wm_Mi l G y_In_jumps ws_In_jumps 0 wm_n (wm_S G) [.int a0] g (fun r u => r = v.1 ∧ u = v.2) := by
  refine wm_in_z (cc := c_In_jumps) (maxL := 1) (by decide) rfl (Nat.le_of_ble_eq_true rfl) (fun X C _ E => ?_)
  have c_17 : ∀ (s0 : Int32) (g : wm_Sg), mf_In_jumps_17  s0 g = some v → wm_W G X 1 0 0 wm_n (wm_S G) g 17 [] [.int s0] := by
    intro s0 g h
    unfold mf_In_jumps_17 at h
    exact wk_yes h (fun q h => E _ _ _ _ d_In_jumps_17 (wk_nar q) (wk_ret h))
  have c_16 : ∀ (g : wm_Sg), mf_In_jumps_16  g = some v → wm_W G X 1 0 0 wm_n (wm_S G) g 16 [] [] := by
    intro g h
    unfold mf_In_jumps_16 at h
    refine wm_iconst (v := (0 : Int32)) C d_In_jumps_16 (by decide) ?_
    refine wk_cut (c_17 (0 : Int32) g h) ?_
    exact trivial
  unfold mf_In_jumps at h
  refine wm_iload_n C d_In_jumps_0 rfl ?_
  refine wm_bipush (v := (7 : Int32)) C d_In_jumps_1 (by decide) ?_
  refine wk_icmp_lt (tgt := 16) C d_In_jumps_3 rfl h (fun _ h => ?_) (fun _ h => ?_)
  · refine wk_cut (c_16 g h) ?_
    exact trivial
  · refine wm_iload_n C d_In_jumps_6 rfl ?_
    refine wm_bipush (v := (9 : Int32)) C d_In_jumps_7 (by decide) ?_
    refine wk_icmp_gt (tgt := 16) C d_In_jumps_9 rfl h (fun _ h => ?_) (fun _ h => ?_)
    · refine wk_cut (c_16 g h) ?_
      exact trivial
    · refine wm_iconst (v := (1 : Int32)) C d_In_jumps_12 (by decide) ?_
      refine wm_goto (tgt := 17) C d_In_jumps_13 rfl ?_
      refine wk_cut (c_17 (1 : Int32) g h) ?_
      exact trivial
/-! FactFlow$Instruction.isTold(IIII)Z -/
def mf_In_isTold_10  (g : wm_Sg) : Option (Int32 × wm_Sg) :=
  some ((0 : Int32), g)
def mf_In_isTold_40  (g : wm_Sg) : Option (Int32 × wm_Sg) :=
  some ((0 : Int32), g)
def mf_In_isTold_76 (s0 : Int32) (g : wm_Sg) : Option (Int32 × wm_Sg) :=
  if s0 = 0 ∨ s0 = 1 then some (s0, g) else none
def mf_In_isTold_71  (g : wm_Sg) : Option (Int32 × wm_Sg) :=
  mf_In_isTold_76 (1 : Int32) g
def mf_In_isTold_75  (g : wm_Sg) : Option (Int32 × wm_Sg) :=
  mf_In_isTold_76 (0 : Int32) g
def mf_In_isTold_42 (b0 : Int32) (b3 : Int32) (g : wm_Sg) : Option (Int32 × wm_Sg) :=
  (mf_In_calculates b0 g).bind fun v13 => if v13.1 = (0 : Int32) then ((mf_In_jumps b0 v13.2).bind fun v14 => if v14.1 = (0 : Int32) then (mf_In_isTold_71 v14.2) else (if b3 < (0 : Int32) then (mf_In_isTold_75 v14.2) else (if (24 : Int32) < b3 then (mf_In_isTold_75 v14.2) else (mf_In_isTold_71 v14.2)))) else ((mf_Ff_isVariable b3 v13.2).bind fun v15 => if v15.1 = 0 ∨ v15.1 = 1 then some (v15.1, v15.2) else none)
def mf_In_isTold_26 (b0 : Int32) (b2 : Int32) (b3 : Int32) (g : wm_Sg) : Option (Int32 × wm_Sg) :=
  (mf_In_usesB b0 g).bind fun v16 => if v16.1 = (0 : Int32) then (mf_In_isTold_42 b0 b3 v16.2) else ((mf_Ff_isVariable b2 v16.2).bind fun v17 => if v17.1 = (0 : Int32) then (mf_In_isTold_40 v17.2) else (mf_In_isTold_42 b0 b3 v17.2))
def mf_In_isTold (a0 : Int32) (a1 : Int32) (a2 : Int32) (a3 : Int32) (g : wm_Sg) : Option (Int32 × wm_Sg) :=
  if a0 < (0 : Int32) then (mf_In_isTold_10 g) else (if a0 ≤ (12 : Int32) then ((mf_In_usesA a0 g).bind fun v18 => if v18.1 = (0 : Int32) then (mf_In_isTold_26 a0 a2 a3 v18.2) else ((mf_Ff_isVariable a1 v18.2).bind fun v19 => if v19.1 = (0 : Int32) then (mf_In_isTold_40 v19.2) else (mf_In_isTold_26 a0 a2 a3 v19.2))) else (mf_In_isTold_10 g))
set_option maxHeartbeats 4000000 in
set_option maxRecDepth 100000 in
theorem mc_In_isTold {l : Launch} {G : wm_G} (a0 : Int32) (a1 : Int32) (a2 : Int32) (a3 : Int32) (g : wm_Sg) (v : (Int32 × wm_Sg)) (h : mf_In_isTold a0 a1 a2 a3 g = some v) : wm_Mi l G y_In_isTold ws_In_isTold 2 wm_n (wm_S G) [.int a0, .int a1, .int a2, .int a3] g (fun r u => r = v.1 ∧ u = v.2) := by
  refine wm_in_z (cc := c_In_isTold) (maxL := 4) (by decide) rfl (Nat.le_of_ble_eq_true rfl) (fun X C _ E => ?_)
  have c_10 : ∀ (g : wm_Sg), mf_In_isTold_10  g = some v → wm_W G X 4 0 0 wm_n (wm_S G) g 10 [] [] := by
    intro g h
    unfold mf_In_isTold_10 at h
    refine wm_iconst (v := (0 : Int32)) C d_In_isTold_10 (by decide) ?_
    exact E _ _ _ _ d_In_isTold_11 rfl (wk_ret h)
  have c_40 : ∀ (g : wm_Sg), mf_In_isTold_40  g = some v → wm_W G X 4 0 0 wm_n (wm_S G) g 40 [] [] := by
    intro g h
    unfold mf_In_isTold_40 at h
    refine wm_iconst (v := (0 : Int32)) C d_In_isTold_40 (by decide) ?_
    exact E _ _ _ _ d_In_isTold_41 rfl (wk_ret h)
  have c_76 : ∀ (s0 : Int32) (g : wm_Sg), mf_In_isTold_76  s0 g = some v → wm_W G X 4 0 0 wm_n (wm_S G) g 76 [] [.int s0] := by
    intro s0 g h
    unfold mf_In_isTold_76 at h
    exact wk_yes h (fun q h => E _ _ _ _ d_In_isTold_76 (wk_nar q) (wk_ret h))
  have c_71 : ∀ (g : wm_Sg), mf_In_isTold_71  g = some v → wm_W G X 4 0 0 wm_n (wm_S G) g 71 [] [] := by
    intro g h
    unfold mf_In_isTold_71 at h
    refine wm_iconst (v := (1 : Int32)) C d_In_isTold_71 (by decide) ?_
    refine wm_goto (tgt := 76) C d_In_isTold_72 rfl ?_
    refine wk_cut (c_76 (1 : Int32) g h) ?_
    exact trivial
  have c_75 : ∀ (g : wm_Sg), mf_In_isTold_75  g = some v → wm_W G X 4 0 0 wm_n (wm_S G) g 75 [] [] := by
    intro g h
    unfold mf_In_isTold_75 at h
    refine wm_iconst (v := (0 : Int32)) C d_In_isTold_75 (by decide) ?_
    refine wk_cut (c_76 (0 : Int32) g h) ?_
    exact trivial
  have c_42 : ∀ (b0 : Int32) (b3 : Int32) (g : wm_Sg), mf_In_isTold_42 b0 b3 g = some v → wm_W G X 4 0 0 wm_n (wm_S G) g 42 [(0, .int b0), (3, .int b3)] [] := by
    intro b0 b3 g h
    unfold mf_In_isTold_42 at h
    refine wm_iload_n C d_In_isTold_42 rfl ?_
    refine wk_bind h (fun v13 e13 h => wm_cSi (na := 1) C (mc_In_calculates b0 g v13 e13) (gc_In_calculates mw_0_217) rfl (by decide +kernel) rfl (by decide) (by decide) d_In_isTold_43 rfl (Nat.le_of_ble_eq_true rfl) (Nat.zero_le _) (Nat.zero_le _) (fun r13 u13 q13 => ?_))
    obtain ⟨rfl, rfl⟩ := q13
    refine wk_if_eq (tgt := 54) C d_In_isTold_46 rfl h (fun _ h => ?_) (fun _ h => ?_)
    · refine wm_iload_n C d_In_isTold_54 rfl ?_
      refine wk_bind h (fun v14 e14 h => wm_cSi (na := 1) C (mc_In_jumps b0 v13.2 v14 e14) (gc_In_jumps mw_0_220) rfl (by decide +kernel) rfl (by decide) (by decide) d_In_isTold_55 rfl (Nat.le_of_ble_eq_true rfl) (Nat.zero_le _) (Nat.zero_le _) (fun r14 u14 q14 => ?_))
      obtain ⟨rfl, rfl⟩ := q14
      refine wk_if_eq (tgt := 71) C d_In_isTold_58 rfl h (fun _ h => ?_) (fun _ h => ?_)
      · refine wk_cut (c_71 v14.2 h) ?_
        exact trivial
      · refine wm_iload_n C d_In_isTold_61 rfl ?_
        refine wk_if_lt (tgt := 75) C d_In_isTold_62 rfl h (fun _ h => ?_) (fun _ h => ?_)
        · refine wk_cut (c_75 v14.2 h) ?_
          exact trivial
        · refine wm_iload_n C d_In_isTold_65 rfl ?_
          refine wm_bipush (v := (24 : Int32)) C d_In_isTold_66 (by decide) ?_
          refine wk_icmp_gt (tgt := 75) C d_In_isTold_68 rfl h (fun _ h => ?_) (fun _ h => ?_)
          · refine wk_cut (c_75 v14.2 h) ?_
            exact trivial
          · refine wk_cut (c_71 v14.2 h) ?_
            exact trivial
    · refine wm_iload_n C d_In_isTold_49 rfl ?_
      refine wk_bind h (fun v15 e15 h => wm_cNi (na := 1) C (mc_Ff_isVariable b3 v13.2 v15 e15) gn_Ff_isVariable (List.mem_of_getElem? (i := 5) rfl) (ws_1 mw_0_212) (ws_1 mw_0_1) rfl (by decide +kernel) rfl (by decide) (by decide) d_In_isTold_50 rfl (Nat.le_of_ble_eq_true rfl) (Nat.zero_le _) (Nat.zero_le _) (fun r15 u15 q15 => ?_))
      obtain ⟨rfl, rfl⟩ := q15
      exact wk_yes h (fun q h => E _ _ _ _ d_In_isTold_53 (wk_nar q) (wk_ret h))
  have c_26 : ∀ (b0 : Int32) (b2 : Int32) (b3 : Int32) (g : wm_Sg), mf_In_isTold_26 b0 b2 b3 g = some v → wm_W G X 4 0 0 wm_n (wm_S G) g 26 [(0, .int b0), (2, .int b2), (3, .int b3)] [] := by
    intro b0 b2 b3 g h
    unfold mf_In_isTold_26 at h
    refine wm_iload_n C d_In_isTold_26 rfl ?_
    refine wk_bind h (fun v16 e16 h => wm_cSi (na := 1) C (mc_In_usesB b0 g v16 e16) (gc_In_usesB mw_0_214) rfl (by decide +kernel) rfl (by decide) (by decide) d_In_isTold_27 rfl (Nat.le_of_ble_eq_true rfl) (Nat.zero_le _) (Nat.zero_le _) (fun r16 u16 q16 => ?_))
    obtain ⟨rfl, rfl⟩ := q16
    refine wk_if_eq (tgt := 42) C d_In_isTold_30 rfl h (fun _ h => ?_) (fun _ h => ?_)
    · refine wk_cut (c_42 b0 b3 v16.2 h) ?_
      exact ⟨rfl, rfl, trivial⟩
    · refine wm_iload_n C d_In_isTold_33 rfl ?_
      refine wk_bind h (fun v17 e17 h => wm_cNi (na := 1) C (mc_Ff_isVariable b2 v16.2 v17 e17) gn_Ff_isVariable (List.mem_of_getElem? (i := 5) rfl) (ws_1 mw_0_212) (ws_1 mw_0_1) rfl (by decide +kernel) rfl (by decide) (by decide) d_In_isTold_34 rfl (Nat.le_of_ble_eq_true rfl) (Nat.zero_le _) (Nat.zero_le _) (fun r17 u17 q17 => ?_))
      obtain ⟨rfl, rfl⟩ := q17
      refine wk_if_ne (tgt := 42) C d_In_isTold_37 rfl h (fun _ h => ?_) (fun _ h => ?_)
      · refine wk_cut (c_40 v17.2 h) ?_
        exact trivial
      · refine wk_cut (c_42 b0 b3 v17.2 h) ?_
        exact ⟨rfl, rfl, trivial⟩
  unfold mf_In_isTold at h
  refine wm_iload_n C d_In_isTold_0 rfl ?_
  refine wk_if_lt (tgt := 10) C d_In_isTold_1 rfl h (fun _ h => ?_) (fun _ h => ?_)
  · refine wk_cut (c_10 g h) ?_
    exact trivial
  · refine wm_iload_n C d_In_isTold_4 rfl ?_
    refine wm_bipush (v := (12 : Int32)) C d_In_isTold_5 (by decide) ?_
    refine wk_icmp_le (tgt := 12) C d_In_isTold_7 rfl h (fun _ h => ?_) (fun _ h => ?_)
    · refine wm_iload_n C d_In_isTold_12 rfl ?_
      refine wk_bind h (fun v18 e18 h => wm_cSi (na := 1) C (mc_In_usesA a0 g v18 e18) (gc_In_usesA mw_0_208) rfl (by decide +kernel) rfl (by decide) (by decide) d_In_isTold_13 rfl (Nat.le_of_ble_eq_true rfl) (Nat.zero_le _) (Nat.zero_le _) (fun r18 u18 q18 => ?_))
      obtain ⟨rfl, rfl⟩ := q18
      refine wk_if_eq (tgt := 26) C d_In_isTold_16 rfl h (fun _ h => ?_) (fun _ h => ?_)
      · refine wk_cut (c_26 a0 a2 a3 v18.2 h) ?_
        exact ⟨rfl, rfl, rfl, trivial⟩
      · refine wm_iload_n C d_In_isTold_19 rfl ?_
        refine wk_bind h (fun v19 e19 h => wm_cNi (na := 1) C (mc_Ff_isVariable a1 v18.2 v19 e19) gn_Ff_isVariable (List.mem_of_getElem? (i := 5) rfl) (ws_1 mw_0_212) (ws_1 mw_0_1) rfl (by decide +kernel) rfl (by decide) (by decide) d_In_isTold_20 rfl (Nat.le_of_ble_eq_true rfl) (Nat.zero_le _) (Nat.zero_le _) (fun r19 u19 q19 => ?_))
        obtain ⟨rfl, rfl⟩ := q19
        refine wk_if_eq (tgt := 40) C d_In_isTold_23 rfl h (fun _ h => ?_) (fun _ h => ?_)
        · refine wk_cut (c_40 v19.2 h) ?_
          exact trivial
        · refine wk_cut (c_26 a0 a2 a3 v19.2 h) ?_
          exact ⟨rfl, rfl, rfl, trivial⟩
    · refine wk_cut (c_10 g h) ?_
      exact trivial
/-! FactFlow$Instruction.usesC(I)Z -/
def mf_In_usesC_23 (s0 : Int32) (g : wm_Sg) : Option (Int32 × wm_Sg) :=
  if s0 = 0 ∨ s0 = 1 then some (s0, g) else none
def mf_In_usesC_18  (g : wm_Sg) : Option (Int32 × wm_Sg) :=
  mf_In_usesC_23 (1 : Int32) g
def mf_In_usesC (a0 : Int32) (g : wm_Sg) : Option (Int32 × wm_Sg) :=
  if a0 = (0 : Int32) then (mf_In_usesC_18 g) else ((mf_In_calculates a0 g).bind fun v3 => if v3.1 = (0 : Int32) then ((mf_In_jumps a0 v3.2).bind fun v4 => if v4.1 = (0 : Int32) then (mf_In_usesC_23 (0 : Int32) v4.2) else (mf_In_usesC_18 v4.2)) else (mf_In_usesC_18 v3.2))
set_option maxHeartbeats 4000000 in
set_option maxRecDepth 100000 in
theorem mc_In_usesC {l : Launch} {G : wm_G} (a0 : Int32) (g : wm_Sg) (v : (Int32 × wm_Sg)) (h : mf_In_usesC a0 g = some v) : wm_Mi l G y_In_usesC ws_In_usesC 1 wm_n (wm_S G) [.int a0] g (fun r u => r = v.1 ∧ u = v.2) := by
  refine wm_in_z (cc := c_In_usesC) (maxL := 1) (by decide) rfl (Nat.le_of_ble_eq_true rfl) (fun X C _ E => ?_)
  have c_23 : ∀ (s0 : Int32) (g : wm_Sg), mf_In_usesC_23  s0 g = some v → wm_W G X 1 0 0 wm_n (wm_S G) g 23 [] [.int s0] := by
    intro s0 g h
    unfold mf_In_usesC_23 at h
    exact wk_yes h (fun q h => E _ _ _ _ d_In_usesC_23 (wk_nar q) (wk_ret h))
  have c_18 : ∀ (g : wm_Sg), mf_In_usesC_18  g = some v → wm_W G X 1 0 0 wm_n (wm_S G) g 18 [] [] := by
    intro g h
    unfold mf_In_usesC_18 at h
    refine wm_iconst (v := (1 : Int32)) C d_In_usesC_18 (by decide) ?_
    refine wm_goto (tgt := 23) C d_In_usesC_19 rfl ?_
    refine wk_cut (c_23 (1 : Int32) g h) ?_
    exact trivial
  unfold mf_In_usesC at h
  refine wm_iload_n C d_In_usesC_0 rfl ?_
  refine wk_if_eq (tgt := 18) C d_In_usesC_1 rfl h (fun _ h => ?_) (fun _ h => ?_)
  · refine wk_cut (c_18 g h) ?_
    exact trivial
  · refine wm_iload_n C d_In_usesC_4 rfl ?_
    refine wk_bind h (fun v3 e3 h => wm_cSi (na := 1) C (mc_In_calculates a0 g v3 e3) (gc_In_calculates mw_0_217) rfl (by decide +kernel) rfl (by decide) (by decide) d_In_usesC_5 rfl (Nat.le_of_ble_eq_true rfl) (Nat.zero_le _) (Nat.zero_le _) (fun r3 u3 q3 => ?_))
    obtain ⟨rfl, rfl⟩ := q3
    refine wk_if_ne (tgt := 18) C d_In_usesC_8 rfl h (fun _ h => ?_) (fun _ h => ?_)
    · refine wm_iload_n C d_In_usesC_11 rfl ?_
      refine wk_bind h (fun v4 e4 h => wm_cSi (na := 1) C (mc_In_jumps a0 v3.2 v4 e4) (gc_In_jumps mw_0_220) rfl (by decide +kernel) rfl (by decide) (by decide) d_In_usesC_12 rfl (Nat.le_of_ble_eq_true rfl) (Nat.zero_le _) (Nat.zero_le _) (fun r4 u4 q4 => ?_))
      obtain ⟨rfl, rfl⟩ := q4
      refine wk_if_eq (tgt := 22) C d_In_usesC_15 rfl h (fun _ h => ?_) (fun _ h => ?_)
      · refine wm_iconst (v := (0 : Int32)) C d_In_usesC_22 (by decide) ?_
        refine wk_cut (c_23 (0 : Int32) v4.2 h) ?_
        exact trivial
      · refine wk_cut (c_18 v4.2 h) ?_
        exact trivial
    · refine wk_cut (c_18 v3.2 h) ?_
      exact trivial
/-! FactFlow$Instruction.become(IIII)V -/
def mf_In_become_51 (s0 : Int32) (s1 : Nat) (g : wm_Sg) : Option wm_Sg :=
  some (wm_u g s1 3 s0)
def mf_In_become_34 (b0 : Nat) (b1 : Int32) (b4 : Int32) (s0 : Int32) (s1 : Nat) (g : wm_Sg) : Option wm_Sg :=
  (mf_In_usesC b1 (wm_u g s1 2 s0)).bind fun v6 => if v6.1 = (0 : Int32) then (mf_In_become_51 (0 : Int32) b0 v6.2) else (mf_In_become_51 b4 b0 v6.2)
def mf_In_become_18 (b0 : Nat) (b1 : Int32) (b3 : Int32) (b4 : Int32) (s0 : Int32) (s1 : Nat) (g : wm_Sg) : Option wm_Sg :=
  (mf_In_usesB b1 (wm_u g s1 1 s0)).bind fun v7 => if v7.1 = (0 : Int32) then (mf_In_become_34 b0 b1 b4 (0 : Int32) b0 v7.2) else (mf_In_become_34 b0 b1 b4 b3 b0 v7.2)
def mf_In_become (a0 : Nat) (a1 : Int32) (a2 : Int32) (a3 : Int32) (a4 : Int32) (g : wm_Sg) : Option wm_Sg :=
  (mf_In_usesA a1 (wm_u g a0 0 a1)).bind fun v8 => if v8.1 = (0 : Int32) then (mf_In_become_18 a0 a1 a3 a4 (0 : Int32) a0 v8.2) else (mf_In_become_18 a0 a1 a3 a4 a2 a0 v8.2)
set_option maxHeartbeats 4000000 in
set_option maxRecDepth 100000 in
theorem mc_In_become {l : Launch} {G : wm_G} (a0 : Nat) (a1 : Int32) (a2 : Int32) (a3 : Int32) (a4 : Int32) (g : wm_Sg) (v : wm_Sg) (k0 : kd a0 = 2) (h : mf_In_become a0 a1 a2 a3 a4 g = some v) : wm_Mv l G y_In_become ws_In_become 2 wm_n (wm_S G) [.ref (G.B + a0), .int a1, .int a2, .int a3, .int a4] g (fun u => u = v) := by
  refine wm_in_v (cc := c_In_become) (maxL := 5) (by decide) rfl (Nat.le_of_ble_eq_true rfl) (fun X C _ E => ?_)
  have c_51 : ∀ (s0 : Int32) (s1 : Nat) (ks1 : kd s1 = 2) (g : wm_Sg), mf_In_become_51  s0 s1 g = some v → wm_W G X 5 0 0 wm_n (wm_S G) g 51 [] [.int s0, .ref (G.B + s1)] := by
    intro s0 s1 ks1 g h
    unfold mf_In_become_51 at h
    refine pt_2_3 C ks1 (ws_in iw_2) (ws_1 mw_0_70) d_In_become_51 ?_
    exact E _ _ _ d_In_become_54 (Option.some.inj h)
  have c_34 : ∀ (b0 : Nat) (b1 : Int32) (b4 : Int32) (s0 : Int32) (s1 : Nat) (k0 : kd b0 = 2) (ks1 : kd s1 = 2) (g : wm_Sg), mf_In_become_34 b0 b1 b4 s0 s1 g = some v → wm_W G X 5 0 0 wm_n (wm_S G) g 34 [(0, .ref (G.B + b0)), (1, .int b1), (4, .int b4)] [.int s0, .ref (G.B + s1)] := by
    intro b0 b1 b4 s0 s1 k0 ks1 g h
    unfold mf_In_become_34 at h
    refine pt_2_2 C ks1 (ws_in iw_2) (ws_1 mw_0_66) d_In_become_34 ?_
    refine wm_aload_n C d_In_become_37 rfl ?_
    refine wm_iload_n C d_In_become_38 rfl ?_
    refine wk_bind h (fun v6 e6 h => wm_cSi (na := 1) C (mc_In_usesC b1 (wm_u g s1 2 s0) v6 e6) (gc_In_usesC mw_0_227) rfl (by decide +kernel) rfl (by decide) (by decide) d_In_become_39 rfl (Nat.le_of_ble_eq_true rfl) (Nat.zero_le _) (Nat.zero_le _) (fun r6 u6 q6 => ?_))
    obtain ⟨rfl, rfl⟩ := q6
    refine wk_if_eq (tgt := 50) C d_In_become_42 rfl h (fun _ h => ?_) (fun _ h => ?_)
    · refine wm_iconst (v := (0 : Int32)) C d_In_become_50 (by decide) ?_
      refine wk_cut (c_51 (0 : Int32) b0 k0 v6.2 h) ?_
      exact trivial
    · refine wm_iload C d_In_become_45 rfl ?_
      refine wm_goto (tgt := 51) C d_In_become_47 rfl ?_
      refine wk_cut (c_51 b4 b0 k0 v6.2 h) ?_
      exact trivial
  have c_18 : ∀ (b0 : Nat) (b1 : Int32) (b3 : Int32) (b4 : Int32) (s0 : Int32) (s1 : Nat) (k0 : kd b0 = 2) (ks1 : kd s1 = 2) (g : wm_Sg), mf_In_become_18 b0 b1 b3 b4 s0 s1 g = some v → wm_W G X 5 0 0 wm_n (wm_S G) g 18 [(0, .ref (G.B + b0)), (1, .int b1), (3, .int b3), (4, .int b4)] [.int s0, .ref (G.B + s1)] := by
    intro b0 b1 b3 b4 s0 s1 k0 ks1 g h
    unfold mf_In_become_18 at h
    refine pt_2_1 C ks1 (ws_in iw_2) (ws_1 mw_0_61) d_In_become_18 ?_
    refine wm_aload_n C d_In_become_21 rfl ?_
    refine wm_iload_n C d_In_become_22 rfl ?_
    refine wk_bind h (fun v7 e7 h => wm_cSi (na := 1) C (mc_In_usesB b1 (wm_u g s1 1 s0) v7 e7) (gc_In_usesB mw_0_214) rfl (by decide +kernel) rfl (by decide) (by decide) d_In_become_23 rfl (Nat.le_of_ble_eq_true rfl) (Nat.zero_le _) (Nat.zero_le _) (fun r7 u7 q7 => ?_))
    obtain ⟨rfl, rfl⟩ := q7
    refine wk_if_eq (tgt := 33) C d_In_become_26 rfl h (fun _ h => ?_) (fun _ h => ?_)
    · refine wm_iconst (v := (0 : Int32)) C d_In_become_33 (by decide) ?_
      refine wk_cut (c_34 b0 b1 b4 (0 : Int32) b0 k0 k0 v7.2 h) ?_
      exact ⟨rfl, rfl, rfl, trivial⟩
    · refine wm_iload_n C d_In_become_29 rfl ?_
      refine wm_goto (tgt := 34) C d_In_become_30 rfl ?_
      refine wk_cut (c_34 b0 b1 b4 b3 b0 k0 k0 v7.2 h) ?_
      exact ⟨rfl, rfl, rfl, trivial⟩
  unfold mf_In_become at h
  refine wm_aload_n C d_In_become_0 rfl ?_
  refine wm_iload_n C d_In_become_1 rfl ?_
  refine pt_2_0 C k0 (ws_in iw_2) (ws_1 mw_0_56) d_In_become_2 ?_
  refine wm_aload_n C d_In_become_5 rfl ?_
  refine wm_iload_n C d_In_become_6 rfl ?_
  refine wk_bind h (fun v8 e8 h => wm_cSi (na := 1) C (mc_In_usesA a1 (wm_u g a0 0 a1) v8 e8) (gc_In_usesA mw_0_208) rfl (by decide +kernel) rfl (by decide) (by decide) d_In_become_7 rfl (Nat.le_of_ble_eq_true rfl) (Nat.zero_le _) (Nat.zero_le _) (fun r8 u8 q8 => ?_))
  obtain ⟨rfl, rfl⟩ := q8
  refine wk_if_eq (tgt := 17) C d_In_become_10 rfl h (fun _ h => ?_) (fun _ h => ?_)
  · refine wm_iconst (v := (0 : Int32)) C d_In_become_17 (by decide) ?_
    refine wk_cut (c_18 a0 a1 a3 a4 (0 : Int32) a0 k0 k0 v8.2 h) ?_
    exact ⟨rfl, rfl, rfl, rfl, trivial⟩
  · refine wm_iload_n C d_In_become_13 rfl ?_
    refine wm_goto (tgt := 18) C d_In_become_14 rfl ?_
    refine wk_cut (c_18 a0 a1 a3 a4 a2 a0 k0 k0 v8.2 h) ?_
    exact ⟨rfl, rfl, rfl, rfl, trivial⟩
/-! FactFlow.add(IIII)I -/
def mf_Ff_add (a0 : Nat) (a1 : Int32) (a2 : Int32) (a3 : Int32) (a4 : Int32) (g : wm_Sg) : Option (Int32 × wm_Sg) :=
  (mf_In_isTold a1 a2 a3 a4 g).bind fun v4 => if v4.1 = (0 : Int32) then (some ((-1 : Int32), v4.2)) else (if (v4.2 (sh_r a0 0) 1) = (24 : Int32) then (some ((-2 : Int32), v4.2)) else (if (v4.2 (sh_r a0 0) 1) < 0 ∨ sh_n (sh_r (sh_r a0 0) 0) ≤ ((v4.2 (sh_r a0 0) 1)).toNatClampNeg then none else (mf_In_become (sh_r (sh_r (sh_r a0 0) 0) ((v4.2 (sh_r a0 0) 1)).toNatClampNeg) a1 a2 a3 a4 v4.2).bind fun v6 => some ((v4.2 (sh_r a0 0) 1), wm_u (wm_u v6 (sh_r a0 0) 1 ((v4.2 (sh_r a0 0) 1) + (1 : Int32))) (sh_r a0 1) 1 (0 : Int32))))
set_option maxHeartbeats 4000000 in
set_option maxRecDepth 100000 in
theorem mc_Ff_add {l : Launch} {G : wm_G} (a0 : Nat) (a1 : Int32) (a2 : Int32) (a3 : Int32) (a4 : Int32) (g : wm_Sg) (v : (Int32 × wm_Sg)) (k0 : kd a0 = 0) (h : mf_Ff_add a0 a1 a2 a3 a4 g = some v) : wm_Mi l G y_Ff_add ws_Ff_add 3 wm_n (wm_S G) [.ref (G.B + a0), .int a1, .int a2, .int a3, .int a4] g (fun r u => r = v.1 ∧ u = v.2) := by
  refine wm_in_i (cc := c_Ff_add) (maxL := 6) (by decide) rfl (Nat.le_of_ble_eq_true rfl) (fun X C _ E => ?_)
  unfold mf_Ff_add at h
  refine wm_iload_n C d_Ff_add_0 rfl ?_
  refine wm_iload_n C d_Ff_add_1 rfl ?_
  refine wm_iload_n C d_Ff_add_2 rfl ?_
  refine wm_iload C d_Ff_add_3 rfl ?_
  refine wk_bind h (fun v4 e4 h => wm_cSi (na := 4) C (mc_In_isTold a1 a2 a3 a4 g v4 e4) (gc_In_isTold mw_0_205) rfl (by decide +kernel) rfl (by decide) (by decide) d_Ff_add_5 rfl (Nat.le_of_ble_eq_true rfl) (Nat.zero_le _) (Nat.zero_le _) (fun r4 u4 q4 => ?_))
  obtain ⟨rfl, rfl⟩ := q4
  refine wk_if_ne (tgt := 13) C d_Ff_add_8 rfl h (fun _ h => ?_) (fun _ h => ?_)
  · refine wm_iconst (v := (-1 : Int32)) C d_Ff_add_11 (by decide) ?_
    exact E _ _ _ _ d_Ff_add_12 (wk_ret h)
  · refine wm_aload_n C d_Ff_add_13 rfl ?_
    refine gt_0_0 C k0 (ws_in iw_0) (ws_1 mw_0_188) d_Ff_add_14 ?_
    refine gt_1_1 C (kr_0_0 k0) (ws_in iw_1) (ws_1 mw_0_89) d_Ff_add_17 ?_
    refine wm_bipush (v := (24 : Int32)) C d_Ff_add_20 (by decide) ?_
    refine wk_icmp_ne (tgt := 28) C d_Ff_add_22 rfl h (fun _ h => ?_) (fun _ h => ?_)
    · refine wm_bipush (v := (-2 : Int32)) C d_Ff_add_25 (by decide) ?_
      exact E _ _ _ _ d_Ff_add_27 (wk_ret h)
    · refine wm_aload_n C d_Ff_add_28 rfl ?_
      refine gt_0_0 C k0 (ws_in iw_0) (ws_1 mw_0_188) d_Ff_add_29 ?_
      refine gt_1_1 C (kr_0_0 k0) (ws_in iw_1) (ws_1 mw_0_89) d_Ff_add_32 ?_
      refine wm_istore C d_Ff_add_35 (by decide) ?_
      refine wm_aload_n C d_Ff_add_37 rfl ?_
      refine gt_0_0 C k0 (ws_in iw_0) (ws_1 mw_0_188) d_Ff_add_38 ?_
      refine gt_1_0 C (kr_0_0 k0) (ws_in iw_1) (ws_1 mw_0_86) d_Ff_add_41 ?_
      refine wm_iload C d_Ff_add_44 rfl ?_
      refine wk_no h (fun w5 h => ?_)
      refine wk_aald_22 C (kr_1_0 (kr_0_0 k0)) w5 d_Ff_add_46 ?_
      refine wm_iload_n C d_Ff_add_47 rfl ?_
      refine wm_iload_n C d_Ff_add_48 rfl ?_
      refine wm_iload_n C d_Ff_add_49 rfl ?_
      refine wm_iload C d_Ff_add_50 rfl ?_
      refine wk_bind h (fun v6 e6 h => wm_cVv (ci := 2) (q := (Rn_2, Tn_2, 4)) (na := 4) C (mc_In_become (sh_r (sh_r (sh_r a0 0) 0) ((v4.2 (sh_r a0 0) 1)).toNatClampNeg) a1 a2 a3 a4 v4.2 v6 (kr_22 (kr_1_0 (kr_0_0 k0)) w5) e6) (gc_In_become mw_0_223) (kd_lt (by rw [(kr_22 (kr_1_0 (kr_0_0 k0)) w5)]; decide)) rfl ⟨_, wm_S_2 (kr_22 (kr_1_0 (kr_0_0 k0)) w5) _⟩ rfl rfl (by decide +kernel) rfl (by decide) (by decide) d_Ff_add_52 rfl (Nat.le_of_ble_eq_true rfl) (Nat.zero_le _) (Nat.zero_le _) (fun u6 q6 => ?_))
      subst u6
      refine wm_aload_n C d_Ff_add_55 rfl ?_
      refine gt_0_0 C k0 (ws_in iw_0) (ws_1 mw_0_188) d_Ff_add_56 ?_
      refine wm_iload C d_Ff_add_59 rfl ?_
      refine wm_iconst (v := (1 : Int32)) C d_Ff_add_61 (by decide) ?_
      refine wm_iadd C d_Ff_add_62 ?_
      refine pt_1_1 C (kr_0_0 k0) (ws_in iw_1) (ws_1 mw_0_89) d_Ff_add_63 ?_
      refine wm_aload_n C d_Ff_add_66 rfl ?_
      refine gt_0_1 C k0 (ws_in iw_0) (ws_1 mw_0_189) d_Ff_add_67 ?_
      refine wm_iconst (v := (0 : Int32)) C d_Ff_add_70 (by decide) ?_
      refine pt_5_1 C (kr_0_1 k0) (Or.inl rfl) (ws_in iw_5) (ws_1 mw_0_131) d_Ff_add_71 ?_
      refine wm_iload C d_Ff_add_74 rfl ?_
      exact E _ _ _ _ d_Ff_add_76 (wk_ret h)
/-! FactFlow$Program.has(I)Z -/
def mf_Pr_has_17 (s0 : Int32) (g : wm_Sg) : Option (Int32 × wm_Sg) :=
  if s0 = 0 ∨ s0 = 1 then some (s0, g) else none
def mf_Pr_has_16  (g : wm_Sg) : Option (Int32 × wm_Sg) :=
  mf_Pr_has_17 (0 : Int32) g
def mf_Pr_has (a0 : Nat) (a1 : Int32) (g : wm_Sg) : Option (Int32 × wm_Sg) :=
  if a1 < (0 : Int32) then (mf_Pr_has_16 g) else (if (g a0 1) ≤ a1 then (mf_Pr_has_16 g) else (mf_Pr_has_17 (1 : Int32) g))
set_option maxHeartbeats 4000000 in
set_option maxRecDepth 100000 in
theorem mc_Pr_has {l : Launch} {G : wm_G} (a0 : Nat) (a1 : Int32) (g : wm_Sg) (v : (Int32 × wm_Sg)) (k0 : kd a0 = 1) (h : mf_Pr_has a0 a1 g = some v) : wm_Mi l G y_Pr_has ws_Pr_has 0 wm_n (wm_S G) [.ref (G.B + a0), .int a1] g (fun r u => r = v.1 ∧ u = v.2) := by
  refine wm_in_z (cc := c_Pr_has) (maxL := 2) (by decide) rfl (Nat.le_of_ble_eq_true rfl) (fun X C _ E => ?_)
  have c_17 : ∀ (s0 : Int32) (g : wm_Sg), mf_Pr_has_17  s0 g = some v → wm_W G X 2 0 0 wm_n (wm_S G) g 17 [] [.int s0] := by
    intro s0 g h
    unfold mf_Pr_has_17 at h
    exact wk_yes h (fun q h => E _ _ _ _ d_Pr_has_17 (wk_nar q) (wk_ret h))
  have c_16 : ∀ (g : wm_Sg), mf_Pr_has_16  g = some v → wm_W G X 2 0 0 wm_n (wm_S G) g 16 [] [] := by
    intro g h
    unfold mf_Pr_has_16 at h
    refine wm_iconst (v := (0 : Int32)) C d_Pr_has_16 (by decide) ?_
    refine wk_cut (c_17 (0 : Int32) g h) ?_
    exact trivial
  unfold mf_Pr_has at h
  refine wm_iload_n C d_Pr_has_0 rfl ?_
  refine wk_if_lt (tgt := 16) C d_Pr_has_1 rfl h (fun _ h => ?_) (fun _ h => ?_)
  · refine wk_cut (c_16 g h) ?_
    exact trivial
  · refine wm_iload_n C d_Pr_has_4 rfl ?_
    refine wm_aload_n C d_Pr_has_5 rfl ?_
    refine gt_1_1 C k0 (ws_in iw_1) (ws_1 mw_0_88) d_Pr_has_6 ?_
    refine wk_icmp_ge (tgt := 16) C d_Pr_has_9 rfl h (fun _ h => ?_) (fun _ h => ?_)
    · refine wk_cut (c_16 g h) ?_
      exact trivial
    · refine wm_iconst (v := (1 : Int32)) C d_Pr_has_12 (by decide) ?_
      refine wm_goto (tgt := 17) C d_Pr_has_13 rfl ?_
      refine wk_cut (c_17 (1 : Int32) g h) ?_
      exact trivial
/-! FactFlow.put(IIIII)Z -/
def mf_Ff_put_23  (g : wm_Sg) : Option (Int32 × wm_Sg) :=
  some ((0 : Int32), g)
def mf_Ff_put (a0 : Nat) (a1 : Int32) (a2 : Int32) (a3 : Int32) (a4 : Int32) (a5 : Int32) (g : wm_Sg) : Option (Int32 × wm_Sg) :=
  (mf_Pr_has (sh_r a0 0) a1 g).bind fun v5 => if v5.1 = (0 : Int32) then (mf_Ff_put_23 v5.2) else ((mf_In_isTold a2 a3 a4 a5 v5.2).bind fun v6 => if v6.1 = (0 : Int32) then (mf_Ff_put_23 v6.2) else (if a1 < 0 ∨ sh_n (sh_r (sh_r a0 0) 0) ≤ (a1).toNatClampNeg then none else (mf_In_become (sh_r (sh_r (sh_r a0 0) 0) (a1).toNatClampNeg) a2 a3 a4 a5 v6.2).bind fun v8 => some ((1 : Int32), wm_u v8 (sh_r a0 1) 1 (0 : Int32))))
set_option maxHeartbeats 4000000 in
set_option maxRecDepth 100000 in
theorem mc_Ff_put {l : Launch} {G : wm_G} (a0 : Nat) (a1 : Int32) (a2 : Int32) (a3 : Int32) (a4 : Int32) (a5 : Int32) (g : wm_Sg) (v : (Int32 × wm_Sg)) (k0 : kd a0 = 0) (h : mf_Ff_put a0 a1 a2 a3 a4 a5 g = some v) : wm_Mi l G y_Ff_put ws_Ff_put 3 wm_n (wm_S G) [.ref (G.B + a0), .int a1, .int a2, .int a3, .int a4, .int a5] g (fun r u => r = v.1 ∧ u = v.2) := by
  refine wm_in_z (cc := c_Ff_put) (maxL := 6) (by decide) rfl (Nat.le_of_ble_eq_true rfl) (fun X C _ E => ?_)
  have c_23 : ∀ (g : wm_Sg), mf_Ff_put_23  g = some v → wm_W G X 6 0 0 wm_n (wm_S G) g 23 [] [] := by
    intro g h
    unfold mf_Ff_put_23 at h
    refine wm_iconst (v := (0 : Int32)) C d_Ff_put_23 (by decide) ?_
    exact E _ _ _ _ d_Ff_put_24 rfl (wk_ret h)
  unfold mf_Ff_put at h
  refine wm_aload_n C d_Ff_put_0 rfl ?_
  refine gt_0_0 C k0 (ws_in iw_0) (ws_1 mw_0_188) d_Ff_put_1 ?_
  refine wm_iload_n C d_Ff_put_4 rfl ?_
  refine wk_bind h (fun v5 e5 h => wm_cVi (ci := 1) (q := (Rn_1, Tn_1, 3)) (na := 1) C (mc_Pr_has (sh_r a0 0) a1 g v5 (kr_0_0 k0) e5) (gc_Pr_has mw_0_234) (kd_lt (by rw [(kr_0_0 k0)]; decide)) rfl ⟨_, wm_S_1 (kr_0_0 k0) _⟩ rfl rfl (by decide +kernel) rfl (by decide) (by decide) d_Ff_put_5 rfl (Nat.le_of_ble_eq_true rfl) (Nat.zero_le _) (Nat.zero_le _) (fun r5 u5 q5 => ?_))
  obtain ⟨rfl, rfl⟩ := q5
  refine wk_if_eq (tgt := 23) C d_Ff_put_8 rfl h (fun _ h => ?_) (fun _ h => ?_)
  · refine wk_cut (c_23 v5.2 h) ?_
    exact trivial
  · refine wm_iload_n C d_Ff_put_11 rfl ?_
    refine wm_iload_n C d_Ff_put_12 rfl ?_
    refine wm_iload C d_Ff_put_13 rfl ?_
    refine wm_iload C d_Ff_put_15 rfl ?_
    refine wk_bind h (fun v6 e6 h => wm_cSi (na := 4) C (mc_In_isTold a2 a3 a4 a5 v5.2 v6 e6) (gc_In_isTold mw_0_205) rfl (by decide +kernel) rfl (by decide) (by decide) d_Ff_put_17 rfl (Nat.le_of_ble_eq_true rfl) (Nat.zero_le _) (Nat.zero_le _) (fun r6 u6 q6 => ?_))
    obtain ⟨rfl, rfl⟩ := q6
    refine wk_if_ne (tgt := 25) C d_Ff_put_20 rfl h (fun _ h => ?_) (fun _ h => ?_)
    · refine wk_cut (c_23 v6.2 h) ?_
      exact trivial
    · refine wm_aload_n C d_Ff_put_25 rfl ?_
      refine gt_0_0 C k0 (ws_in iw_0) (ws_1 mw_0_188) d_Ff_put_26 ?_
      refine gt_1_0 C (kr_0_0 k0) (ws_in iw_1) (ws_1 mw_0_86) d_Ff_put_29 ?_
      refine wm_iload_n C d_Ff_put_32 rfl ?_
      refine wk_no h (fun w7 h => ?_)
      refine wk_aald_22 C (kr_1_0 (kr_0_0 k0)) w7 d_Ff_put_33 ?_
      refine wm_iload_n C d_Ff_put_34 rfl ?_
      refine wm_iload_n C d_Ff_put_35 rfl ?_
      refine wm_iload C d_Ff_put_36 rfl ?_
      refine wm_iload C d_Ff_put_38 rfl ?_
      refine wk_bind h (fun v8 e8 h => wm_cVv (ci := 2) (q := (Rn_2, Tn_2, 4)) (na := 4) C (mc_In_become (sh_r (sh_r (sh_r a0 0) 0) (a1).toNatClampNeg) a2 a3 a4 a5 v6.2 v8 (kr_22 (kr_1_0 (kr_0_0 k0)) w7) e8) (gc_In_become mw_0_223) (kd_lt (by rw [(kr_22 (kr_1_0 (kr_0_0 k0)) w7)]; decide)) rfl ⟨_, wm_S_2 (kr_22 (kr_1_0 (kr_0_0 k0)) w7) _⟩ rfl rfl (by decide +kernel) rfl (by decide) (by decide) d_Ff_put_40 rfl (Nat.le_of_ble_eq_true rfl) (Nat.zero_le _) (Nat.zero_le _) (fun u8 q8 => ?_))
      subst u8
      refine wm_aload_n C d_Ff_put_43 rfl ?_
      refine gt_0_1 C k0 (ws_in iw_0) (ws_1 mw_0_189) d_Ff_put_44 ?_
      refine wm_iconst (v := (0 : Int32)) C d_Ff_put_47 (by decide) ?_
      refine pt_5_1 C (kr_0_1 k0) (Or.inl rfl) (ws_in iw_5) (ws_1 mw_0_131) d_Ff_put_48 ?_
      refine wm_iconst (v := (1 : Int32)) C d_Ff_put_51 (by decide) ?_
      exact E _ _ _ _ d_Ff_put_52 rfl (wk_ret h)
/-! FactFlow.clear()V -/
def mf_Ff_clear (a0 : Nat) (g : wm_Sg) : Option wm_Sg :=
  some (wm_u (wm_u g (sh_r a0 0) 1 (0 : Int32)) (sh_r a0 1) 1 (0 : Int32))
set_option maxHeartbeats 4000000 in
set_option maxRecDepth 100000 in
theorem mc_Ff_clear {l : Launch} {G : wm_G} (a0 : Nat) (g : wm_Sg) (v : wm_Sg) (k0 : kd a0 = 0) (h : mf_Ff_clear a0 g = some v) : wm_Mv l G y_Ff_clear ws_Ff_clear 0 wm_n (wm_S G) [.ref (G.B + a0)] g (fun u => u = v) := by
  refine wm_in_v (cc := c_Ff_clear) (maxL := 1) (by decide) rfl (Nat.le_of_ble_eq_true rfl) (fun X C _ E => ?_)
  unfold mf_Ff_clear at h
  refine wm_aload_n C d_Ff_clear_0 rfl ?_
  refine gt_0_0 C k0 (ws_in iw_0) (ws_1 mw_0_188) d_Ff_clear_1 ?_
  refine wm_iconst (v := (0 : Int32)) C d_Ff_clear_4 (by decide) ?_
  refine pt_1_1 C (kr_0_0 k0) (ws_in iw_1) (ws_1 mw_0_89) d_Ff_clear_5 ?_
  refine wm_aload_n C d_Ff_clear_8 rfl ?_
  refine gt_0_1 C k0 (ws_in iw_0) (ws_1 mw_0_189) d_Ff_clear_9 ?_
  refine wm_iconst (v := (0 : Int32)) C d_Ff_clear_12 (by decide) ?_
  refine pt_5_1 C (kr_0_1 k0) (Or.inl rfl) (ws_in iw_5) (ws_1 mw_0_131) d_Ff_clear_13 ?_
  exact E _ _ _ d_Ff_clear_16 (Option.some.inj h)
/-! FactFlow.length()I -/
def mf_Ff_length (a0 : Nat) (g : wm_Sg) : Option (Int32 × wm_Sg) :=
  some ((g (sh_r a0 0) 1), g)
set_option maxHeartbeats 4000000 in
set_option maxRecDepth 100000 in
theorem mc_Ff_length {l : Launch} {G : wm_G} (a0 : Nat) (g : wm_Sg) (v : (Int32 × wm_Sg)) (k0 : kd a0 = 0) (h : mf_Ff_length a0 g = some v) : wm_Mi l G y_Ff_length ws_Ff_length 0 wm_n (wm_S G) [.ref (G.B + a0)] g (fun r u => r = v.1 ∧ u = v.2) := by
  refine wm_in_i (cc := c_Ff_length) (maxL := 1) (by decide) rfl (Nat.le_of_ble_eq_true rfl) (fun X C _ E => ?_)
  unfold mf_Ff_length at h
  refine wm_aload_n C d_Ff_length_0 rfl ?_
  refine gt_0_0 C k0 (ws_in iw_0) (ws_1 mw_0_188) d_Ff_length_1 ?_
  refine gt_1_1 C (kr_0_0 k0) (ws_in iw_1) (ws_1 mw_0_89) d_Ff_length_4 ?_
  exact E _ _ _ _ d_Ff_length_7 (wk_ret h)
/-! FactFlow$Instruction.partOf(I)I -/
def mf_In_partOf (a0 : Nat) (a1 : Int32) (g : wm_Sg) : Option (Int32 × wm_Sg) :=
  if a1 = (0 : Int32) then (some ((g a0 0), g)) else if a1 = (1 : Int32) then (some ((g a0 1), g)) else if a1 = (2 : Int32) then (some ((g a0 2), g)) else if a1 = (3 : Int32) then (some ((g a0 3), g)) else (some ((-1 : Int32), g))
set_option maxHeartbeats 4000000 in
set_option maxRecDepth 100000 in
theorem mc_In_partOf {l : Launch} {G : wm_G} (a0 : Nat) (a1 : Int32) (g : wm_Sg) (v : (Int32 × wm_Sg)) (k0 : kd a0 = 2) (h : mf_In_partOf a0 a1 g = some v) : wm_Mi l G y_In_partOf ws_In_partOf 0 wm_n (wm_S G) [.ref (G.B + a0), .int a1] g (fun r u => r = v.1 ∧ u = v.2) := by
  refine wm_in_i (cc := c_In_partOf) (maxL := 2) (by decide) rfl (Nat.le_of_ble_eq_true rfl) (fun X C _ E => ?_)
  unfold mf_In_partOf at h
  refine wm_iload_n C d_In_partOf_0 rfl ?_
  refine wk_ite h (fun w5 h => ?_) (fun w5 h => ?_)
  · refine wk_tableEq (tgt := 32) C d_In_partOf_1 w5 (by decide) (by decide) rfl rfl ?_
    refine wm_aload_n C d_In_partOf_32 rfl ?_
    refine gt_2_0 C k0 (ws_in iw_2) (ws_1 mw_0_56) d_In_partOf_33 ?_
    exact E _ _ _ _ d_In_partOf_36 (wk_ret h)
  · refine wk_ite h (fun w6 h => ?_) (fun w6 h => ?_)
    · refine wk_tableEq (tgt := 37) C d_In_partOf_1 w6 (by decide) (by decide) rfl rfl ?_
      refine wm_aload_n C d_In_partOf_37 rfl ?_
      refine gt_2_1 C k0 (ws_in iw_2) (ws_1 mw_0_61) d_In_partOf_38 ?_
      exact E _ _ _ _ d_In_partOf_41 (wk_ret h)
    · refine wk_ite h (fun w7 h => ?_) (fun w7 h => ?_)
      · refine wk_tableEq (tgt := 42) C d_In_partOf_1 w7 (by decide) (by decide) rfl rfl ?_
        refine wm_aload_n C d_In_partOf_42 rfl ?_
        refine gt_2_2 C k0 (ws_in iw_2) (ws_1 mw_0_66) d_In_partOf_43 ?_
        exact E _ _ _ _ d_In_partOf_46 (wk_ret h)
      · refine wk_ite h (fun w8 h => ?_) (fun w8 h => ?_)
        · refine wk_tableEq (tgt := 47) C d_In_partOf_1 w8 (by decide) (by decide) rfl rfl ?_
          refine wm_aload_n C d_In_partOf_47 rfl ?_
          refine gt_2_3 C k0 (ws_in iw_2) (ws_1 mw_0_70) d_In_partOf_48 ?_
          exact E _ _ _ _ d_In_partOf_51 (wk_ret h)
        · have w5 := wk_nt (z := 0) w5 (by decide)
          have w6 := wk_nt (z := 1) w6 (by decide)
          have w7 := wk_nt (z := 2) w7 (by decide)
          have w8 := wk_nt (z := 3) w8 (by decide)
          refine wm_tableOut (tgt := 52) C d_In_partOf_1 (by omega) rfl ?_
          refine wm_iconst (v := (-1 : Int32)) C d_In_partOf_52 (by decide) ?_
          exact E _ _ _ _ d_In_partOf_53 (wk_ret h)
/-! FactFlow.code(II)I -/
def mf_Ff_code_28 (s0 : Int32) (g : wm_Sg) : Option (Int32 × wm_Sg) :=
  some (s0, g)
def mf_Ff_code (a0 : Nat) (a1 : Int32) (a2 : Int32) (g : wm_Sg) : Option (Int32 × wm_Sg) :=
  (mf_Pr_has (sh_r a0 0) a1 g).bind fun v4 => if v4.1 = (0 : Int32) then (mf_Ff_code_28 (-1 : Int32) v4.2) else (if a1 < 0 ∨ sh_n (sh_r (sh_r a0 0) 0) ≤ (a1).toNatClampNeg then none else (mf_In_partOf (sh_r (sh_r (sh_r a0 0) 0) (a1).toNatClampNeg) a2 v4.2).bind fun v6 => mf_Ff_code_28 v6.1 v6.2)
set_option maxHeartbeats 4000000 in
set_option maxRecDepth 100000 in
theorem mc_Ff_code {l : Launch} {G : wm_G} (a0 : Nat) (a1 : Int32) (a2 : Int32) (g : wm_Sg) (v : (Int32 × wm_Sg)) (k0 : kd a0 = 0) (h : mf_Ff_code a0 a1 a2 g = some v) : wm_Mi l G y_Ff_code ws_Ff_code 1 wm_n (wm_S G) [.ref (G.B + a0), .int a1, .int a2] g (fun r u => r = v.1 ∧ u = v.2) := by
  refine wm_in_i (cc := c_Ff_code) (maxL := 3) (by decide) rfl (Nat.le_of_ble_eq_true rfl) (fun X C _ E => ?_)
  have c_28 : ∀ (s0 : Int32) (g : wm_Sg), mf_Ff_code_28  s0 g = some v → wm_W G X 3 0 0 wm_n (wm_S G) g 28 [] [.int s0] := by
    intro s0 g h
    unfold mf_Ff_code_28 at h
    exact E _ _ _ _ d_Ff_code_28 (wk_ret h)
  unfold mf_Ff_code at h
  refine wm_aload_n C d_Ff_code_0 rfl ?_
  refine gt_0_0 C k0 (ws_in iw_0) (ws_1 mw_0_188) d_Ff_code_1 ?_
  refine wm_iload_n C d_Ff_code_4 rfl ?_
  refine wk_bind h (fun v4 e4 h => wm_cVi (ci := 1) (q := (Rn_1, Tn_1, 3)) (na := 1) C (mc_Pr_has (sh_r a0 0) a1 g v4 (kr_0_0 k0) e4) (gc_Pr_has mw_0_234) (kd_lt (by rw [(kr_0_0 k0)]; decide)) rfl ⟨_, wm_S_1 (kr_0_0 k0) _⟩ rfl rfl (by decide +kernel) rfl (by decide) (by decide) d_Ff_code_5 rfl (Nat.le_of_ble_eq_true rfl) (Nat.zero_le _) (Nat.zero_le _) (fun r4 u4 q4 => ?_))
  obtain ⟨rfl, rfl⟩ := q4
  refine wk_if_eq (tgt := 27) C d_Ff_code_8 rfl h (fun _ h => ?_) (fun _ h => ?_)
  · refine wm_iconst (v := (-1 : Int32)) C d_Ff_code_27 (by decide) ?_
    refine wk_cut (c_28 (-1 : Int32) v4.2 h) ?_
    exact trivial
  · refine wm_aload_n C d_Ff_code_11 rfl ?_
    refine gt_0_0 C k0 (ws_in iw_0) (ws_1 mw_0_188) d_Ff_code_12 ?_
    refine gt_1_0 C (kr_0_0 k0) (ws_in iw_1) (ws_1 mw_0_86) d_Ff_code_15 ?_
    refine wm_iload_n C d_Ff_code_18 rfl ?_
    refine wk_no h (fun w5 h => ?_)
    refine wk_aald_22 C (kr_1_0 (kr_0_0 k0)) w5 d_Ff_code_19 ?_
    refine wm_iload_n C d_Ff_code_20 rfl ?_
    refine wk_bind h (fun v6 e6 h => wm_cVi (ci := 2) (q := (Rn_2, Tn_2, 4)) (na := 1) C (mc_In_partOf (sh_r (sh_r (sh_r a0 0) 0) (a1).toNatClampNeg) a2 v4.2 v6 (kr_22 (kr_1_0 (kr_0_0 k0)) w5) e6) (gc_In_partOf mw_1_10) (kd_lt (by rw [(kr_22 (kr_1_0 (kr_0_0 k0)) w5)]; decide)) rfl ⟨_, wm_S_2 (kr_22 (kr_1_0 (kr_0_0 k0)) w5) _⟩ rfl rfl (by decide +kernel) rfl (by decide) (by decide) d_Ff_code_21 rfl (Nat.le_of_ble_eq_true rfl) (Nat.zero_le _) (Nat.zero_le _) (fun r6 u6 q6 => ?_))
    obtain ⟨rfl, rfl⟩ := q6
    refine wm_goto (tgt := 28) C d_Ff_code_24 rfl ?_
    refine wk_cut (c_28 v6.1 v6.2 h) ?_
    exact trivial
/-! FactFlow$Fact.reduce()V -/
def mf_Fa_reduce_81  (g : wm_Sg) : Option wm_Sg :=
  some (g)
def mf_Fa_reduce_62 (b0 : Nat) (g : wm_Sg) : Option wm_Sg :=
  if (g b0 2) = (2 : Int32) then (mf_Fa_reduce_81 (wm_u (wm_u g b0 0 (32 : Int32)) b0 1 (0 : Int32))) else (mf_Fa_reduce_81 g)
def mf_Fa_reduce_37 (b0 : Nat) (s0 : Int32) (s1 : Int32) (s2 : Nat) (g : wm_Sg) : Option wm_Sg :=
  mf_Fa_reduce_62 b0 (wm_u g s2 2 (s1 &&& s0))
def mf_Fa_reduce (a0 : Nat) (g : wm_Sg) : Option wm_Sg :=
  if (g a0 0) = (32 : Int32) then (if (0 : Int32) ≤ (g a0 1) then (if (g a0 1) = (0 : Int32) then (mf_Fa_reduce_37 a0 (2 : Int32) (g a0 2) a0 g) else (mf_Fa_reduce_37 a0 (4 : Int32) (g a0 2) a0 g)) else (mf_Fa_reduce_37 a0 (1 : Int32) (g a0 2) a0 g)) else (if (g a0 1) = (0 : Int32) then (mf_Fa_reduce_62 a0 g) else (mf_Fa_reduce_62 a0 (wm_u g a0 2 ((g a0 2) &&& (-3 : Int32)))))
set_option maxHeartbeats 4000000 in
set_option maxRecDepth 100000 in
theorem mc_Fa_reduce {l : Launch} {G : wm_G} (a0 : Nat) (g : wm_Sg) (v : wm_Sg) (k0 : kd a0 = 3) (h : mf_Fa_reduce a0 g = some v) : wm_Mv l G y_Fa_reduce ws_Fa_reduce 0 wm_n (wm_S G) [.ref (G.B + a0)] g (fun u => u = v) := by
  refine wm_in_v (cc := c_Fa_reduce) (maxL := 1) (by decide) rfl (Nat.le_of_ble_eq_true rfl) (fun X C _ E => ?_)
  have c_81 : ∀ (g : wm_Sg), mf_Fa_reduce_81  g = some v → wm_W G X 1 0 0 wm_n (wm_S G) g 81 [] [] := by
    intro g h
    unfold mf_Fa_reduce_81 at h
    exact E _ _ _ d_Fa_reduce_81 (Option.some.inj h)
  have c_62 : ∀ (b0 : Nat) (k0 : kd b0 = 3) (g : wm_Sg), mf_Fa_reduce_62 b0 g = some v → wm_W G X 1 0 0 wm_n (wm_S G) g 62 [(0, .ref (G.B + b0))] [] := by
    intro b0 k0 g h
    unfold mf_Fa_reduce_62 at h
    refine wm_aload_n C d_Fa_reduce_62 rfl ?_
    refine gt_3_2 C k0 (ws_in iw_3) (ws_1 mw_0_40) d_Fa_reduce_63 ?_
    refine wm_iconst (v := (2 : Int32)) C d_Fa_reduce_66 (by decide) ?_
    refine wk_icmp_ne (tgt := 81) C d_Fa_reduce_67 rfl h (fun _ h => ?_) (fun _ h => ?_)
    · refine wm_aload_n C d_Fa_reduce_70 rfl ?_
      refine wm_bipush (v := (32 : Int32)) C d_Fa_reduce_71 (by decide) ?_
      refine pt_3_0 C k0 (ws_in iw_3) (ws_1 mw_0_34) d_Fa_reduce_73 ?_
      refine wm_aload_n C d_Fa_reduce_76 rfl ?_
      refine wm_iconst (v := (0 : Int32)) C d_Fa_reduce_77 (by decide) ?_
      refine pt_3_1 C k0 (ws_in iw_3) (ws_1 mw_0_37) d_Fa_reduce_78 ?_
      refine wk_cut (c_81 (wm_u (wm_u g b0 0 (32 : Int32)) b0 1 (0 : Int32)) h) ?_
      exact trivial
    · refine wk_cut (c_81 g h) ?_
      exact trivial
  have c_37 : ∀ (b0 : Nat) (s0 : Int32) (s1 : Int32) (s2 : Nat) (k0 : kd b0 = 3) (ks2 : kd s2 = 3) (g : wm_Sg), mf_Fa_reduce_37 b0 s0 s1 s2 g = some v → wm_W G X 1 0 0 wm_n (wm_S G) g 37 [(0, .ref (G.B + b0))] [.int s0, .int s1, .ref (G.B + s2)] := by
    intro b0 s0 s1 s2 k0 ks2 g h
    unfold mf_Fa_reduce_37 at h
    refine wm_iand C d_Fa_reduce_37 ?_
    refine pt_3_2 C ks2 (ws_in iw_3) (ws_1 mw_0_40) d_Fa_reduce_38 ?_
    refine wm_goto (tgt := 62) C d_Fa_reduce_41 rfl ?_
    refine wk_cut (c_62 b0 k0 (wm_u g s2 2 (s1 &&& s0)) h) ?_
    exact ⟨rfl, trivial⟩
  unfold mf_Fa_reduce at h
  refine wm_aload_n C d_Fa_reduce_0 rfl ?_
  refine gt_3_0 C k0 (ws_in iw_3) (ws_1 mw_0_34) d_Fa_reduce_1 ?_
  refine wm_bipush (v := (32 : Int32)) C d_Fa_reduce_4 (by decide) ?_
  refine wk_icmp_ne (tgt := 44) C d_Fa_reduce_6 rfl h (fun _ h => ?_) (fun _ h => ?_)
  · refine wm_aload_n C d_Fa_reduce_9 rfl ?_
    refine wm_dup C d_Fa_reduce_10 rfl ?_
    refine gt_3_2 C k0 (ws_in iw_3) (ws_1 mw_0_40) d_Fa_reduce_11 ?_
    refine wm_aload_n C d_Fa_reduce_14 rfl ?_
    refine gt_3_1 C k0 (ws_in iw_3) (ws_1 mw_0_37) d_Fa_reduce_15 ?_
    refine wk_if_ge (tgt := 25) C d_Fa_reduce_18 rfl h (fun _ h => ?_) (fun _ h => ?_)
    · refine wm_aload_n C d_Fa_reduce_25 rfl ?_
      refine gt_3_1 C k0 (ws_in iw_3) (ws_1 mw_0_37) d_Fa_reduce_26 ?_
      refine wk_if_ne (tgt := 36) C d_Fa_reduce_29 rfl h (fun _ h => ?_) (fun _ h => ?_)
      · refine wm_iconst (v := (2 : Int32)) C d_Fa_reduce_32 (by decide) ?_
        refine wm_goto (tgt := 37) C d_Fa_reduce_33 rfl ?_
        refine wk_cut (c_37 a0 (2 : Int32) (g a0 2) a0 k0 k0 g h) ?_
        exact ⟨rfl, trivial⟩
      · refine wm_iconst (v := (4 : Int32)) C d_Fa_reduce_36 (by decide) ?_
        refine wk_cut (c_37 a0 (4 : Int32) (g a0 2) a0 k0 k0 g h) ?_
        exact ⟨rfl, trivial⟩
    · refine wm_iconst (v := (1 : Int32)) C d_Fa_reduce_21 (by decide) ?_
      refine wm_goto (tgt := 37) C d_Fa_reduce_22 rfl ?_
      refine wk_cut (c_37 a0 (1 : Int32) (g a0 2) a0 k0 k0 g h) ?_
      exact ⟨rfl, trivial⟩
  · refine wm_aload_n C d_Fa_reduce_44 rfl ?_
    refine gt_3_1 C k0 (ws_in iw_3) (ws_1 mw_0_37) d_Fa_reduce_45 ?_
    refine wk_if_eq (tgt := 62) C d_Fa_reduce_48 rfl h (fun _ h => ?_) (fun _ h => ?_)
    · refine wk_cut (c_62 a0 k0 g h) ?_
      exact ⟨rfl, trivial⟩
    · refine wm_aload_n C d_Fa_reduce_51 rfl ?_
      refine wm_dup C d_Fa_reduce_52 rfl ?_
      refine gt_3_2 C k0 (ws_in iw_3) (ws_1 mw_0_40) d_Fa_reduce_53 ?_
      refine wm_bipush (v := (-3 : Int32)) C d_Fa_reduce_56 (by decide) ?_
      refine wm_iand C d_Fa_reduce_58 ?_
      refine pt_3_2 C k0 (ws_in iw_3) (ws_1 mw_0_40) d_Fa_reduce_59 ?_
      refine wk_cut (c_62 a0 k0 (wm_u g a0 2 ((g a0 2) &&& (-3 : Int32))) h) ?_
      exact ⟨rfl, trivial⟩
/-! FactFlow$Fact.becomeNumber(I)V -/
def mf_Fa_becomeNumber (a0 : Nat) (a1 : Int32) (g : wm_Sg) : Option wm_Sg :=
  (mf_Fa_reduce a0 (wm_u (wm_u (wm_u g a0 0 (32 : Int32)) a0 1 a1) a0 2 (7 : Int32))).bind fun v2 => some (v2)
set_option maxHeartbeats 4000000 in
set_option maxRecDepth 100000 in
theorem mc_Fa_becomeNumber {l : Launch} {G : wm_G} (a0 : Nat) (a1 : Int32) (g : wm_Sg) (v : wm_Sg) (k0 : kd a0 = 3) (h : mf_Fa_becomeNumber a0 a1 g = some v) : wm_Mv l G y_Fa_becomeNumber ws_Fa_becomeNumber 1 wm_n (wm_S G) [.ref (G.B + a0), .int a1] g (fun u => u = v) := by
  refine wm_in_v (cc := c_Fa_becomeNumber) (maxL := 2) (by decide) rfl (Nat.le_of_ble_eq_true rfl) (fun X C _ E => ?_)
  unfold mf_Fa_becomeNumber at h
  refine wm_aload_n C d_Fa_becomeNumber_0 rfl ?_
  refine wm_bipush (v := (32 : Int32)) C d_Fa_becomeNumber_1 (by decide) ?_
  refine pt_3_0 C k0 (ws_in iw_3) (ws_1 mw_0_34) d_Fa_becomeNumber_3 ?_
  refine wm_aload_n C d_Fa_becomeNumber_6 rfl ?_
  refine wm_iload_n C d_Fa_becomeNumber_7 rfl ?_
  refine pt_3_1 C k0 (ws_in iw_3) (ws_1 mw_0_37) d_Fa_becomeNumber_8 ?_
  refine wm_aload_n C d_Fa_becomeNumber_11 rfl ?_
  refine wm_bipush (v := (7 : Int32)) C d_Fa_becomeNumber_12 (by decide) ?_
  refine pt_3_2 C k0 (ws_in iw_3) (ws_1 mw_0_40) d_Fa_becomeNumber_14 ?_
  refine wm_aload_n C d_Fa_becomeNumber_17 rfl ?_
  refine wk_bind h (fun v2 e2 h => wm_cVv (ci := 3) (q := (Rn_3, Tn_3, 3)) (na := 0) C (mc_Fa_reduce a0 (wm_u (wm_u (wm_u g a0 0 (32 : Int32)) a0 1 a1) a0 2 (7 : Int32)) v2 k0 e2) (gc_Fa_reduce mw_1_34) (kd_lt (by rw [k0]; decide)) rfl ⟨_, wm_S_3 k0 _⟩ rfl rfl (by decide +kernel) rfl (by decide) (by decide) d_Fa_becomeNumber_18 rfl (Nat.le_of_ble_eq_true rfl) (Nat.zero_le _) (Nat.zero_le _) (fun u2 q2 => ?_))
  subst u2
  exact E _ _ _ d_Fa_becomeNumber_21 (Option.some.inj h)
/-! FactFlow$State.becomeZeros()V -/
def mf_St_becomeZeros_7 (b0 : Nat) (K7 : Int32 × wm_Sg → Option wm_Sg) (a : Int32 × wm_Sg) : Option wm_Sg :=
  if (4 : Int32) ≤ a.1 then (some (a.2)) else (if a.1 < 0 ∨ sh_n (sh_r b0 0) ≤ (a.1).toNatClampNeg then none else (mf_Fa_becomeNumber (sh_r (sh_r b0 0) (a.1).toNatClampNeg) (0 : Int32) a.2).bind fun v6 => K7 ((a.1 + (1 : Int32)), v6))
def mf_St_becomeZeros (a0 : Nat) (g : wm_Sg) : Option wm_Sg :=
  lp_it (mf_St_becomeZeros_7 a0) 2100 ((0 : Int32), wm_u g a0 1 (0 : Int32))
set_option maxHeartbeats 4000000 in
set_option maxRecDepth 100000 in
theorem mc_St_becomeZeros {l : Launch} {G : wm_G} (a0 : Nat) (g : wm_Sg) (v : wm_Sg) (k0 : kd a0 = 4) (h : mf_St_becomeZeros a0 g = some v) : wm_Mv l G y_St_becomeZeros ws_St_becomeZeros 2 wm_n (wm_S G) [.ref (G.B + a0)] g (fun u => u = v) := by
  refine wm_in_v (cc := c_St_becomeZeros) (maxL := 2) (by decide) rfl (Nat.le_of_ble_eq_true rfl) (fun X C _ E => ?_)
  have c_7 : ∀ (b0 : Nat) (k0 : kd b0 = 4) (f : Nat) (a : Int32 × wm_Sg), lp_it (mf_St_becomeZeros_7 b0) f a = some v → wm_W G X 2 0 0 wm_n (wm_S G) a.2 7 [(0, .ref (G.B + b0)), (1, .int a.1)] [] := by
    intro b0 k0 f
    induction f with
    | zero => intro a h; cases h
    | succ f hK7 =>
      intro a h
      have h : mf_St_becomeZeros_7 b0 (lp_it (mf_St_becomeZeros_7 b0) f) a = some v := h
      unfold mf_St_becomeZeros_7 at h
      refine wm_iload_n C d_St_becomeZeros_7 rfl ?_
      refine wm_iconst (v := (4 : Int32)) C d_St_becomeZeros_8 (by decide) ?_
      refine wk_icmp_ge (tgt := 28) C d_St_becomeZeros_9 rfl h (fun _ h => ?_) (fun _ h => ?_)
      · exact E _ _ _ d_St_becomeZeros_28 (Option.some.inj h)
      · refine wm_aload_n C d_St_becomeZeros_12 rfl ?_
        refine gt_4_0 C k0 (ws_in iw_4) (ws_1 mw_0_115) d_St_becomeZeros_13 ?_
        refine wm_iload_n C d_St_becomeZeros_16 rfl ?_
        refine wk_no h (fun w5 h => ?_)
        refine wk_aald_23 C (kr_4_0 k0) w5 d_St_becomeZeros_17 ?_
        refine wm_iconst (v := (0 : Int32)) C d_St_becomeZeros_18 (by decide) ?_
        refine wk_bind h (fun v6 e6 h => wm_cVv (ci := 3) (q := (Rn_3, Tn_3, 3)) (na := 1) C (mc_Fa_becomeNumber (sh_r (sh_r b0 0) (a.1).toNatClampNeg) (0 : Int32) a.2 v6 (kr_23 (kr_4_0 k0) w5) e6) (gc_Fa_becomeNumber mw_1_30) (kd_lt (by rw [(kr_23 (kr_4_0 k0) w5)]; decide)) rfl ⟨_, wm_S_3 (kr_23 (kr_4_0 k0) w5) _⟩ rfl rfl (by decide +kernel) rfl (by decide) (by decide) d_St_becomeZeros_19 rfl (Nat.le_of_ble_eq_true rfl) (Nat.zero_le _) (Nat.zero_le _) (fun u6 q6 => ?_))
        subst u6
        refine wk_iinc C (1 : Int32) d_St_becomeZeros_22 (by decide) rfl (by decide) ?_
        refine wm_goto (tgt := 7) C d_St_becomeZeros_25 rfl ?_
        refine wk_cut (hK7 ((a.1 + (1 : Int32)), v6) h) ?_
        exact ⟨rfl, rfl, trivial⟩
  unfold mf_St_becomeZeros at h
  refine wm_aload_n C d_St_becomeZeros_0 rfl ?_
  refine wm_iconst (v := (0 : Int32)) C d_St_becomeZeros_1 (by decide) ?_
  refine pt_4_1 C k0 (Or.inl rfl) (ws_in iw_4) (ws_1 mw_0_118) d_St_becomeZeros_2 ?_
  refine wm_iconst (v := (0 : Int32)) C d_St_becomeZeros_5 (by decide) ?_
  refine wm_istore_n C d_St_becomeZeros_6 (by decide) ?_
  refine wk_cut (c_7 a0 k0 2100 ((0 : Int32), wm_u g a0 1 (0 : Int32)) h) ?_
  exact ⟨rfl, rfl, trivial⟩
/-! FactFlow$Solution.begin()V -/
def mf_So_begin_2 (b0 : Nat) (K2 : Int32 × wm_Sg → Option wm_Sg) (a : Int32 × wm_Sg) : Option wm_Sg :=
  if (24 : Int32) ≤ a.1 then (if (0 : Int32) < 0 ∨ sh_n (sh_r b0 0) ≤ ((0 : Int32)).toNatClampNeg then none else (mf_St_becomeZeros (sh_r (sh_r b0 0) ((0 : Int32)).toNatClampNeg) a.2).bind fun v8 => if (0 : Int32) < 0 ∨ sh_n (sh_r b0 2) ≤ ((0 : Int32)).toNatClampNeg then none else some (wm_u v8 (sh_r b0 2) ((0 : Int32)).toNatClampNeg (1 : Int32))) else (if a.1 < 0 ∨ sh_n (sh_r b0 0) ≤ (a.1).toNatClampNeg then none else if a.1 < 0 ∨ sh_n (sh_r b0 2) ≤ (a.1).toNatClampNeg then none else K2 ((a.1 + (1 : Int32)), wm_u (wm_u a.2 (sh_r (sh_r b0 0) (a.1).toNatClampNeg) 1 (1 : Int32)) (sh_r b0 2) (a.1).toNatClampNeg (0 : Int32)))
def mf_So_begin (a0 : Nat) (g : wm_Sg) : Option wm_Sg :=
  lp_it (mf_So_begin_2 a0) 2100 ((0 : Int32), g)
set_option maxHeartbeats 4000000 in
set_option maxRecDepth 100000 in
theorem mc_So_begin {l : Launch} {G : wm_G} (a0 : Nat) (g : wm_Sg) (v : wm_Sg) (k0 : kd a0 = 5) (h : mf_So_begin a0 g = some v) : wm_Mv l G y_So_begin ws_So_begin 3 wm_n (wm_S G) [.ref (G.B + a0)] g (fun u => u = v) := by
  refine wm_in_v (cc := c_So_begin) (maxL := 2) (by decide) rfl (Nat.le_of_ble_eq_true rfl) (fun X C _ E => ?_)
  have c_2 : ∀ (b0 : Nat) (k0 : kd b0 = 5) (f : Nat) (a : Int32 × wm_Sg), lp_it (mf_So_begin_2 b0) f a = some v → wm_W G X 2 0 0 wm_n (wm_S G) a.2 2 [(0, .ref (G.B + b0)), (1, .int a.1)] [] := by
    intro b0 k0 f
    induction f with
    | zero => intro a h; cases h
    | succ f hK2 =>
      intro a h
      have h : mf_So_begin_2 b0 (lp_it (mf_So_begin_2 b0) f) a = some v := h
      unfold mf_So_begin_2 at h
      refine wm_iload_n C d_So_begin_2 rfl ?_
      refine wm_bipush (v := (24 : Int32)) C d_So_begin_3 (by decide) ?_
      refine wk_icmp_ge (tgt := 31) C d_So_begin_5 rfl h (fun _ h => ?_) (fun _ h => ?_)
      · refine wm_aload_n C d_So_begin_31 rfl ?_
        refine gt_5_0 C k0 (ws_in iw_5) (ws_1 mw_0_128) d_So_begin_32 ?_
        refine wm_iconst (v := (0 : Int32)) C d_So_begin_35 (by decide) ?_
        refine wk_no h (fun w7 h => ?_)
        refine wk_aald_24 C (kr_5_0 k0) w7 d_So_begin_36 ?_
        refine wk_bind h (fun v8 e8 h => wm_cVv (ci := 4) (q := (Rn_4, Tn_4, 2)) (na := 0) C (mc_St_becomeZeros (sh_r (sh_r b0 0) ((0 : Int32)).toNatClampNeg) a.2 v8 (kr_24 (kr_5_0 k0) w7) e8) (gc_St_becomeZeros mw_1_26) (kd_lt (by rw [(kr_24 (kr_5_0 k0) w7)]; decide)) rfl ⟨_, wm_S_4 (kr_24 (kr_5_0 k0) w7) _⟩ rfl rfl (by decide +kernel) rfl (by decide) (by decide) d_So_begin_37 rfl (Nat.le_of_ble_eq_true rfl) (Nat.zero_le _) (Nat.zero_le _) (fun u8 q8 => ?_))
        subst u8
        refine wm_aload_n C d_So_begin_40 rfl ?_
        refine gt_5_2 C k0 (ws_in iw_5) (ws_1 mw_0_132) d_So_begin_41 ?_
        refine wm_iconst (v := (0 : Int32)) C d_So_begin_44 (by decide) ?_
        refine wm_iconst (v := (1 : Int32)) C d_So_begin_45 (by decide) ?_
        refine wk_zast C (kr_5_2 k0) rfl d_So_begin_46 h (fun h => ?_)
        exact E _ _ _ d_So_begin_47 (Option.some.inj h)
      · refine wm_aload_n C d_So_begin_8 rfl ?_
        refine gt_5_0 C k0 (ws_in iw_5) (ws_1 mw_0_128) d_So_begin_9 ?_
        refine wm_iload_n C d_So_begin_12 rfl ?_
        refine wk_no h (fun w9 h => ?_)
        refine wk_aald_24 C (kr_5_0 k0) w9 d_So_begin_13 ?_
        refine wm_iconst (v := (1 : Int32)) C d_So_begin_14 (by decide) ?_
        refine pt_4_1 C (kr_24 (kr_5_0 k0) w9) (Or.inr rfl) (ws_in iw_4) (ws_1 mw_0_120) d_So_begin_15 ?_
        refine wm_aload_n C d_So_begin_18 rfl ?_
        refine gt_5_2 C k0 (ws_in iw_5) (ws_1 mw_0_132) d_So_begin_19 ?_
        refine wm_iload_n C d_So_begin_22 rfl ?_
        refine wm_iconst (v := (0 : Int32)) C d_So_begin_23 (by decide) ?_
        refine wk_zast C (kr_5_2 k0) rfl d_So_begin_24 h (fun h => ?_)
        refine wk_iinc C (1 : Int32) d_So_begin_25 (by decide) rfl (by decide) ?_
        refine wm_goto (tgt := 2) C d_So_begin_28 rfl ?_
        refine wk_cut (hK2 ((a.1 + (1 : Int32)), wm_u (wm_u a.2 (sh_r (sh_r b0 0) (a.1).toNatClampNeg) 1 (1 : Int32)) (sh_r b0 2) (a.1).toNatClampNeg (0 : Int32)) h) ?_
        exact ⟨rfl, rfl, trivial⟩
  unfold mf_So_begin at h
  refine wm_iconst (v := (0 : Int32)) C d_So_begin_0 (by decide) ?_
  refine wm_istore_n C d_So_begin_1 (by decide) ?_
  refine wk_cut (c_2 a0 k0 2100 ((0 : Int32), g) h) ?_
  exact ⟨rfl, rfl, trivial⟩
