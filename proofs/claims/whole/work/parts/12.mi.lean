/-! FactFlowModel.input(I)Z -/
def mf_Mo_input (a0 : Nat) (a1 : Int32) (g : wm_Sg) : Option (Int32 × wm_Sg) :=
  if (g a0 17) = (16 : Int32) then (some ((0 : Int32), g)) else (if (g a0 17) < 0 ∨ sh_n (sh_r a0 18) ≤ ((g a0 17)).toNatClampNeg then none else some ((1 : Int32), wm_u (wm_u g (sh_r a0 18) ((g a0 17)).toNatClampNeg a1) a0 17 (((wm_u g (sh_r a0 18) ((g a0 17)).toNatClampNeg a1) a0 17) + (1 : Int32))))
set_option maxHeartbeats 4000000 in
set_option maxRecDepth 100000 in
theorem mc_Mo_input {l : Launch} {G : wm_G} (a0 : Nat) (a1 : Int32) (g : wm_Sg) (v : (Int32 × wm_Sg)) (k0 : kd a0 = 8) (h : mf_Mo_input a0 a1 g = some v) : wm_Mi l G y_Mo_input ws_Mo_input 0 wm_n (wm_S G) [.ref (G.B + a0), .int a1] g (fun r u => r = v.1 ∧ u = v.2) := by
  refine wm_in_z (cc := c_Mo_input) (maxL := 2) (by decide) rfl (Nat.le_of_ble_eq_true rfl) (fun X C _ E => ?_)
  unfold mf_Mo_input at h
  refine wm_aload_n C d_Mo_input_0 rfl ?_
  refine gt_8_17 C k0 (ws_in iw_8) (ws_1 mw_2_5) d_Mo_input_1 ?_
  refine wm_bipush (v := (16 : Int32)) C d_Mo_input_4 (by decide) ?_
  refine wk_icmp_ne (tgt := 11) C d_Mo_input_6 rfl h (fun _ h => ?_) (fun _ h => ?_)
  · refine wm_iconst (v := (0 : Int32)) C d_Mo_input_9 (by decide) ?_
    exact E _ _ _ _ d_Mo_input_10 rfl (wk_ret h)
  · refine wm_aload_n C d_Mo_input_11 rfl ?_
    refine gt_8_18 C k0 (ws_in iw_8) (ws_1 mw_2_6) d_Mo_input_12 ?_
    refine wm_aload_n C d_Mo_input_15 rfl ?_
    refine gt_8_17 C k0 (ws_in iw_8) (ws_1 mw_2_5) d_Mo_input_16 ?_
    refine wm_iload_n C d_Mo_input_19 rfl ?_
    refine wk_iast C (kr_8_18 k0) d_Mo_input_20 h (fun h => ?_)
    refine wm_aload_n C d_Mo_input_21 rfl ?_
    refine wm_dup C d_Mo_input_22 rfl ?_
    refine gt_8_17 C k0 (ws_in iw_8) (ws_1 mw_2_5) d_Mo_input_23 ?_
    refine wm_iconst (v := (1 : Int32)) C d_Mo_input_26 (by decide) ?_
    refine wm_iadd C d_Mo_input_27 ?_
    refine pt_8_17 C k0 (ws_in iw_8) (ws_1 mw_2_5) d_Mo_input_28 ?_
    refine wm_iconst (v := (1 : Int32)) C d_Mo_input_31 (by decide) ?_
    exact E _ _ _ _ d_Mo_input_32 rfl (wk_ret h)
/-! FactFlowModel.dry()V -/
def mf_Mo_dry (a0 : Nat) (g : wm_Sg) : Option wm_Sg :=
  some (wm_u g a0 17 (0 : Int32))
set_option maxHeartbeats 4000000 in
set_option maxRecDepth 100000 in
theorem mc_Mo_dry {l : Launch} {G : wm_G} (a0 : Nat) (g : wm_Sg) (v : wm_Sg) (k0 : kd a0 = 8) (h : mf_Mo_dry a0 g = some v) : wm_Mv l G y_Mo_dry ws_Mo_dry 0 wm_n (wm_S G) [.ref (G.B + a0)] g (fun u => u = v) := by
  refine wm_in_v (cc := c_Mo_dry) (maxL := 1) (by decide) rfl (Nat.le_of_ble_eq_true rfl) (fun X C _ E => ?_)
  unfold mf_Mo_dry at h
  refine wm_aload_n C d_Mo_dry_0 rfl ?_
  refine wm_iconst (v := (0 : Int32)) C d_Mo_dry_1 (by decide) ?_
  refine pt_8_17 C k0 (ws_in iw_8) (ws_1 mw_2_5) d_Mo_dry_2 ?_
  exact E _ _ _ d_Mo_dry_5 (Option.some.inj h)
/-! FactFlowModel.worth(III)I -/
def mf_Mo_worth (a0 : Nat) (a1 : Int32) (a2 : Int32) (a3 : Int32) (g : wm_Sg) : Option (Int32 × wm_Sg) :=
  if a1 = (2 : Int32) then (some ((a2 + a3), g)) else if a1 = (3 : Int32) then (some ((a2 - a3), g)) else if a1 = (4 : Int32) then (some ((a2 * a3), g)) else ((mf_Mo_divided a2 a3 g).bind fun v8 => some (v8.1, v8.2))
set_option maxHeartbeats 4000000 in
set_option maxRecDepth 100000 in
theorem mc_Mo_worth {l : Launch} {G : wm_G} (a0 : Nat) (a1 : Int32) (a2 : Int32) (a3 : Int32) (g : wm_Sg) (v : (Int32 × wm_Sg)) (k0 : kd a0 = 8) (h : mf_Mo_worth a0 a1 a2 a3 g = some v) : wm_Mi l G y_Mo_worth ws_Mo_worth 1 wm_n (wm_S G) [.ref (G.B + a0), .int a1, .int a2, .int a3] g (fun r u => r = v.1 ∧ u = v.2) := by
  refine wm_in_i (cc := c_Mo_worth) (maxL := 4) (by decide) rfl (Nat.le_of_ble_eq_true rfl) (fun X C _ E => ?_)
  unfold mf_Mo_worth at h
  refine wm_iload_n C d_Mo_worth_0 rfl ?_
  refine wk_ite h (fun w5 h => ?_) (fun w5 h => ?_)
  · refine wk_tableEq (tgt := 28) C d_Mo_worth_1 w5 (by decide) (by decide) rfl rfl ?_
    refine wm_iload_n C d_Mo_worth_28 rfl ?_
    refine wm_iload_n C d_Mo_worth_29 rfl ?_
    refine wm_iadd C d_Mo_worth_30 ?_
    exact E _ _ _ _ d_Mo_worth_31 (wk_ret h)
  · refine wk_ite h (fun w6 h => ?_) (fun w6 h => ?_)
    · refine wk_tableEq (tgt := 32) C d_Mo_worth_1 w6 (by decide) (by decide) rfl rfl ?_
      refine wm_iload_n C d_Mo_worth_32 rfl ?_
      refine wm_iload_n C d_Mo_worth_33 rfl ?_
      refine wm_isub C d_Mo_worth_34 ?_
      exact E _ _ _ _ d_Mo_worth_35 (wk_ret h)
    · refine wk_ite h (fun w7 h => ?_) (fun w7 h => ?_)
      · refine wk_tableEq (tgt := 36) C d_Mo_worth_1 w7 (by decide) (by decide) rfl rfl ?_
        refine wm_iload_n C d_Mo_worth_36 rfl ?_
        refine wm_iload_n C d_Mo_worth_37 rfl ?_
        refine wm_imul C d_Mo_worth_38 ?_
        exact E _ _ _ _ d_Mo_worth_39 (wk_ret h)
      · have w5 := wk_nt (z := 2) w5 (by decide)
        have w6 := wk_nt (z := 3) w6 (by decide)
        have w7 := wk_nt (z := 4) w7 (by decide)
        refine wm_tableOut (tgt := 40) C d_Mo_worth_1 (by omega) rfl ?_
        refine wm_iload_n C d_Mo_worth_40 rfl ?_
        refine wm_iload_n C d_Mo_worth_41 rfl ?_
        refine wk_bind h (fun v8 e8 h => wm_cSi (na := 2) C (mc_Mo_divided a2 a3 g v8 e8) (gc_Mo_divided mw_2_186) rfl (by decide +kernel) rfl (by decide) (by decide) d_Mo_worth_42 rfl (Nat.le_of_ble_eq_true rfl) (Nat.zero_le _) (Nat.zero_le _) (fun r8 u8 q8 => ?_))
        obtain ⟨rfl, rfl⟩ := q8
        exact E _ _ _ _ d_Mo_worth_45 (wk_ret h)
/-! FactFlowModel.read(I)V -/
def mf_Mo_read_29 (b0 : Nat) (s0 : Int32) (s1 : Int32) (s2 : Nat) (g : wm_Sg) : Option wm_Sg :=
  if s1 < 0 ∨ sh_n s2 ≤ (s1).toNatClampNeg then none else some (wm_u (wm_u g s2 (s1).toNatClampNeg s0) b0 24 (((wm_u g s2 (s1).toNatClampNeg s0) b0 24) + (1 : Int32)))
def mf_Mo_read (a0 : Nat) (a1 : Int32) (g : wm_Sg) : Option wm_Sg :=
  if (g a0 17) ≤ (g a0 24) then (mf_Mo_read_29 a0 (0 : Int32) a1 (sh_r a0 21) g) else (if (g a0 24) < 0 ∨ sh_n (sh_r a0 18) ≤ ((g a0 24)).toNatClampNeg then none else mf_Mo_read_29 a0 (g (sh_r a0 18) ((g a0 24)).toNatClampNeg) a1 (sh_r a0 21) g)
set_option maxHeartbeats 4000000 in
set_option maxRecDepth 100000 in
theorem mc_Mo_read {l : Launch} {G : wm_G} (a0 : Nat) (a1 : Int32) (g : wm_Sg) (v : wm_Sg) (k0 : kd a0 = 8) (h : mf_Mo_read a0 a1 g = some v) : wm_Mv l G y_Mo_read ws_Mo_read 0 wm_n (wm_S G) [.ref (G.B + a0), .int a1] g (fun u => u = v) := by
  refine wm_in_v (cc := c_Mo_read) (maxL := 2) (by decide) rfl (Nat.le_of_ble_eq_true rfl) (fun X C _ E => ?_)
  have c_29 : ∀ (b0 : Nat) (s0 : Int32) (s1 : Int32) (s2 : Nat) (k0 : kd b0 = 8) (ks2 : kd s2 = 20) (g : wm_Sg), mf_Mo_read_29 b0 s0 s1 s2 g = some v → wm_W G X 2 0 0 wm_n (wm_S G) g 29 [(0, .ref (G.B + b0))] [.int s0, .int s1, .ref (G.B + s2)] := by
    intro b0 s0 s1 s2 k0 ks2 g h
    unfold mf_Mo_read_29 at h
    refine wk_iast C ks2 d_Mo_read_29 h (fun h => ?_)
    refine wm_aload_n C d_Mo_read_30 rfl ?_
    refine wm_dup C d_Mo_read_31 rfl ?_
    refine gt_8_24 C k0 (ws_in iw_8) (ws_1 mw_2_12) d_Mo_read_32 ?_
    refine wm_iconst (v := (1 : Int32)) C d_Mo_read_35 (by decide) ?_
    refine wm_iadd C d_Mo_read_36 ?_
    refine pt_8_24 C k0 (ws_in iw_8) (ws_1 mw_2_12) d_Mo_read_37 ?_
    exact E _ _ _ d_Mo_read_40 (Option.some.inj h)
  unfold mf_Mo_read at h
  refine wm_aload_n C d_Mo_read_0 rfl ?_
  refine gt_8_21 C k0 (ws_in iw_8) (ws_1 mw_2_9) d_Mo_read_1 ?_
  refine wm_iload_n C d_Mo_read_4 rfl ?_
  refine wm_aload_n C d_Mo_read_5 rfl ?_
  refine gt_8_24 C k0 (ws_in iw_8) (ws_1 mw_2_12) d_Mo_read_6 ?_
  refine wm_aload_n C d_Mo_read_9 rfl ?_
  refine gt_8_17 C k0 (ws_in iw_8) (ws_1 mw_2_5) d_Mo_read_10 ?_
  refine wk_icmp_ge (tgt := 28) C d_Mo_read_13 rfl h (fun _ h => ?_) (fun _ h => ?_)
  · refine wm_iconst (v := (0 : Int32)) C d_Mo_read_28 (by decide) ?_
    refine wk_cut (c_29 a0 (0 : Int32) a1 (sh_r a0 21) k0 (kr_8_21 k0) g h) ?_
    exact ⟨rfl, trivial⟩
  · refine wm_aload_n C d_Mo_read_16 rfl ?_
    refine gt_8_18 C k0 (ws_in iw_8) (ws_1 mw_2_6) d_Mo_read_17 ?_
    refine wm_aload_n C d_Mo_read_20 rfl ?_
    refine gt_8_24 C k0 (ws_in iw_8) (ws_1 mw_2_12) d_Mo_read_21 ?_
    refine wk_iald C (kr_8_18 k0) d_Mo_read_24 h (fun h => ?_)
    refine wm_goto (tgt := 29) C d_Mo_read_25 rfl ?_
    refine wk_cut (c_29 a0 (g (sh_r a0 18) ((g a0 24)).toNatClampNeg) a1 (sh_r a0 21) k0 (kr_8_21 k0) g h) ?_
    exact ⟨rfl, trivial⟩
/-! FactFlowModel.print(I)V -/
def mf_Mo_print_19 (b0 : Nat) (g : wm_Sg) : Option wm_Sg :=
  some (wm_u g b0 22 ((g b0 22) + (1 : Int32)))
def mf_Mo_print (a0 : Nat) (a1 : Int32) (g : wm_Sg) : Option wm_Sg :=
  if (40 : Int32) ≤ (g a0 22) then (mf_Mo_print_19 a0 g) else (if (g a0 22) < 0 ∨ sh_n (sh_r a0 23) ≤ ((g a0 22)).toNatClampNeg then none else mf_Mo_print_19 a0 (wm_u g (sh_r a0 23) ((g a0 22)).toNatClampNeg a1))
set_option maxHeartbeats 4000000 in
set_option maxRecDepth 100000 in
theorem mc_Mo_print {l : Launch} {G : wm_G} (a0 : Nat) (a1 : Int32) (g : wm_Sg) (v : wm_Sg) (k0 : kd a0 = 8) (h : mf_Mo_print a0 a1 g = some v) : wm_Mv l G y_Mo_print ws_Mo_print 0 wm_n (wm_S G) [.ref (G.B + a0), .int a1] g (fun u => u = v) := by
  refine wm_in_v (cc := c_Mo_print) (maxL := 2) (by decide) rfl (Nat.le_of_ble_eq_true rfl) (fun X C _ E => ?_)
  have c_19 : ∀ (b0 : Nat) (k0 : kd b0 = 8) (g : wm_Sg), mf_Mo_print_19 b0 g = some v → wm_W G X 2 0 0 wm_n (wm_S G) g 19 [(0, .ref (G.B + b0))] [] := by
    intro b0 k0 g h
    unfold mf_Mo_print_19 at h
    refine wm_aload_n C d_Mo_print_19 rfl ?_
    refine wm_dup C d_Mo_print_20 rfl ?_
    refine gt_8_22 C k0 (ws_in iw_8) (ws_1 mw_2_10) d_Mo_print_21 ?_
    refine wm_iconst (v := (1 : Int32)) C d_Mo_print_24 (by decide) ?_
    refine wm_iadd C d_Mo_print_25 ?_
    refine pt_8_22 C k0 (ws_in iw_8) (ws_1 mw_2_10) d_Mo_print_26 ?_
    exact E _ _ _ d_Mo_print_29 (Option.some.inj h)
  unfold mf_Mo_print at h
  refine wm_aload_n C d_Mo_print_0 rfl ?_
  refine gt_8_22 C k0 (ws_in iw_8) (ws_1 mw_2_10) d_Mo_print_1 ?_
  refine wm_bipush (v := (40 : Int32)) C d_Mo_print_4 (by decide) ?_
  refine wk_icmp_ge (tgt := 19) C d_Mo_print_6 rfl h (fun _ h => ?_) (fun _ h => ?_)
  · refine wk_cut (c_19 a0 k0 g h) ?_
    exact ⟨rfl, trivial⟩
  · refine wm_aload_n C d_Mo_print_9 rfl ?_
    refine gt_8_23 C k0 (ws_in iw_8) (ws_1 mw_2_11) d_Mo_print_10 ?_
    refine wm_aload_n C d_Mo_print_13 rfl ?_
    refine gt_8_22 C k0 (ws_in iw_8) (ws_1 mw_2_10) d_Mo_print_14 ?_
    refine wm_iload_n C d_Mo_print_17 rfl ?_
    refine wk_iast C (kr_8_23 k0) d_Mo_print_18 h (fun h => ?_)
    refine wk_cut (c_19 a0 k0 (wm_u g (sh_r a0 23) ((g a0 22)).toNatClampNeg a1) h) ?_
    exact ⟨rfl, trivial⟩
/-! FactFlowModel.step()I -/
def mf_Mo_step_228 (s0 : Int32) (g : wm_Sg) : Option (Int32 × wm_Sg) :=
  some (s0, g)
def mf_Mo_step_214 (b2 : Int32) (s0 : Int32) (s1 : Nat) (g : wm_Sg) : Option (Int32 × wm_Sg) :=
  if b2 = (11 : Int32) then (mf_Mo_step_228 (1 : Int32) (wm_u g s1 20 s0)) else (mf_Mo_step_228 (0 : Int32) (wm_u g s1 20 s0))
def mf_Mo_step_200 (b0 : Nat) (b1 : Int32) (b2 : Int32) (b4 : Int32) (b5 : Int32) (g : wm_Sg) : Option (Int32 × wm_Sg) :=
  if b5 = (0 : Int32) then (mf_Mo_step_214 b2 (b1 + (1 : Int32)) b0 g) else (mf_Mo_step_214 b2 b4 b0 g)
def mf_Mo_step_170 (b0 : Nat) (b1 : Int32) (b2 : Int32) (b3 : Int32) (b4 : Int32) (b5 : Int32) (g : wm_Sg) : Option (Int32 × wm_Sg) :=
  if b2 = (6 : Int32) then ((mf_Mo_read b0 b3 g).bind fun v7 => mf_Mo_step_200 b0 b1 b2 b4 b5 v7) else (if b2 = (10 : Int32) then (if b3 < 0 ∨ sh_n (sh_r b0 21) ≤ (b3).toNatClampNeg then none else (mf_Mo_print b0 (g (sh_r b0 21) (b3).toNatClampNeg) g).bind fun v8 => mf_Mo_step_200 b0 b1 b2 b4 b5 v8) else (mf_Mo_step_200 b0 b1 b2 b4 b5 g))
def mf_Mo_step_85 (b0 : Nat) (b1 : Int32) (b2 : Int32) (b3 : Int32) (b4 : Int32) (s0 : Int32) (g : wm_Sg) : Option (Int32 × wm_Sg) :=
  if b2 = (0 : Int32) then (if b3 < 0 ∨ sh_n (sh_r b0 21) ≤ (b3).toNatClampNeg then none else mf_Mo_step_200 b0 b1 b2 b4 s0 (wm_u g (sh_r b0 21) (b3).toNatClampNeg b4)) else (if b2 = (1 : Int32) then (if b1 < 0 ∨ sh_n (sh_r b0 3) ≤ (b1).toNatClampNeg then none else if (g (sh_r b0 3) (b1).toNatClampNeg) < 0 ∨ sh_n (sh_r b0 21) ≤ ((g (sh_r b0 3) (b1).toNatClampNeg)).toNatClampNeg then none else if b3 < 0 ∨ sh_n (sh_r b0 21) ≤ (b3).toNatClampNeg then none else mf_Mo_step_200 b0 b1 b2 b4 s0 (wm_u g (sh_r b0 21) (b3).toNatClampNeg (g (sh_r b0 21) ((g (sh_r b0 3) (b1).toNatClampNeg)).toNatClampNeg))) else (if b2 ≤ (1 : Int32) then (mf_Mo_step_170 b0 b1 b2 b3 b4 s0 g) else (if (6 : Int32) ≤ b2 then (mf_Mo_step_170 b0 b1 b2 b3 b4 s0 g) else (if b1 < 0 ∨ sh_n (sh_r b0 3) ≤ (b1).toNatClampNeg then none else if (g (sh_r b0 3) (b1).toNatClampNeg) < 0 ∨ sh_n (sh_r b0 21) ≤ ((g (sh_r b0 3) (b1).toNatClampNeg)).toNatClampNeg then none else if b4 < 0 ∨ sh_n (sh_r b0 21) ≤ (b4).toNatClampNeg then none else (mf_Mo_worth b0 b2 (g (sh_r b0 21) ((g (sh_r b0 3) (b1).toNatClampNeg)).toNatClampNeg) (g (sh_r b0 21) (b4).toNatClampNeg) g).bind fun v9 => if b3 < 0 ∨ sh_n (sh_r b0 21) ≤ (b3).toNatClampNeg then none else mf_Mo_step_200 b0 b1 b2 b4 s0 (wm_u v9.2 (sh_r b0 21) (b3).toNatClampNeg v9.1)))))
def mf_Mo_step_80 (b0 : Nat) (b1 : Int32) (b2 : Int32) (b3 : Int32) (b4 : Int32) (g : wm_Sg) : Option (Int32 × wm_Sg) :=
  mf_Mo_step_85 b0 b1 b2 b3 b4 (1 : Int32) g
def mf_Mo_step_84 (b0 : Nat) (b1 : Int32) (b2 : Int32) (b3 : Int32) (b4 : Int32) (g : wm_Sg) : Option (Int32 × wm_Sg) :=
  mf_Mo_step_85 b0 b1 b2 b3 b4 (0 : Int32) g
def mf_Mo_step_65 (b0 : Nat) (b1 : Int32) (b2 : Int32) (b3 : Int32) (b4 : Int32) (g : wm_Sg) : Option (Int32 × wm_Sg) :=
  if b2 = (8 : Int32) then (if b3 < 0 ∨ sh_n (sh_r b0 21) ≤ (b3).toNatClampNeg then none else if (0 : Int32) ≤ (g (sh_r b0 21) (b3).toNatClampNeg) then (mf_Mo_step_84 b0 b1 b2 b3 b4 g) else (mf_Mo_step_80 b0 b1 b2 b3 b4 g)) else (mf_Mo_step_84 b0 b1 b2 b3 b4 g)
def mf_Mo_step_44 (b0 : Nat) (b1 : Int32) (b2 : Int32) (b3 : Int32) (b4 : Int32) (g : wm_Sg) : Option (Int32 × wm_Sg) :=
  if b2 = (9 : Int32) then (mf_Mo_step_80 b0 b1 b2 b3 b4 g) else (if b2 = (7 : Int32) then (if b3 < 0 ∨ sh_n (sh_r b0 21) ≤ (b3).toNatClampNeg then none else if (g (sh_r b0 21) (b3).toNatClampNeg) = (0 : Int32) then (mf_Mo_step_80 b0 b1 b2 b3 b4 g) else (mf_Mo_step_65 b0 b1 b2 b3 b4 g)) else (mf_Mo_step_65 b0 b1 b2 b3 b4 g))
def mf_Mo_step (a0 : Nat) (g : wm_Sg) : Option (Int32 × wm_Sg) :=
  if (g a0 20) < 0 ∨ sh_n (sh_r a0 1) ≤ ((g a0 20)).toNatClampNeg then none else if (g a0 20) < 0 ∨ sh_n (sh_r a0 2) ≤ ((g a0 20)).toNatClampNeg then none else if (g a0 20) < 0 ∨ sh_n (sh_r a0 4) ≤ ((g a0 20)).toNatClampNeg then none else if (g (sh_r a0 1) ((g a0 20)).toNatClampNeg) = (5 : Int32) then (if (g (sh_r a0 4) ((g a0 20)).toNatClampNeg) < 0 ∨ sh_n (sh_r a0 21) ≤ ((g (sh_r a0 4) ((g a0 20)).toNatClampNeg)).toNatClampNeg then none else if (g (sh_r a0 21) ((g (sh_r a0 4) ((g a0 20)).toNatClampNeg)).toNatClampNeg) = (0 : Int32) then (some ((2 : Int32), g)) else (mf_Mo_step_44 a0 (g a0 20) (g (sh_r a0 1) ((g a0 20)).toNatClampNeg) (g (sh_r a0 2) ((g a0 20)).toNatClampNeg) (g (sh_r a0 4) ((g a0 20)).toNatClampNeg) g)) else (mf_Mo_step_44 a0 (g a0 20) (g (sh_r a0 1) ((g a0 20)).toNatClampNeg) (g (sh_r a0 2) ((g a0 20)).toNatClampNeg) (g (sh_r a0 4) ((g a0 20)).toNatClampNeg) g)
set_option maxHeartbeats 4000000 in
set_option maxRecDepth 100000 in
theorem mc_Mo_step {l : Launch} {G : wm_G} (a0 : Nat) (g : wm_Sg) (v : (Int32 × wm_Sg)) (k0 : kd a0 = 8) (h : mf_Mo_step a0 g = some v) : wm_Mi l G y_Mo_step ws_Mo_step 2 wm_n (wm_S G) [.ref (G.B + a0)] g (fun r u => r = v.1 ∧ u = v.2) := by
  refine wm_in_i (cc := c_Mo_step) (maxL := 6) (by decide) rfl (Nat.le_of_ble_eq_true rfl) (fun X C _ E => ?_)
  have c_228 : ∀ (s0 : Int32) (g : wm_Sg), mf_Mo_step_228  s0 g = some v → wm_W G X 6 0 0 wm_n (wm_S G) g 228 [] [.int s0] := by
    intro s0 g h
    unfold mf_Mo_step_228 at h
    exact E _ _ _ _ d_Mo_step_228 (wk_ret h)
  have c_214 : ∀ (b2 : Int32) (s0 : Int32) (s1 : Nat) (ks1 : kd s1 = 8) (g : wm_Sg), mf_Mo_step_214 b2 s0 s1 g = some v → wm_W G X 6 0 0 wm_n (wm_S G) g 214 [(2, .int b2)] [.int s0, .ref (G.B + s1)] := by
    intro b2 s0 s1 ks1 g h
    unfold mf_Mo_step_214 at h
    refine pt_8_20 C ks1 (ws_in iw_8) (ws_1 mw_2_8) d_Mo_step_214 ?_
    refine wm_iload_n C d_Mo_step_217 rfl ?_
    refine wm_bipush (v := (11 : Int32)) C d_Mo_step_218 (by decide) ?_
    refine wk_icmp_ne (tgt := 227) C d_Mo_step_220 rfl h (fun _ h => ?_) (fun _ h => ?_)
    · refine wm_iconst (v := (1 : Int32)) C d_Mo_step_223 (by decide) ?_
      refine wm_goto (tgt := 228) C d_Mo_step_224 rfl ?_
      refine wk_cut (c_228 (1 : Int32) (wm_u g s1 20 s0) h) ?_
      exact trivial
    · refine wm_iconst (v := (0 : Int32)) C d_Mo_step_227 (by decide) ?_
      refine wk_cut (c_228 (0 : Int32) (wm_u g s1 20 s0) h) ?_
      exact trivial
  have c_200 : ∀ (b0 : Nat) (b1 : Int32) (b2 : Int32) (b4 : Int32) (b5 : Int32) (k0 : kd b0 = 8) (g : wm_Sg), mf_Mo_step_200 b0 b1 b2 b4 b5 g = some v → wm_W G X 6 0 0 wm_n (wm_S G) g 200 [(0, .ref (G.B + b0)), (1, .int b1), (2, .int b2), (4, .int b4), (5, .int b5)] [] := by
    intro b0 b1 b2 b4 b5 k0 g h
    unfold mf_Mo_step_200 at h
    refine wm_aload_n C d_Mo_step_200 rfl ?_
    refine wm_iload C d_Mo_step_201 rfl ?_
    refine wk_if_eq (tgt := 211) C d_Mo_step_203 rfl h (fun _ h => ?_) (fun _ h => ?_)
    · refine wm_iload_n C d_Mo_step_211 rfl ?_
      refine wm_iconst (v := (1 : Int32)) C d_Mo_step_212 (by decide) ?_
      refine wm_iadd C d_Mo_step_213 ?_
      refine wk_cut (c_214 b2 (b1 + (1 : Int32)) b0 k0 g h) ?_
      exact ⟨rfl, trivial⟩
    · refine wm_iload C d_Mo_step_206 rfl ?_
      refine wm_goto (tgt := 214) C d_Mo_step_208 rfl ?_
      refine wk_cut (c_214 b2 b4 b0 k0 g h) ?_
      exact ⟨rfl, trivial⟩
  have c_170 : ∀ (b0 : Nat) (b1 : Int32) (b2 : Int32) (b3 : Int32) (b4 : Int32) (b5 : Int32) (k0 : kd b0 = 8) (g : wm_Sg), mf_Mo_step_170 b0 b1 b2 b3 b4 b5 g = some v → wm_W G X 6 0 0 wm_n (wm_S G) g 170 [(0, .ref (G.B + b0)), (1, .int b1), (2, .int b2), (3, .int b3), (4, .int b4), (5, .int b5)] [] := by
    intro b0 b1 b2 b3 b4 b5 k0 g h
    unfold mf_Mo_step_170 at h
    refine wm_iload_n C d_Mo_step_170 rfl ?_
    refine wm_bipush (v := (6 : Int32)) C d_Mo_step_171 (by decide) ?_
    refine wk_icmp_ne (tgt := 184) C d_Mo_step_173 rfl h (fun _ h => ?_) (fun _ h => ?_)
    · refine wm_aload_n C d_Mo_step_176 rfl ?_
      refine wm_iload_n C d_Mo_step_177 rfl ?_
      refine wk_bind h (fun v7 e7 h => wm_cVv (ci := 8) (q := (Rn_8, Tn_8, 25)) (na := 1) C (mc_Mo_read b0 b3 g v7 k0 e7) (gc_Mo_read mw_2_233) (kd_lt (by rw [k0]; decide)) rfl ⟨_, wm_S_8 k0 _⟩ rfl rfl (by decide +kernel) rfl (by decide) (by decide) d_Mo_step_178 rfl (Nat.le_of_ble_eq_true rfl) (Nat.zero_le _) (Nat.zero_le _) (fun u7 q7 => ?_))
      subst u7
      refine wm_goto (tgt := 200) C d_Mo_step_181 rfl ?_
      refine wk_cut (c_200 b0 b1 b2 b4 b5 k0 v7 h) ?_
      exact ⟨rfl, rfl, rfl, rfl, rfl, trivial⟩
    · refine wm_iload_n C d_Mo_step_184 rfl ?_
      refine wm_bipush (v := (10 : Int32)) C d_Mo_step_185 (by decide) ?_
      refine wk_icmp_ne (tgt := 200) C d_Mo_step_187 rfl h (fun _ h => ?_) (fun _ h => ?_)
      · refine wm_aload_n C d_Mo_step_190 rfl ?_
        refine wm_aload_n C d_Mo_step_191 rfl ?_
        refine gt_8_21 C k0 (ws_in iw_8) (ws_1 mw_2_9) d_Mo_step_192 ?_
        refine wm_iload_n C d_Mo_step_195 rfl ?_
        refine wk_iald C (kr_8_21 k0) d_Mo_step_196 h (fun h => ?_)
        refine wk_bind h (fun v8 e8 h => wm_cVv (ci := 8) (q := (Rn_8, Tn_8, 25)) (na := 1) C (mc_Mo_print b0 (g (sh_r b0 21) (b3).toNatClampNeg) g v8 k0 e8) (gc_Mo_print mw_2_237) (kd_lt (by rw [k0]; decide)) rfl ⟨_, wm_S_8 k0 _⟩ rfl rfl (by decide +kernel) rfl (by decide) (by decide) d_Mo_step_197 rfl (Nat.le_of_ble_eq_true rfl) (Nat.zero_le _) (Nat.zero_le _) (fun u8 q8 => ?_))
        subst u8
        refine wk_cut (c_200 b0 b1 b2 b4 b5 k0 v8 h) ?_
        exact ⟨rfl, rfl, rfl, rfl, rfl, trivial⟩
      · refine wk_cut (c_200 b0 b1 b2 b4 b5 k0 g h) ?_
        exact ⟨rfl, rfl, rfl, rfl, rfl, trivial⟩
  have c_85 : ∀ (b0 : Nat) (b1 : Int32) (b2 : Int32) (b3 : Int32) (b4 : Int32) (s0 : Int32) (k0 : kd b0 = 8) (g : wm_Sg), mf_Mo_step_85 b0 b1 b2 b3 b4 s0 g = some v → wm_W G X 6 0 0 wm_n (wm_S G) g 85 [(0, .ref (G.B + b0)), (1, .int b1), (2, .int b2), (3, .int b3), (4, .int b4)] [.int s0] := by
    intro b0 b1 b2 b3 b4 s0 k0 g h
    unfold mf_Mo_step_85 at h
    refine wm_istore C d_Mo_step_85 (by decide) ?_
    refine wm_iload_n C d_Mo_step_87 rfl ?_
    refine wk_if_ne (tgt := 102) C d_Mo_step_88 rfl h (fun _ h => ?_) (fun _ h => ?_)
    · refine wm_aload_n C d_Mo_step_91 rfl ?_
      refine gt_8_21 C k0 (ws_in iw_8) (ws_1 mw_2_9) d_Mo_step_92 ?_
      refine wm_iload_n C d_Mo_step_95 rfl ?_
      refine wm_iload C d_Mo_step_96 rfl ?_
      refine wk_iast C (kr_8_21 k0) d_Mo_step_98 h (fun h => ?_)
      refine wm_goto (tgt := 200) C d_Mo_step_99 rfl ?_
      refine wk_cut (c_200 b0 b1 b2 b4 s0 k0 (wm_u g (sh_r b0 21) (b3).toNatClampNeg b4) h) ?_
      exact ⟨rfl, rfl, rfl, rfl, rfl, trivial⟩
    · refine wm_iload_n C d_Mo_step_102 rfl ?_
      refine wm_iconst (v := (1 : Int32)) C d_Mo_step_103 (by decide) ?_
      refine wk_icmp_ne (tgt := 127) C d_Mo_step_104 rfl h (fun _ h => ?_) (fun _ h => ?_)
      · refine wm_aload_n C d_Mo_step_107 rfl ?_
        refine gt_8_21 C k0 (ws_in iw_8) (ws_1 mw_2_9) d_Mo_step_108 ?_
        refine wm_iload_n C d_Mo_step_111 rfl ?_
        refine wm_aload_n C d_Mo_step_112 rfl ?_
        refine gt_8_21 C k0 (ws_in iw_8) (ws_1 mw_2_9) d_Mo_step_113 ?_
        refine wm_aload_n C d_Mo_step_116 rfl ?_
        refine gt_8_3 C k0 (ws_in iw_8) (ws_1 mw_1_231) d_Mo_step_117 ?_
        refine wm_iload_n C d_Mo_step_120 rfl ?_
        refine wk_iald C (kr_8_3 k0) d_Mo_step_121 h (fun h => ?_)
        refine wk_iald C (kr_8_21 k0) d_Mo_step_122 h (fun h => ?_)
        refine wk_iast C (kr_8_21 k0) d_Mo_step_123 h (fun h => ?_)
        refine wm_goto (tgt := 200) C d_Mo_step_124 rfl ?_
        refine wk_cut (c_200 b0 b1 b2 b4 s0 k0 (wm_u g (sh_r b0 21) (b3).toNatClampNeg (g (sh_r b0 21) ((g (sh_r b0 3) (b1).toNatClampNeg)).toNatClampNeg)) h) ?_
        exact ⟨rfl, rfl, rfl, rfl, rfl, trivial⟩
      · refine wm_iload_n C d_Mo_step_127 rfl ?_
        refine wm_iconst (v := (1 : Int32)) C d_Mo_step_128 (by decide) ?_
        refine wk_icmp_le (tgt := 170) C d_Mo_step_129 rfl h (fun _ h => ?_) (fun _ h => ?_)
        · refine wk_cut (c_170 b0 b1 b2 b3 b4 s0 k0 g h) ?_
          exact ⟨rfl, rfl, rfl, rfl, rfl, rfl, trivial⟩
        · refine wm_iload_n C d_Mo_step_132 rfl ?_
          refine wm_bipush (v := (6 : Int32)) C d_Mo_step_133 (by decide) ?_
          refine wk_icmp_ge (tgt := 170) C d_Mo_step_135 rfl h (fun _ h => ?_) (fun _ h => ?_)
          · refine wk_cut (c_170 b0 b1 b2 b3 b4 s0 k0 g h) ?_
            exact ⟨rfl, rfl, rfl, rfl, rfl, rfl, trivial⟩
          · refine wm_aload_n C d_Mo_step_138 rfl ?_
            refine gt_8_21 C k0 (ws_in iw_8) (ws_1 mw_2_9) d_Mo_step_139 ?_
            refine wm_iload_n C d_Mo_step_142 rfl ?_
            refine wm_aload_n C d_Mo_step_143 rfl ?_
            refine wm_iload_n C d_Mo_step_144 rfl ?_
            refine wm_aload_n C d_Mo_step_145 rfl ?_
            refine gt_8_21 C k0 (ws_in iw_8) (ws_1 mw_2_9) d_Mo_step_146 ?_
            refine wm_aload_n C d_Mo_step_149 rfl ?_
            refine gt_8_3 C k0 (ws_in iw_8) (ws_1 mw_1_231) d_Mo_step_150 ?_
            refine wm_iload_n C d_Mo_step_153 rfl ?_
            refine wk_iald C (kr_8_3 k0) d_Mo_step_154 h (fun h => ?_)
            refine wk_iald C (kr_8_21 k0) d_Mo_step_155 h (fun h => ?_)
            refine wm_aload_n C d_Mo_step_156 rfl ?_
            refine gt_8_21 C k0 (ws_in iw_8) (ws_1 mw_2_9) d_Mo_step_157 ?_
            refine wm_iload C d_Mo_step_160 rfl ?_
            refine wk_iald C (kr_8_21 k0) d_Mo_step_162 h (fun h => ?_)
            refine wk_bind h (fun v9 e9 h => wm_cVi (ci := 8) (q := (Rn_8, Tn_8, 25)) (na := 3) C (mc_Mo_worth b0 b2 (g (sh_r b0 21) ((g (sh_r b0 3) (b1).toNatClampNeg)).toNatClampNeg) (g (sh_r b0 21) (b4).toNatClampNeg) g v9 k0 e9) (gc_Mo_worth mw_2_229) (kd_lt (by rw [k0]; decide)) rfl ⟨_, wm_S_8 k0 _⟩ rfl rfl (by decide +kernel) rfl (by decide) (by decide) d_Mo_step_163 rfl (Nat.le_of_ble_eq_true rfl) (Nat.zero_le _) (Nat.zero_le _) (fun r9 u9 q9 => ?_))
            obtain ⟨rfl, rfl⟩ := q9
            refine wk_iast C (kr_8_21 k0) d_Mo_step_166 h (fun h => ?_)
            refine wm_goto (tgt := 200) C d_Mo_step_167 rfl ?_
            refine wk_cut (c_200 b0 b1 b2 b4 s0 k0 (wm_u v9.2 (sh_r b0 21) (b3).toNatClampNeg v9.1) h) ?_
            exact ⟨rfl, rfl, rfl, rfl, rfl, trivial⟩
  have c_80 : ∀ (b0 : Nat) (b1 : Int32) (b2 : Int32) (b3 : Int32) (b4 : Int32) (k0 : kd b0 = 8) (g : wm_Sg), mf_Mo_step_80 b0 b1 b2 b3 b4 g = some v → wm_W G X 6 0 0 wm_n (wm_S G) g 80 [(0, .ref (G.B + b0)), (1, .int b1), (2, .int b2), (3, .int b3), (4, .int b4)] [] := by
    intro b0 b1 b2 b3 b4 k0 g h
    unfold mf_Mo_step_80 at h
    refine wm_iconst (v := (1 : Int32)) C d_Mo_step_80 (by decide) ?_
    refine wm_goto (tgt := 85) C d_Mo_step_81 rfl ?_
    refine wk_cut (c_85 b0 b1 b2 b3 b4 (1 : Int32) k0 g h) ?_
    exact ⟨rfl, rfl, rfl, rfl, rfl, trivial⟩
  have c_84 : ∀ (b0 : Nat) (b1 : Int32) (b2 : Int32) (b3 : Int32) (b4 : Int32) (k0 : kd b0 = 8) (g : wm_Sg), mf_Mo_step_84 b0 b1 b2 b3 b4 g = some v → wm_W G X 6 0 0 wm_n (wm_S G) g 84 [(0, .ref (G.B + b0)), (1, .int b1), (2, .int b2), (3, .int b3), (4, .int b4)] [] := by
    intro b0 b1 b2 b3 b4 k0 g h
    unfold mf_Mo_step_84 at h
    refine wm_iconst (v := (0 : Int32)) C d_Mo_step_84 (by decide) ?_
    refine wk_cut (c_85 b0 b1 b2 b3 b4 (0 : Int32) k0 g h) ?_
    exact ⟨rfl, rfl, rfl, rfl, rfl, trivial⟩
  have c_65 : ∀ (b0 : Nat) (b1 : Int32) (b2 : Int32) (b3 : Int32) (b4 : Int32) (k0 : kd b0 = 8) (g : wm_Sg), mf_Mo_step_65 b0 b1 b2 b3 b4 g = some v → wm_W G X 6 0 0 wm_n (wm_S G) g 65 [(0, .ref (G.B + b0)), (1, .int b1), (2, .int b2), (3, .int b3), (4, .int b4)] [] := by
    intro b0 b1 b2 b3 b4 k0 g h
    unfold mf_Mo_step_65 at h
    refine wm_iload_n C d_Mo_step_65 rfl ?_
    refine wm_bipush (v := (8 : Int32)) C d_Mo_step_66 (by decide) ?_
    refine wk_icmp_ne (tgt := 84) C d_Mo_step_68 rfl h (fun _ h => ?_) (fun _ h => ?_)
    · refine wm_aload_n C d_Mo_step_71 rfl ?_
      refine gt_8_21 C k0 (ws_in iw_8) (ws_1 mw_2_9) d_Mo_step_72 ?_
      refine wm_iload_n C d_Mo_step_75 rfl ?_
      refine wk_iald C (kr_8_21 k0) d_Mo_step_76 h (fun h => ?_)
      refine wk_if_ge (tgt := 84) C d_Mo_step_77 rfl h (fun _ h => ?_) (fun _ h => ?_)
      · refine wk_cut (c_84 b0 b1 b2 b3 b4 k0 g h) ?_
        exact ⟨rfl, rfl, rfl, rfl, rfl, trivial⟩
      · refine wk_cut (c_80 b0 b1 b2 b3 b4 k0 g h) ?_
        exact ⟨rfl, rfl, rfl, rfl, rfl, trivial⟩
    · refine wk_cut (c_84 b0 b1 b2 b3 b4 k0 g h) ?_
      exact ⟨rfl, rfl, rfl, rfl, rfl, trivial⟩
  have c_44 : ∀ (b0 : Nat) (b1 : Int32) (b2 : Int32) (b3 : Int32) (b4 : Int32) (k0 : kd b0 = 8) (g : wm_Sg), mf_Mo_step_44 b0 b1 b2 b3 b4 g = some v → wm_W G X 6 0 0 wm_n (wm_S G) g 44 [(0, .ref (G.B + b0)), (1, .int b1), (2, .int b2), (3, .int b3), (4, .int b4)] [] := by
    intro b0 b1 b2 b3 b4 k0 g h
    unfold mf_Mo_step_44 at h
    refine wm_iload_n C d_Mo_step_44 rfl ?_
    refine wm_bipush (v := (9 : Int32)) C d_Mo_step_45 (by decide) ?_
    refine wk_icmp_eq (tgt := 80) C d_Mo_step_47 rfl h (fun _ h => ?_) (fun _ h => ?_)
    · refine wk_cut (c_80 b0 b1 b2 b3 b4 k0 g h) ?_
      exact ⟨rfl, rfl, rfl, rfl, rfl, trivial⟩
    · refine wm_iload_n C d_Mo_step_50 rfl ?_
      refine wm_bipush (v := (7 : Int32)) C d_Mo_step_51 (by decide) ?_
      refine wk_icmp_ne (tgt := 65) C d_Mo_step_53 rfl h (fun _ h => ?_) (fun _ h => ?_)
      · refine wm_aload_n C d_Mo_step_56 rfl ?_
        refine gt_8_21 C k0 (ws_in iw_8) (ws_1 mw_2_9) d_Mo_step_57 ?_
        refine wm_iload_n C d_Mo_step_60 rfl ?_
        refine wk_iald C (kr_8_21 k0) d_Mo_step_61 h (fun h => ?_)
        refine wk_if_eq (tgt := 80) C d_Mo_step_62 rfl h (fun _ h => ?_) (fun _ h => ?_)
        · refine wk_cut (c_80 b0 b1 b2 b3 b4 k0 g h) ?_
          exact ⟨rfl, rfl, rfl, rfl, rfl, trivial⟩
        · refine wk_cut (c_65 b0 b1 b2 b3 b4 k0 g h) ?_
          exact ⟨rfl, rfl, rfl, rfl, rfl, trivial⟩
      · refine wk_cut (c_65 b0 b1 b2 b3 b4 k0 g h) ?_
        exact ⟨rfl, rfl, rfl, rfl, rfl, trivial⟩
  unfold mf_Mo_step at h
  refine wm_aload_n C d_Mo_step_0 rfl ?_
  refine gt_8_20 C k0 (ws_in iw_8) (ws_1 mw_2_8) d_Mo_step_1 ?_
  refine wm_istore_n C d_Mo_step_4 (by decide) ?_
  refine wm_aload_n C d_Mo_step_5 rfl ?_
  refine gt_8_1 C k0 (ws_in iw_8) (ws_1 mw_1_229) d_Mo_step_6 ?_
  refine wm_iload_n C d_Mo_step_9 rfl ?_
  refine wk_iald C (kr_8_1 k0) d_Mo_step_10 h (fun h => ?_)
  refine wm_istore_n C d_Mo_step_11 (by decide) ?_
  refine wm_aload_n C d_Mo_step_12 rfl ?_
  refine gt_8_2 C k0 (ws_in iw_8) (ws_1 mw_1_230) d_Mo_step_13 ?_
  refine wm_iload_n C d_Mo_step_16 rfl ?_
  refine wk_iald C (kr_8_2 k0) d_Mo_step_17 h (fun h => ?_)
  refine wm_istore_n C d_Mo_step_18 (by decide) ?_
  refine wm_aload_n C d_Mo_step_19 rfl ?_
  refine gt_8_4 C k0 (ws_in iw_8) (ws_1 mw_1_232) d_Mo_step_20 ?_
  refine wm_iload_n C d_Mo_step_23 rfl ?_
  refine wk_iald C (kr_8_4 k0) d_Mo_step_24 h (fun h => ?_)
  refine wm_istore C d_Mo_step_25 (by decide) ?_
  refine wm_iload_n C d_Mo_step_27 rfl ?_
  refine wm_iconst (v := (5 : Int32)) C d_Mo_step_28 (by decide) ?_
  refine wk_icmp_ne (tgt := 44) C d_Mo_step_29 rfl h (fun _ h => ?_) (fun _ h => ?_)
  · refine wm_aload_n C d_Mo_step_32 rfl ?_
    refine gt_8_21 C k0 (ws_in iw_8) (ws_1 mw_2_9) d_Mo_step_33 ?_
    refine wm_iload C d_Mo_step_36 rfl ?_
    refine wk_iald C (kr_8_21 k0) d_Mo_step_38 h (fun h => ?_)
    refine wk_if_ne (tgt := 44) C d_Mo_step_39 rfl h (fun _ h => ?_) (fun _ h => ?_)
    · refine wm_iconst (v := (2 : Int32)) C d_Mo_step_42 (by decide) ?_
      exact E _ _ _ _ d_Mo_step_43 (wk_ret h)
    · refine wk_cut (c_44 a0 (g a0 20) (g (sh_r a0 1) ((g a0 20)).toNatClampNeg) (g (sh_r a0 2) ((g a0 20)).toNatClampNeg) (g (sh_r a0 4) ((g a0 20)).toNatClampNeg) k0 g h) ?_
      exact ⟨rfl, rfl, rfl, rfl, rfl, trivial⟩
  · refine wk_cut (c_44 a0 (g a0 20) (g (sh_r a0 1) ((g a0 20)).toNatClampNeg) (g (sh_r a0 2) ((g a0 20)).toNatClampNeg) (g (sh_r a0 4) ((g a0 20)).toNatClampNeg) k0 g h) ?_
    exact ⟨rfl, rfl, rfl, rfl, rfl, trivial⟩
/-! FactFlowModel.run(I)I -/
def mf_Mo_run_11  (g : wm_Sg) : Option (Int32 × wm_Sg) :=
  some ((-1 : Int32), g)
def mf_Mo_run_152 (b2 : Int32) (s0 : Int32) (s1 : Nat) (g : wm_Sg) : Option (Int32 × wm_Sg) :=
  some (b2, wm_u g s1 20 s0)
def mf_Mo_run_137 (b0 : Nat) (s0 : Int32) (g : wm_Sg) : Option (Int32 × wm_Sg) :=
  if s0 = (1 : Int32) then (mf_Mo_run_152 s0 (-1 : Int32) b0 g) else (mf_Mo_run_152 s0 (g b0 20) b0 g)
def mf_Mo_run_136 (b0 : Nat) (b2 : Int32) (g : wm_Sg) : Option (Int32 × wm_Sg) :=
  mf_Mo_run_137 b0 b2 g
def mf_Mo_run_117 (b0 : Nat) (b2 : Int32) (g : wm_Sg) : Option (Int32 × wm_Sg) :=
  if b2 = (0 : Int32) then (if (g b0 20) < (g b0 0) then (mf_Mo_run_136 b0 b2 g) else (mf_Mo_run_137 b0 (1 : Int32) g)) else (mf_Mo_run_136 b0 b2 g)
def mf_Mo_run_76 (b0 : Nat) (b1 : Int32) (K76 : Int32 × wm_Sg → Option (Int32 × wm_Sg)) (a : Int32 × wm_Sg) : Option (Int32 × wm_Sg) :=
  if a.1 = (0 : Int32) then (if (a.2 b0 0) ≤ (a.2 b0 20) then (mf_Mo_run_117 b0 a.1 a.2) else (if b1 ≤ (a.2 b0 19) then (mf_Mo_run_117 b0 a.1 a.2) else ((mf_Mo_step b0 a.2).bind fun v3 => K76 (v3.1, wm_u v3.2 b0 19 ((v3.2 b0 19) + (1 : Int32)))))) else (mf_Mo_run_117 b0 a.1 a.2)
def mf_Mo_run_55 (b0 : Nat) (b1 : Int32) (K55 : Int32 × wm_Sg → Option (Int32 × wm_Sg)) (a : Int32 × wm_Sg) : Option (Int32 × wm_Sg) :=
  if (40 : Int32) ≤ a.1 then (lp_it (mf_Mo_run_76 b0 b1) 2100 ((0 : Int32), a.2)) else (if a.1 < 0 ∨ sh_n (sh_r b0 23) ≤ (a.1).toNatClampNeg then none else K55 ((a.1 + (1 : Int32)), wm_u a.2 (sh_r b0 23) (a.1).toNatClampNeg (0 : Int32)))
def mf_Mo_run_35 (b0 : Nat) (b1 : Int32) (K35 : Int32 × wm_Sg → Option (Int32 × wm_Sg)) (a : Int32 × wm_Sg) : Option (Int32 × wm_Sg) :=
  if (4 : Int32) ≤ a.1 then (lp_it (mf_Mo_run_55 b0 b1) 2100 ((0 : Int32), a.2)) else (if a.1 < 0 ∨ sh_n (sh_r b0 21) ≤ (a.1).toNatClampNeg then none else K35 ((a.1 + (1 : Int32)), wm_u a.2 (sh_r b0 21) (a.1).toNatClampNeg (0 : Int32)))
def mf_Mo_run (a0 : Nat) (a1 : Int32) (g : wm_Sg) : Option (Int32 × wm_Sg) :=
  if a1 < (0 : Int32) then (mf_Mo_run_11 g) else (if a1 ≤ (2000 : Int32) then (lp_it (mf_Mo_run_35 a0 a1) 2100 ((0 : Int32), wm_u (wm_u (wm_u (wm_u g a0 19 (0 : Int32)) a0 20 (0 : Int32)) a0 22 (0 : Int32)) a0 24 (0 : Int32))) else (mf_Mo_run_11 g))
set_option maxHeartbeats 4000000 in
set_option maxRecDepth 100000 in
theorem mc_Mo_run {l : Launch} {G : wm_G} (a0 : Nat) (a1 : Int32) (g : wm_Sg) (v : (Int32 × wm_Sg)) (k0 : kd a0 = 8) (h : mf_Mo_run a0 a1 g = some v) : wm_Mi l G y_Mo_run ws_Mo_run 3 wm_n (wm_S G) [.ref (G.B + a0), .int a1] g (fun r u => r = v.1 ∧ u = v.2) := by
  refine wm_in_i (cc := c_Mo_run) (maxL := 3) (by decide) rfl (Nat.le_of_ble_eq_true rfl) (fun X C _ E => ?_)
  have c_11 : ∀ (g : wm_Sg), mf_Mo_run_11  g = some v → wm_W G X 3 0 0 wm_n (wm_S G) g 11 [] [] := by
    intro g h
    unfold mf_Mo_run_11 at h
    refine wm_iconst (v := (-1 : Int32)) C d_Mo_run_11 (by decide) ?_
    exact E _ _ _ _ d_Mo_run_12 (wk_ret h)
  have c_152 : ∀ (b2 : Int32) (s0 : Int32) (s1 : Nat) (ks1 : kd s1 = 8) (g : wm_Sg), mf_Mo_run_152 b2 s0 s1 g = some v → wm_W G X 3 0 0 wm_n (wm_S G) g 152 [(2, .int b2)] [.int s0, .ref (G.B + s1)] := by
    intro b2 s0 s1 ks1 g h
    unfold mf_Mo_run_152 at h
    refine pt_8_20 C ks1 (ws_in iw_8) (ws_1 mw_2_8) d_Mo_run_152 ?_
    refine wm_iload_n C d_Mo_run_155 rfl ?_
    exact E _ _ _ _ d_Mo_run_156 (wk_ret h)
  have c_137 : ∀ (b0 : Nat) (s0 : Int32) (k0 : kd b0 = 8) (g : wm_Sg), mf_Mo_run_137 b0 s0 g = some v → wm_W G X 3 0 0 wm_n (wm_S G) g 137 [(0, .ref (G.B + b0))] [.int s0] := by
    intro b0 s0 k0 g h
    unfold mf_Mo_run_137 at h
    refine wm_istore_n C d_Mo_run_137 (by decide) ?_
    refine wm_aload_n C d_Mo_run_138 rfl ?_
    refine wm_iload_n C d_Mo_run_139 rfl ?_
    refine wm_iconst (v := (1 : Int32)) C d_Mo_run_140 (by decide) ?_
    refine wk_icmp_ne (tgt := 148) C d_Mo_run_141 rfl h (fun _ h => ?_) (fun _ h => ?_)
    · refine wm_iconst (v := (-1 : Int32)) C d_Mo_run_144 (by decide) ?_
      refine wm_goto (tgt := 152) C d_Mo_run_145 rfl ?_
      refine wk_cut (c_152 s0 (-1 : Int32) b0 k0 g h) ?_
      exact ⟨rfl, trivial⟩
    · refine wm_aload_n C d_Mo_run_148 rfl ?_
      refine gt_8_20 C k0 (ws_in iw_8) (ws_1 mw_2_8) d_Mo_run_149 ?_
      refine wk_cut (c_152 s0 (g b0 20) b0 k0 g h) ?_
      exact ⟨rfl, trivial⟩
  have c_136 : ∀ (b0 : Nat) (b2 : Int32) (k0 : kd b0 = 8) (g : wm_Sg), mf_Mo_run_136 b0 b2 g = some v → wm_W G X 3 0 0 wm_n (wm_S G) g 136 [(0, .ref (G.B + b0)), (2, .int b2)] [] := by
    intro b0 b2 k0 g h
    unfold mf_Mo_run_136 at h
    refine wm_iload_n C d_Mo_run_136 rfl ?_
    refine wk_cut (c_137 b0 b2 k0 g h) ?_
    exact ⟨rfl, trivial⟩
  have c_117 : ∀ (b0 : Nat) (b2 : Int32) (k0 : kd b0 = 8) (g : wm_Sg), mf_Mo_run_117 b0 b2 g = some v → wm_W G X 3 0 0 wm_n (wm_S G) g 117 [(0, .ref (G.B + b0)), (2, .int b2)] [] := by
    intro b0 b2 k0 g h
    unfold mf_Mo_run_117 at h
    refine wm_iload_n C d_Mo_run_117 rfl ?_
    refine wk_if_ne (tgt := 136) C d_Mo_run_118 rfl h (fun _ h => ?_) (fun _ h => ?_)
    · refine wm_aload_n C d_Mo_run_121 rfl ?_
      refine gt_8_20 C k0 (ws_in iw_8) (ws_1 mw_2_8) d_Mo_run_122 ?_
      refine wm_aload_n C d_Mo_run_125 rfl ?_
      refine gt_8_0 C k0 (ws_in iw_8) (ws_1 mw_1_228) d_Mo_run_126 ?_
      refine wk_icmp_lt (tgt := 136) C d_Mo_run_129 rfl h (fun _ h => ?_) (fun _ h => ?_)
      · refine wk_cut (c_136 b0 b2 k0 g h) ?_
        exact ⟨rfl, rfl, trivial⟩
      · refine wm_iconst (v := (1 : Int32)) C d_Mo_run_132 (by decide) ?_
        refine wm_goto (tgt := 137) C d_Mo_run_133 rfl ?_
        refine wk_cut (c_137 b0 (1 : Int32) k0 g h) ?_
        exact ⟨rfl, trivial⟩
    · refine wk_cut (c_136 b0 b2 k0 g h) ?_
      exact ⟨rfl, rfl, trivial⟩
  have c_76 : ∀ (b0 : Nat) (b1 : Int32) (k0 : kd b0 = 8) (f : Nat) (a : Int32 × wm_Sg), lp_it (mf_Mo_run_76 b0 b1) f a = some v → wm_W G X 3 0 0 wm_n (wm_S G) a.2 76 [(0, .ref (G.B + b0)), (1, .int b1), (2, .int a.1)] [] := by
    intro b0 b1 k0 f
    induction f with
    | zero => intro a h; cases h
    | succ f hK76 =>
      intro a h
      have h : mf_Mo_run_76 b0 b1 (lp_it (mf_Mo_run_76 b0 b1) f) a = some v := h
      unfold mf_Mo_run_76 at h
      refine wm_iload_n C d_Mo_run_76 rfl ?_
      refine wk_if_ne (tgt := 117) C d_Mo_run_77 rfl h (fun _ h => ?_) (fun _ h => ?_)
      · refine wm_aload_n C d_Mo_run_80 rfl ?_
        refine gt_8_20 C k0 (ws_in iw_8) (ws_1 mw_2_8) d_Mo_run_81 ?_
        refine wm_aload_n C d_Mo_run_84 rfl ?_
        refine gt_8_0 C k0 (ws_in iw_8) (ws_1 mw_1_228) d_Mo_run_85 ?_
        refine wk_icmp_ge (tgt := 117) C d_Mo_run_88 rfl h (fun _ h => ?_) (fun _ h => ?_)
        · refine wk_cut (c_117 b0 a.1 k0 a.2 h) ?_
          exact ⟨rfl, rfl, trivial⟩
        · refine wm_aload_n C d_Mo_run_91 rfl ?_
          refine gt_8_19 C k0 (ws_in iw_8) (ws_1 mw_2_7) d_Mo_run_92 ?_
          refine wm_iload_n C d_Mo_run_95 rfl ?_
          refine wk_icmp_ge (tgt := 117) C d_Mo_run_96 rfl h (fun _ h => ?_) (fun _ h => ?_)
          · refine wk_cut (c_117 b0 a.1 k0 a.2 h) ?_
            exact ⟨rfl, rfl, trivial⟩
          · refine wm_aload_n C d_Mo_run_99 rfl ?_
            refine wk_bind h (fun v3 e3 h => wm_cVi (ci := 8) (q := (Rn_8, Tn_8, 25)) (na := 0) C (mc_Mo_step b0 a.2 v3 k0 e3) (gc_Mo_step mw_2_225) (kd_lt (by rw [k0]; decide)) rfl ⟨_, wm_S_8 k0 _⟩ rfl rfl (by decide +kernel) rfl (by decide) (by decide) d_Mo_run_100 rfl (Nat.le_of_ble_eq_true rfl) (Nat.zero_le _) (Nat.zero_le _) (fun r3 u3 q3 => ?_))
            obtain ⟨rfl, rfl⟩ := q3
            refine wm_istore_n C d_Mo_run_103 (by decide) ?_
            refine wm_aload_n C d_Mo_run_104 rfl ?_
            refine wm_dup C d_Mo_run_105 rfl ?_
            refine gt_8_19 C k0 (ws_in iw_8) (ws_1 mw_2_7) d_Mo_run_106 ?_
            refine wm_iconst (v := (1 : Int32)) C d_Mo_run_109 (by decide) ?_
            refine wm_iadd C d_Mo_run_110 ?_
            refine pt_8_19 C k0 (ws_in iw_8) (ws_1 mw_2_7) d_Mo_run_111 ?_
            refine wm_goto (tgt := 76) C d_Mo_run_114 rfl ?_
            refine wk_cut (hK76 (v3.1, wm_u v3.2 b0 19 ((v3.2 b0 19) + (1 : Int32))) h) ?_
            exact ⟨rfl, rfl, rfl, trivial⟩
      · refine wk_cut (c_117 b0 a.1 k0 a.2 h) ?_
        exact ⟨rfl, rfl, trivial⟩
  have c_55 : ∀ (b0 : Nat) (b1 : Int32) (k0 : kd b0 = 8) (f : Nat) (a : Int32 × wm_Sg), lp_it (mf_Mo_run_55 b0 b1) f a = some v → wm_W G X 3 0 0 wm_n (wm_S G) a.2 55 [(0, .ref (G.B + b0)), (1, .int b1), (2, .int a.1)] [] := by
    intro b0 b1 k0 f
    induction f with
    | zero => intro a h; cases h
    | succ f hK55 =>
      intro a h
      have h : mf_Mo_run_55 b0 b1 (lp_it (mf_Mo_run_55 b0 b1) f) a = some v := h
      unfold mf_Mo_run_55 at h
      refine wm_iload_n C d_Mo_run_55 rfl ?_
      refine wm_bipush (v := (40 : Int32)) C d_Mo_run_56 (by decide) ?_
      refine wk_icmp_ge (tgt := 74) C d_Mo_run_58 rfl h (fun _ h => ?_) (fun _ h => ?_)
      · refine wm_iconst (v := (0 : Int32)) C d_Mo_run_74 (by decide) ?_
        refine wm_istore_n C d_Mo_run_75 (by decide) ?_
        refine wk_cut (c_76 b0 b1 k0 2100 ((0 : Int32), a.2) h) ?_
        exact ⟨rfl, rfl, rfl, trivial⟩
      · refine wm_aload_n C d_Mo_run_61 rfl ?_
        refine gt_8_23 C k0 (ws_in iw_8) (ws_1 mw_2_11) d_Mo_run_62 ?_
        refine wm_iload_n C d_Mo_run_65 rfl ?_
        refine wm_iconst (v := (0 : Int32)) C d_Mo_run_66 (by decide) ?_
        refine wk_iast C (kr_8_23 k0) d_Mo_run_67 h (fun h => ?_)
        refine wk_iinc C (1 : Int32) d_Mo_run_68 (by decide) rfl (by decide) ?_
        refine wm_goto (tgt := 55) C d_Mo_run_71 rfl ?_
        refine wk_cut (hK55 ((a.1 + (1 : Int32)), wm_u a.2 (sh_r b0 23) (a.1).toNatClampNeg (0 : Int32)) h) ?_
        exact ⟨rfl, rfl, rfl, trivial⟩
  have c_35 : ∀ (b0 : Nat) (b1 : Int32) (k0 : kd b0 = 8) (f : Nat) (a : Int32 × wm_Sg), lp_it (mf_Mo_run_35 b0 b1) f a = some v → wm_W G X 3 0 0 wm_n (wm_S G) a.2 35 [(0, .ref (G.B + b0)), (1, .int b1), (2, .int a.1)] [] := by
    intro b0 b1 k0 f
    induction f with
    | zero => intro a h; cases h
    | succ f hK35 =>
      intro a h
      have h : mf_Mo_run_35 b0 b1 (lp_it (mf_Mo_run_35 b0 b1) f) a = some v := h
      unfold mf_Mo_run_35 at h
      refine wm_iload_n C d_Mo_run_35 rfl ?_
      refine wm_iconst (v := (4 : Int32)) C d_Mo_run_36 (by decide) ?_
      refine wk_icmp_ge (tgt := 53) C d_Mo_run_37 rfl h (fun _ h => ?_) (fun _ h => ?_)
      · refine wm_iconst (v := (0 : Int32)) C d_Mo_run_53 (by decide) ?_
        refine wm_istore_n C d_Mo_run_54 (by decide) ?_
        refine wk_cut (c_55 b0 b1 k0 2100 ((0 : Int32), a.2) h) ?_
        exact ⟨rfl, rfl, rfl, trivial⟩
      · refine wm_aload_n C d_Mo_run_40 rfl ?_
        refine gt_8_21 C k0 (ws_in iw_8) (ws_1 mw_2_9) d_Mo_run_41 ?_
        refine wm_iload_n C d_Mo_run_44 rfl ?_
        refine wm_iconst (v := (0 : Int32)) C d_Mo_run_45 (by decide) ?_
        refine wk_iast C (kr_8_21 k0) d_Mo_run_46 h (fun h => ?_)
        refine wk_iinc C (1 : Int32) d_Mo_run_47 (by decide) rfl (by decide) ?_
        refine wm_goto (tgt := 35) C d_Mo_run_50 rfl ?_
        refine wk_cut (hK35 ((a.1 + (1 : Int32)), wm_u a.2 (sh_r b0 21) (a.1).toNatClampNeg (0 : Int32)) h) ?_
        exact ⟨rfl, rfl, rfl, trivial⟩
  unfold mf_Mo_run at h
  refine wm_iload_n C d_Mo_run_0 rfl ?_
  refine wk_if_lt (tgt := 11) C d_Mo_run_1 rfl h (fun _ h => ?_) (fun _ h => ?_)
  · refine wk_cut (c_11 g h) ?_
    exact trivial
  · refine wm_iload_n C d_Mo_run_4 rfl ?_
    refine wm_sipush (v := (2000 : Int32)) C d_Mo_run_5 (by decide) ?_
    refine wk_icmp_le (tgt := 13) C d_Mo_run_8 rfl h (fun _ h => ?_) (fun _ h => ?_)
    · refine wm_aload_n C d_Mo_run_13 rfl ?_
      refine wm_iconst (v := (0 : Int32)) C d_Mo_run_14 (by decide) ?_
      refine pt_8_19 C k0 (ws_in iw_8) (ws_1 mw_2_7) d_Mo_run_15 ?_
      refine wm_aload_n C d_Mo_run_18 rfl ?_
      refine wm_iconst (v := (0 : Int32)) C d_Mo_run_19 (by decide) ?_
      refine pt_8_20 C k0 (ws_in iw_8) (ws_1 mw_2_8) d_Mo_run_20 ?_
      refine wm_aload_n C d_Mo_run_23 rfl ?_
      refine wm_iconst (v := (0 : Int32)) C d_Mo_run_24 (by decide) ?_
      refine pt_8_22 C k0 (ws_in iw_8) (ws_1 mw_2_10) d_Mo_run_25 ?_
      refine wm_aload_n C d_Mo_run_28 rfl ?_
      refine wm_iconst (v := (0 : Int32)) C d_Mo_run_29 (by decide) ?_
      refine pt_8_24 C k0 (ws_in iw_8) (ws_1 mw_2_12) d_Mo_run_30 ?_
      refine wm_iconst (v := (0 : Int32)) C d_Mo_run_33 (by decide) ?_
      refine wm_istore_n C d_Mo_run_34 (by decide) ?_
      refine wk_cut (c_35 a0 a1 k0 2100 ((0 : Int32), wm_u (wm_u (wm_u (wm_u g a0 19 (0 : Int32)) a0 20 (0 : Int32)) a0 22 (0 : Int32)) a0 24 (0 : Int32)) h) ?_
      exact ⟨rfl, rfl, rfl, trivial⟩
    · refine wk_cut (c_11 g h) ?_
      exact trivial
/-! FactFlowModel.steps()I -/
def mf_Mo_steps (a0 : Nat) (g : wm_Sg) : Option (Int32 × wm_Sg) :=
  some ((g a0 19), g)
set_option maxHeartbeats 4000000 in
set_option maxRecDepth 100000 in
theorem mc_Mo_steps {l : Launch} {G : wm_G} (a0 : Nat) (g : wm_Sg) (v : (Int32 × wm_Sg)) (k0 : kd a0 = 8) (h : mf_Mo_steps a0 g = some v) : wm_Mi l G y_Mo_steps ws_Mo_steps 0 wm_n (wm_S G) [.ref (G.B + a0)] g (fun r u => r = v.1 ∧ u = v.2) := by
  refine wm_in_i (cc := c_Mo_steps) (maxL := 1) (by decide) rfl (Nat.le_of_ble_eq_true rfl) (fun X C _ E => ?_)
  unfold mf_Mo_steps at h
  refine wm_aload_n C d_Mo_steps_0 rfl ?_
  refine gt_8_19 C k0 (ws_in iw_8) (ws_1 mw_2_7) d_Mo_steps_1 ?_
  exact E _ _ _ _ d_Mo_steps_4 (wk_ret h)
/-! FactFlowModel.next()I -/
def mf_Mo_next (a0 : Nat) (g : wm_Sg) : Option (Int32 × wm_Sg) :=
  some ((g a0 20), g)
set_option maxHeartbeats 4000000 in
set_option maxRecDepth 100000 in
theorem mc_Mo_next {l : Launch} {G : wm_G} (a0 : Nat) (g : wm_Sg) (v : (Int32 × wm_Sg)) (k0 : kd a0 = 8) (h : mf_Mo_next a0 g = some v) : wm_Mi l G y_Mo_next ws_Mo_next 0 wm_n (wm_S G) [.ref (G.B + a0)] g (fun r u => r = v.1 ∧ u = v.2) := by
  refine wm_in_i (cc := c_Mo_next) (maxL := 1) (by decide) rfl (Nat.le_of_ble_eq_true rfl) (fun X C _ E => ?_)
  unfold mf_Mo_next at h
  refine wm_aload_n C d_Mo_next_0 rfl ?_
  refine gt_8_20 C k0 (ws_in iw_8) (ws_1 mw_2_8) d_Mo_next_1 ?_
  exact E _ _ _ _ d_Mo_next_4 (wk_ret h)
/-! FactFlowModel.variable(I)I -/
def mf_Mo_variable_17 (s0 : Int32) (g : wm_Sg) : Option (Int32 × wm_Sg) :=
  some (s0, g)
def mf_Mo_variable (a0 : Nat) (a1 : Int32) (g : wm_Sg) : Option (Int32 × wm_Sg) :=
  (mf_Mo_isVariable a1 g).bind fun v2 => if v2.1 = (0 : Int32) then (mf_Mo_variable_17 (0 : Int32) v2.2) else (if a1 < 0 ∨ sh_n (sh_r a0 21) ≤ (a1).toNatClampNeg then none else mf_Mo_variable_17 (v2.2 (sh_r a0 21) (a1).toNatClampNeg) v2.2)
set_option maxHeartbeats 4000000 in
set_option maxRecDepth 100000 in
theorem mc_Mo_variable {l : Launch} {G : wm_G} (a0 : Nat) (a1 : Int32) (g : wm_Sg) (v : (Int32 × wm_Sg)) (k0 : kd a0 = 8) (h : mf_Mo_variable a0 a1 g = some v) : wm_Mi l G y_Mo_variable ws_Mo_variable 1 wm_n (wm_S G) [.ref (G.B + a0), .int a1] g (fun r u => r = v.1 ∧ u = v.2) := by
  refine wm_in_i (cc := c_Mo_variable) (maxL := 2) (by decide) rfl (Nat.le_of_ble_eq_true rfl) (fun X C _ E => ?_)
  have c_17 : ∀ (s0 : Int32) (g : wm_Sg), mf_Mo_variable_17  s0 g = some v → wm_W G X 2 0 0 wm_n (wm_S G) g 17 [] [.int s0] := by
    intro s0 g h
    unfold mf_Mo_variable_17 at h
    exact E _ _ _ _ d_Mo_variable_17 (wk_ret h)
  unfold mf_Mo_variable at h
  refine wm_iload_n C d_Mo_variable_0 rfl ?_
  refine wk_bind h (fun v2 e2 h => wm_cSi (na := 1) C (mc_Mo_isVariable a1 g v2 e2) (gc_Mo_isVariable mw_2_74) rfl (by decide +kernel) rfl (by decide) (by decide) d_Mo_variable_1 rfl (Nat.le_of_ble_eq_true rfl) (Nat.zero_le _) (Nat.zero_le _) (fun r2 u2 q2 => ?_))
  obtain ⟨rfl, rfl⟩ := q2
  refine wk_if_eq (tgt := 16) C d_Mo_variable_4 rfl h (fun _ h => ?_) (fun _ h => ?_)
  · refine wm_iconst (v := (0 : Int32)) C d_Mo_variable_16 (by decide) ?_
    refine wk_cut (c_17 (0 : Int32) v2.2 h) ?_
    exact trivial
  · refine wm_aload_n C d_Mo_variable_7 rfl ?_
    refine gt_8_21 C k0 (ws_in iw_8) (ws_1 mw_2_9) d_Mo_variable_8 ?_
    refine wm_iload_n C d_Mo_variable_11 rfl ?_
    refine wk_iald C (kr_8_21 k0) d_Mo_variable_12 h (fun h => ?_)
    refine wm_goto (tgt := 17) C d_Mo_variable_13 rfl ?_
    refine wk_cut (c_17 (v2.2 (sh_r a0 21) (a1).toNatClampNeg) v2.2 h) ?_
    exact trivial
/-! FactFlowModel.outputs()I -/
def mf_Mo_outputs (a0 : Nat) (g : wm_Sg) : Option (Int32 × wm_Sg) :=
  some ((g a0 22), g)
set_option maxHeartbeats 4000000 in
set_option maxRecDepth 100000 in
theorem mc_Mo_outputs {l : Launch} {G : wm_G} (a0 : Nat) (g : wm_Sg) (v : (Int32 × wm_Sg)) (k0 : kd a0 = 8) (h : mf_Mo_outputs a0 g = some v) : wm_Mi l G y_Mo_outputs ws_Mo_outputs 0 wm_n (wm_S G) [.ref (G.B + a0)] g (fun r u => r = v.1 ∧ u = v.2) := by
  refine wm_in_i (cc := c_Mo_outputs) (maxL := 1) (by decide) rfl (Nat.le_of_ble_eq_true rfl) (fun X C _ E => ?_)
  unfold mf_Mo_outputs at h
  refine wm_aload_n C d_Mo_outputs_0 rfl ?_
  refine gt_8_22 C k0 (ws_in iw_8) (ws_1 mw_2_10) d_Mo_outputs_1 ?_
  exact E _ _ _ _ d_Mo_outputs_4 (wk_ret h)
/-! FactFlowModel.output(I)I -/
def mf_Mo_output_20 (s0 : Int32) (g : wm_Sg) : Option (Int32 × wm_Sg) :=
  some (s0, g)
def mf_Mo_output_10  (g : wm_Sg) : Option (Int32 × wm_Sg) :=
  mf_Mo_output_20 (0 : Int32) g
def mf_Mo_output (a0 : Nat) (a1 : Int32) (g : wm_Sg) : Option (Int32 × wm_Sg) :=
  if a1 < (0 : Int32) then (mf_Mo_output_10 g) else (if a1 ≤ (39 : Int32) then (if a1 < 0 ∨ sh_n (sh_r a0 23) ≤ (a1).toNatClampNeg then none else mf_Mo_output_20 (g (sh_r a0 23) (a1).toNatClampNeg) g) else (mf_Mo_output_10 g))
set_option maxHeartbeats 4000000 in
set_option maxRecDepth 100000 in
theorem mc_Mo_output {l : Launch} {G : wm_G} (a0 : Nat) (a1 : Int32) (g : wm_Sg) (v : (Int32 × wm_Sg)) (k0 : kd a0 = 8) (h : mf_Mo_output a0 a1 g = some v) : wm_Mi l G y_Mo_output ws_Mo_output 0 wm_n (wm_S G) [.ref (G.B + a0), .int a1] g (fun r u => r = v.1 ∧ u = v.2) := by
  refine wm_in_i (cc := c_Mo_output) (maxL := 2) (by decide) rfl (Nat.le_of_ble_eq_true rfl) (fun X C _ E => ?_)
  have c_20 : ∀ (s0 : Int32) (g : wm_Sg), mf_Mo_output_20  s0 g = some v → wm_W G X 2 0 0 wm_n (wm_S G) g 20 [] [.int s0] := by
    intro s0 g h
    unfold mf_Mo_output_20 at h
    exact E _ _ _ _ d_Mo_output_20 (wk_ret h)
  have c_10 : ∀ (g : wm_Sg), mf_Mo_output_10  g = some v → wm_W G X 2 0 0 wm_n (wm_S G) g 10 [] [] := by
    intro g h
    unfold mf_Mo_output_10 at h
    refine wm_iconst (v := (0 : Int32)) C d_Mo_output_10 (by decide) ?_
    refine wm_goto (tgt := 20) C d_Mo_output_11 rfl ?_
    refine wk_cut (c_20 (0 : Int32) g h) ?_
    exact trivial
  unfold mf_Mo_output at h
  refine wm_iload_n C d_Mo_output_0 rfl ?_
  refine wk_if_lt (tgt := 10) C d_Mo_output_1 rfl h (fun _ h => ?_) (fun _ h => ?_)
  · refine wk_cut (c_10 g h) ?_
    exact trivial
  · refine wm_iload_n C d_Mo_output_4 rfl ?_
    refine wm_bipush (v := (39 : Int32)) C d_Mo_output_5 (by decide) ?_
    refine wk_icmp_le (tgt := 14) C d_Mo_output_7 rfl h (fun _ h => ?_) (fun _ h => ?_)
    · refine wm_aload_n C d_Mo_output_14 rfl ?_
      refine gt_8_23 C k0 (ws_in iw_8) (ws_1 mw_2_11) d_Mo_output_15 ?_
      refine wm_iload_n C d_Mo_output_18 rfl ?_
      refine wk_iald C (kr_8_23 k0) d_Mo_output_19 h (fun h => ?_)
      refine wk_cut (c_20 (g (sh_r a0 23) (a1).toNatClampNeg) g h) ?_
      exact trivial
    · refine wk_cut (c_10 g h) ?_
      exact trivial
