/-! FactFlowModel.add(IIII)I -/
def mf_Mo_add (a0 : Nat) (a1 : Int32) (a2 : Int32) (a3 : Int32) (a4 : Int32) (g : wm_Sg) : Option (Int32 × wm_Sg) :=
  (mf_Mo_wrong a1 a2 a3 a4 g).bind fun v3 => if v3.1 = (0 : Int32) then (if (v3.2 a0 0) = (24 : Int32) then (some ((-2 : Int32), v3.2)) else ((mf_Mo_place a0 (v3.2 a0 0) a1 a2 a3 a4 v3.2).bind fun v4 => some ((((wm_u (wm_u v4.2 a0 5 (0 : Int32)) a0 0 (((wm_u v4.2 a0 5 (0 : Int32)) a0 0) + (1 : Int32))) a0 0) - (1 : Int32)), wm_u (wm_u v4.2 a0 5 (0 : Int32)) a0 0 (((wm_u v4.2 a0 5 (0 : Int32)) a0 0) + (1 : Int32))))) else (some ((-1 : Int32), v3.2))
set_option maxHeartbeats 4000000 in
set_option maxRecDepth 100000 in
theorem mc_Mo_add {l : Launch} {G : wm_G} (a0 : Nat) (a1 : Int32) (a2 : Int32) (a3 : Int32) (a4 : Int32) (g : wm_Sg) (v : (Int32 × wm_Sg)) (k0 : kd a0 = 8) (h : mf_Mo_add a0 a1 a2 a3 a4 g = some v) : wm_Mi l G y_Mo_add ws_Mo_add 3 wm_n (wm_S G) [.ref (G.B + a0), .int a1, .int a2, .int a3, .int a4] g (fun r u => r = v.1 ∧ u = v.2) := by
  refine wm_in_i (cc := c_Mo_add) (maxL := 5) (by decide) rfl (Nat.le_of_ble_eq_true rfl) (fun X C _ E => ?_)
  unfold mf_Mo_add at h
  refine wm_iload_n C d_Mo_add_0 rfl ?_
  refine wm_iload_n C d_Mo_add_1 rfl ?_
  refine wm_iload_n C d_Mo_add_2 rfl ?_
  refine wm_iload C d_Mo_add_3 rfl ?_
  refine wk_bind h (fun v3 e3 h => wm_cSi (na := 4) C (mc_Mo_wrong a1 a2 a3 a4 g v3 e3) (gc_Mo_wrong mw_2_68) rfl (by decide +kernel) rfl (by decide) (by decide) d_Mo_add_5 rfl (Nat.le_of_ble_eq_true rfl) (Nat.zero_le _) (Nat.zero_le _) (fun r3 u3 q3 => ?_))
  obtain ⟨rfl, rfl⟩ := q3
  refine wk_if_eq (tgt := 13) C d_Mo_add_8 rfl h (fun _ h => ?_) (fun _ h => ?_)
  · refine wm_aload_n C d_Mo_add_13 rfl ?_
    refine gt_8_0 C k0 (ws_in iw_8) (ws_1 mw_1_228) d_Mo_add_14 ?_
    refine wm_bipush (v := (24 : Int32)) C d_Mo_add_17 (by decide) ?_
    refine wk_icmp_ne (tgt := 25) C d_Mo_add_19 rfl h (fun _ h => ?_) (fun _ h => ?_)
    · refine wm_bipush (v := (-2 : Int32)) C d_Mo_add_22 (by decide) ?_
      exact E _ _ _ _ d_Mo_add_24 (wk_ret h)
    · refine wm_aload_n C d_Mo_add_25 rfl ?_
      refine wm_aload_n C d_Mo_add_26 rfl ?_
      refine gt_8_0 C k0 (ws_in iw_8) (ws_1 mw_1_228) d_Mo_add_27 ?_
      refine wm_iload_n C d_Mo_add_30 rfl ?_
      refine wm_iload_n C d_Mo_add_31 rfl ?_
      refine wm_iload_n C d_Mo_add_32 rfl ?_
      refine wm_iload C d_Mo_add_33 rfl ?_
      refine wk_bind h (fun v4 e4 h => wm_cVi (ci := 8) (q := (Rn_8, Tn_8, 25)) (na := 5) C (mc_Mo_place a0 (v3.2 a0 0) a1 a2 a3 a4 v3.2 v4 k0 e4) (gc_Mo_place mw_2_83) (kd_lt (by rw [k0]; decide)) rfl ⟨_, wm_S_8 k0 _⟩ rfl rfl (by decide +kernel) rfl (by decide) (by decide) d_Mo_add_35 rfl (Nat.le_of_ble_eq_true rfl) (Nat.zero_le _) (Nat.zero_le _) (fun r4 u4 q4 => ?_))
      obtain ⟨rfl, rfl⟩ := q4
      refine wm_pop C d_Mo_add_38 rfl ?_
      refine wm_aload_n C d_Mo_add_39 rfl ?_
      refine wm_iconst (v := (0 : Int32)) C d_Mo_add_40 (by decide) ?_
      refine pt_8_5 C k0 (Or.inl rfl) (ws_in iw_8) (ws_1 mw_1_233) d_Mo_add_41 ?_
      refine wm_aload_n C d_Mo_add_44 rfl ?_
      refine wm_dup C d_Mo_add_45 rfl ?_
      refine gt_8_0 C k0 (ws_in iw_8) (ws_1 mw_1_228) d_Mo_add_46 ?_
      refine wm_iconst (v := (1 : Int32)) C d_Mo_add_49 (by decide) ?_
      refine wm_iadd C d_Mo_add_50 ?_
      refine pt_8_0 C k0 (ws_in iw_8) (ws_1 mw_1_228) d_Mo_add_51 ?_
      refine wm_aload_n C d_Mo_add_54 rfl ?_
      refine gt_8_0 C k0 (ws_in iw_8) (ws_1 mw_1_228) d_Mo_add_55 ?_
      refine wm_iconst (v := (1 : Int32)) C d_Mo_add_58 (by decide) ?_
      refine wm_isub C d_Mo_add_59 ?_
      exact E _ _ _ _ d_Mo_add_60 (wk_ret h)
  · refine wm_iconst (v := (-1 : Int32)) C d_Mo_add_11 (by decide) ?_
    exact E _ _ _ _ d_Mo_add_12 (wk_ret h)
/-! FactFlowModel.none(I)Z -/
def mf_Mo_none_17 (s0 : Int32) (g : wm_Sg) : Option (Int32 × wm_Sg) :=
  if s0 = 0 ∨ s0 = 1 then some (s0, g) else none
def mf_Mo_none_12  (g : wm_Sg) : Option (Int32 × wm_Sg) :=
  mf_Mo_none_17 (1 : Int32) g
def mf_Mo_none (a0 : Nat) (a1 : Int32) (g : wm_Sg) : Option (Int32 × wm_Sg) :=
  if a1 < (0 : Int32) then (mf_Mo_none_12 g) else (if a1 < (g a0 0) then (mf_Mo_none_17 (0 : Int32) g) else (mf_Mo_none_12 g))
set_option maxHeartbeats 4000000 in
set_option maxRecDepth 100000 in
theorem mc_Mo_none {l : Launch} {G : wm_G} (a0 : Nat) (a1 : Int32) (g : wm_Sg) (v : (Int32 × wm_Sg)) (k0 : kd a0 = 8) (h : mf_Mo_none a0 a1 g = some v) : wm_Mi l G y_Mo_none ws_Mo_none 0 wm_n (wm_S G) [.ref (G.B + a0), .int a1] g (fun r u => r = v.1 ∧ u = v.2) := by
  refine wm_in_z (cc := c_Mo_none) (maxL := 2) (by decide) rfl (Nat.le_of_ble_eq_true rfl) (fun X C _ E => ?_)
  have c_17 : ∀ (s0 : Int32) (g : wm_Sg), mf_Mo_none_17  s0 g = some v → wm_W G X 2 0 0 wm_n (wm_S G) g 17 [] [.int s0] := by
    intro s0 g h
    unfold mf_Mo_none_17 at h
    exact wk_yes h (fun q h => E _ _ _ _ d_Mo_none_17 (wk_nar q) (wk_ret h))
  have c_12 : ∀ (g : wm_Sg), mf_Mo_none_12  g = some v → wm_W G X 2 0 0 wm_n (wm_S G) g 12 [] [] := by
    intro g h
    unfold mf_Mo_none_12 at h
    refine wm_iconst (v := (1 : Int32)) C d_Mo_none_12 (by decide) ?_
    refine wm_goto (tgt := 17) C d_Mo_none_13 rfl ?_
    refine wk_cut (c_17 (1 : Int32) g h) ?_
    exact trivial
  unfold mf_Mo_none at h
  refine wm_iload_n C d_Mo_none_0 rfl ?_
  refine wk_if_lt (tgt := 12) C d_Mo_none_1 rfl h (fun _ h => ?_) (fun _ h => ?_)
  · refine wk_cut (c_12 g h) ?_
    exact trivial
  · refine wm_iload_n C d_Mo_none_4 rfl ?_
    refine wm_aload_n C d_Mo_none_5 rfl ?_
    refine gt_8_0 C k0 (ws_in iw_8) (ws_1 mw_1_228) d_Mo_none_6 ?_
    refine wk_icmp_lt (tgt := 16) C d_Mo_none_9 rfl h (fun _ h => ?_) (fun _ h => ?_)
    · refine wm_iconst (v := (0 : Int32)) C d_Mo_none_16 (by decide) ?_
      refine wk_cut (c_17 (0 : Int32) g h) ?_
      exact trivial
    · refine wk_cut (c_12 g h) ?_
      exact trivial
/-! FactFlowModel.put(IIIII)Z -/
def mf_Mo_put_20  (g : wm_Sg) : Option (Int32 × wm_Sg) :=
  some ((0 : Int32), g)
def mf_Mo_put (a0 : Nat) (a1 : Int32) (a2 : Int32) (a3 : Int32) (a4 : Int32) (a5 : Int32) (g : wm_Sg) : Option (Int32 × wm_Sg) :=
  (mf_Mo_none a0 a1 g).bind fun v4 => if v4.1 = (0 : Int32) then ((mf_Mo_wrong a2 a3 a4 a5 v4.2).bind fun v5 => if v5.1 = (0 : Int32) then ((mf_Mo_place a0 a1 a2 a3 a4 a5 v5.2).bind fun v6 => some ((1 : Int32), wm_u v6.2 a0 5 (0 : Int32))) else (mf_Mo_put_20 v5.2)) else (mf_Mo_put_20 v4.2)
set_option maxHeartbeats 4000000 in
set_option maxRecDepth 100000 in
theorem mc_Mo_put {l : Launch} {G : wm_G} (a0 : Nat) (a1 : Int32) (a2 : Int32) (a3 : Int32) (a4 : Int32) (a5 : Int32) (g : wm_Sg) (v : (Int32 × wm_Sg)) (k0 : kd a0 = 8) (h : mf_Mo_put a0 a1 a2 a3 a4 a5 g = some v) : wm_Mi l G y_Mo_put ws_Mo_put 3 wm_n (wm_S G) [.ref (G.B + a0), .int a1, .int a2, .int a3, .int a4, .int a5] g (fun r u => r = v.1 ∧ u = v.2) := by
  refine wm_in_z (cc := c_Mo_put) (maxL := 6) (by decide) rfl (Nat.le_of_ble_eq_true rfl) (fun X C _ E => ?_)
  have c_20 : ∀ (g : wm_Sg), mf_Mo_put_20  g = some v → wm_W G X 6 0 0 wm_n (wm_S G) g 20 [] [] := by
    intro g h
    unfold mf_Mo_put_20 at h
    refine wm_iconst (v := (0 : Int32)) C d_Mo_put_20 (by decide) ?_
    exact E _ _ _ _ d_Mo_put_21 rfl (wk_ret h)
  unfold mf_Mo_put at h
  refine wm_aload_n C d_Mo_put_0 rfl ?_
  refine wm_iload_n C d_Mo_put_1 rfl ?_
  refine wk_bind h (fun v4 e4 h => wm_cVi (ci := 8) (q := (Rn_8, Tn_8, 25)) (na := 1) C (mc_Mo_none a0 a1 g v4 k0 e4) (gc_Mo_none mw_2_94) (kd_lt (by rw [k0]; decide)) rfl ⟨_, wm_S_8 k0 _⟩ rfl rfl (by decide +kernel) rfl (by decide) (by decide) d_Mo_put_2 rfl (Nat.le_of_ble_eq_true rfl) (Nat.zero_le _) (Nat.zero_le _) (fun r4 u4 q4 => ?_))
  obtain ⟨rfl, rfl⟩ := q4
  refine wk_if_ne (tgt := 20) C d_Mo_put_5 rfl h (fun _ h => ?_) (fun _ h => ?_)
  · refine wm_iload_n C d_Mo_put_8 rfl ?_
    refine wm_iload_n C d_Mo_put_9 rfl ?_
    refine wm_iload C d_Mo_put_10 rfl ?_
    refine wm_iload C d_Mo_put_12 rfl ?_
    refine wk_bind h (fun v5 e5 h => wm_cSi (na := 4) C (mc_Mo_wrong a2 a3 a4 a5 v4.2 v5 e5) (gc_Mo_wrong mw_2_68) rfl (by decide +kernel) rfl (by decide) (by decide) d_Mo_put_14 rfl (Nat.le_of_ble_eq_true rfl) (Nat.zero_le _) (Nat.zero_le _) (fun r5 u5 q5 => ?_))
    obtain ⟨rfl, rfl⟩ := q5
    refine wk_if_eq (tgt := 22) C d_Mo_put_17 rfl h (fun _ h => ?_) (fun _ h => ?_)
    · refine wm_aload_n C d_Mo_put_22 rfl ?_
      refine wm_iload_n C d_Mo_put_23 rfl ?_
      refine wm_iload_n C d_Mo_put_24 rfl ?_
      refine wm_iload_n C d_Mo_put_25 rfl ?_
      refine wm_iload C d_Mo_put_26 rfl ?_
      refine wm_iload C d_Mo_put_28 rfl ?_
      refine wk_bind h (fun v6 e6 h => wm_cVi (ci := 8) (q := (Rn_8, Tn_8, 25)) (na := 5) C (mc_Mo_place a0 a1 a2 a3 a4 a5 v5.2 v6 k0 e6) (gc_Mo_place mw_2_83) (kd_lt (by rw [k0]; decide)) rfl ⟨_, wm_S_8 k0 _⟩ rfl rfl (by decide +kernel) rfl (by decide) (by decide) d_Mo_put_30 rfl (Nat.le_of_ble_eq_true rfl) (Nat.zero_le _) (Nat.zero_le _) (fun r6 u6 q6 => ?_))
      obtain ⟨rfl, rfl⟩ := q6
      refine wm_pop C d_Mo_put_33 rfl ?_
      refine wm_aload_n C d_Mo_put_34 rfl ?_
      refine wm_iconst (v := (0 : Int32)) C d_Mo_put_35 (by decide) ?_
      refine pt_8_5 C k0 (Or.inl rfl) (ws_in iw_8) (ws_1 mw_1_233) d_Mo_put_36 ?_
      refine wm_iconst (v := (1 : Int32)) C d_Mo_put_39 (by decide) ?_
      exact E _ _ _ _ d_Mo_put_40 rfl (wk_ret h)
    · refine wk_cut (c_20 v5.2 h) ?_
      exact trivial
  · refine wk_cut (c_20 v4.2 h) ?_
    exact trivial
/-! FactFlowModel.clear()V -/
def mf_Mo_clear (a0 : Nat) (g : wm_Sg) : Option wm_Sg :=
  some (wm_u (wm_u g a0 0 (0 : Int32)) a0 5 (0 : Int32))
set_option maxHeartbeats 4000000 in
set_option maxRecDepth 100000 in
theorem mc_Mo_clear {l : Launch} {G : wm_G} (a0 : Nat) (g : wm_Sg) (v : wm_Sg) (k0 : kd a0 = 8) (h : mf_Mo_clear a0 g = some v) : wm_Mv l G y_Mo_clear ws_Mo_clear 0 wm_n (wm_S G) [.ref (G.B + a0)] g (fun u => u = v) := by
  refine wm_in_v (cc := c_Mo_clear) (maxL := 1) (by decide) rfl (Nat.le_of_ble_eq_true rfl) (fun X C _ E => ?_)
  unfold mf_Mo_clear at h
  refine wm_aload_n C d_Mo_clear_0 rfl ?_
  refine wm_iconst (v := (0 : Int32)) C d_Mo_clear_1 (by decide) ?_
  refine pt_8_0 C k0 (ws_in iw_8) (ws_1 mw_1_228) d_Mo_clear_2 ?_
  refine wm_aload_n C d_Mo_clear_5 rfl ?_
  refine wm_iconst (v := (0 : Int32)) C d_Mo_clear_6 (by decide) ?_
  refine pt_8_5 C k0 (Or.inl rfl) (ws_in iw_8) (ws_1 mw_1_233) d_Mo_clear_7 ?_
  exact E _ _ _ d_Mo_clear_10 (Option.some.inj h)
/-! FactFlowModel.length()I -/
def mf_Mo_length (a0 : Nat) (g : wm_Sg) : Option (Int32 × wm_Sg) :=
  some ((g a0 0), g)
set_option maxHeartbeats 4000000 in
set_option maxRecDepth 100000 in
theorem mc_Mo_length {l : Launch} {G : wm_G} (a0 : Nat) (g : wm_Sg) (v : (Int32 × wm_Sg)) (k0 : kd a0 = 8) (h : mf_Mo_length a0 g = some v) : wm_Mi l G y_Mo_length ws_Mo_length 0 wm_n (wm_S G) [.ref (G.B + a0)] g (fun r u => r = v.1 ∧ u = v.2) := by
  refine wm_in_i (cc := c_Mo_length) (maxL := 1) (by decide) rfl (Nat.le_of_ble_eq_true rfl) (fun X C _ E => ?_)
  unfold mf_Mo_length at h
  refine wm_aload_n C d_Mo_length_0 rfl ?_
  refine gt_8_0 C k0 (ws_in iw_8) (ws_1 mw_1_228) d_Mo_length_1 ?_
  exact E _ _ _ _ d_Mo_length_4 (wk_ret h)
/-! FactFlowModel.code(II)I -/
def mf_Mo_code_17  (g : wm_Sg) : Option (Int32 × wm_Sg) :=
  some ((-1 : Int32), g)
def mf_Mo_code_66 (s0 : Int32) (g : wm_Sg) : Option (Int32 × wm_Sg) :=
  some (s0, g)
def mf_Mo_code (a0 : Nat) (a1 : Int32) (a2 : Int32) (g : wm_Sg) : Option (Int32 × wm_Sg) :=
  (mf_Mo_none a0 a1 g).bind fun v2 => if v2.1 = (0 : Int32) then (if a2 < (0 : Int32) then (mf_Mo_code_17 v2.2) else (if a2 ≤ (3 : Int32) then (if a2 = (0 : Int32) then (if a1 < 0 ∨ sh_n (sh_r a0 1) ≤ (a1).toNatClampNeg then none else mf_Mo_code_66 (v2.2 (sh_r a0 1) (a1).toNatClampNeg) v2.2) else (if a2 = (1 : Int32) then (if a1 < 0 ∨ sh_n (sh_r a0 2) ≤ (a1).toNatClampNeg then none else mf_Mo_code_66 (v2.2 (sh_r a0 2) (a1).toNatClampNeg) v2.2) else (if a2 = (2 : Int32) then (if a1 < 0 ∨ sh_n (sh_r a0 3) ≤ (a1).toNatClampNeg then none else mf_Mo_code_66 (v2.2 (sh_r a0 3) (a1).toNatClampNeg) v2.2) else (if a1 < 0 ∨ sh_n (sh_r a0 4) ≤ (a1).toNatClampNeg then none else mf_Mo_code_66 (v2.2 (sh_r a0 4) (a1).toNatClampNeg) v2.2)))) else (mf_Mo_code_17 v2.2))) else (mf_Mo_code_17 v2.2)
set_option maxHeartbeats 4000000 in
set_option maxRecDepth 100000 in
theorem mc_Mo_code {l : Launch} {G : wm_G} (a0 : Nat) (a1 : Int32) (a2 : Int32) (g : wm_Sg) (v : (Int32 × wm_Sg)) (k0 : kd a0 = 8) (h : mf_Mo_code a0 a1 a2 g = some v) : wm_Mi l G y_Mo_code ws_Mo_code 1 wm_n (wm_S G) [.ref (G.B + a0), .int a1, .int a2] g (fun r u => r = v.1 ∧ u = v.2) := by
  refine wm_in_i (cc := c_Mo_code) (maxL := 3) (by decide) rfl (Nat.le_of_ble_eq_true rfl) (fun X C _ E => ?_)
  have c_17 : ∀ (g : wm_Sg), mf_Mo_code_17  g = some v → wm_W G X 3 0 0 wm_n (wm_S G) g 17 [] [] := by
    intro g h
    unfold mf_Mo_code_17 at h
    refine wm_iconst (v := (-1 : Int32)) C d_Mo_code_17 (by decide) ?_
    exact E _ _ _ _ d_Mo_code_18 (wk_ret h)
  have c_66 : ∀ (s0 : Int32) (g : wm_Sg), mf_Mo_code_66  s0 g = some v → wm_W G X 3 0 0 wm_n (wm_S G) g 66 [] [.int s0] := by
    intro s0 g h
    unfold mf_Mo_code_66 at h
    exact E _ _ _ _ d_Mo_code_66 (wk_ret h)
  unfold mf_Mo_code at h
  refine wm_aload_n C d_Mo_code_0 rfl ?_
  refine wm_iload_n C d_Mo_code_1 rfl ?_
  refine wk_bind h (fun v2 e2 h => wm_cVi (ci := 8) (q := (Rn_8, Tn_8, 25)) (na := 1) C (mc_Mo_none a0 a1 g v2 k0 e2) (gc_Mo_none mw_2_94) (kd_lt (by rw [k0]; decide)) rfl ⟨_, wm_S_8 k0 _⟩ rfl rfl (by decide +kernel) rfl (by decide) (by decide) d_Mo_code_2 rfl (Nat.le_of_ble_eq_true rfl) (Nat.zero_le _) (Nat.zero_le _) (fun r2 u2 q2 => ?_))
  obtain ⟨rfl, rfl⟩ := q2
  refine wk_if_ne (tgt := 17) C d_Mo_code_5 rfl h (fun _ h => ?_) (fun _ h => ?_)
  · refine wm_iload_n C d_Mo_code_8 rfl ?_
    refine wk_if_lt (tgt := 17) C d_Mo_code_9 rfl h (fun _ h => ?_) (fun _ h => ?_)
    · refine wk_cut (c_17 v2.2 h) ?_
      exact trivial
    · refine wm_iload_n C d_Mo_code_12 rfl ?_
      refine wm_iconst (v := (3 : Int32)) C d_Mo_code_13 (by decide) ?_
      refine wk_icmp_le (tgt := 19) C d_Mo_code_14 rfl h (fun _ h => ?_) (fun _ h => ?_)
      · refine wm_iload_n C d_Mo_code_19 rfl ?_
        refine wk_if_ne (tgt := 32) C d_Mo_code_20 rfl h (fun _ h => ?_) (fun _ h => ?_)
        · refine wm_aload_n C d_Mo_code_23 rfl ?_
          refine gt_8_1 C k0 (ws_in iw_8) (ws_1 mw_1_229) d_Mo_code_24 ?_
          refine wm_iload_n C d_Mo_code_27 rfl ?_
          refine wk_iald C (kr_8_1 k0) d_Mo_code_28 h (fun h => ?_)
          refine wm_goto (tgt := 66) C d_Mo_code_29 rfl ?_
          refine wk_cut (c_66 (v2.2 (sh_r a0 1) (a1).toNatClampNeg) v2.2 h) ?_
          exact trivial
        · refine wm_iload_n C d_Mo_code_32 rfl ?_
          refine wm_iconst (v := (1 : Int32)) C d_Mo_code_33 (by decide) ?_
          refine wk_icmp_ne (tgt := 46) C d_Mo_code_34 rfl h (fun _ h => ?_) (fun _ h => ?_)
          · refine wm_aload_n C d_Mo_code_37 rfl ?_
            refine gt_8_2 C k0 (ws_in iw_8) (ws_1 mw_1_230) d_Mo_code_38 ?_
            refine wm_iload_n C d_Mo_code_41 rfl ?_
            refine wk_iald C (kr_8_2 k0) d_Mo_code_42 h (fun h => ?_)
            refine wm_goto (tgt := 66) C d_Mo_code_43 rfl ?_
            refine wk_cut (c_66 (v2.2 (sh_r a0 2) (a1).toNatClampNeg) v2.2 h) ?_
            exact trivial
          · refine wm_iload_n C d_Mo_code_46 rfl ?_
            refine wm_iconst (v := (2 : Int32)) C d_Mo_code_47 (by decide) ?_
            refine wk_icmp_ne (tgt := 60) C d_Mo_code_48 rfl h (fun _ h => ?_) (fun _ h => ?_)
            · refine wm_aload_n C d_Mo_code_51 rfl ?_
              refine gt_8_3 C k0 (ws_in iw_8) (ws_1 mw_1_231) d_Mo_code_52 ?_
              refine wm_iload_n C d_Mo_code_55 rfl ?_
              refine wk_iald C (kr_8_3 k0) d_Mo_code_56 h (fun h => ?_)
              refine wm_goto (tgt := 66) C d_Mo_code_57 rfl ?_
              refine wk_cut (c_66 (v2.2 (sh_r a0 3) (a1).toNatClampNeg) v2.2 h) ?_
              exact trivial
            · refine wm_aload_n C d_Mo_code_60 rfl ?_
              refine gt_8_4 C k0 (ws_in iw_8) (ws_1 mw_1_232) d_Mo_code_61 ?_
              refine wm_iload_n C d_Mo_code_64 rfl ?_
              refine wk_iald C (kr_8_4 k0) d_Mo_code_65 h (fun h => ?_)
              refine wk_cut (c_66 (v2.2 (sh_r a0 4) (a1).toNatClampNeg) v2.2 h) ?_
              exact trivial
      · refine wk_cut (c_17 v2.2 h) ?_
        exact trivial
  · refine wk_cut (c_17 v2.2 h) ?_
    exact trivial
/-! FactFlowModel.least(II)I -/
def mf_Mo_least_10 (s0 : Int32) (g : wm_Sg) : Option (Int32 × wm_Sg) :=
  some (s0, g)
def mf_Mo_least (a0 : Int32) (a1 : Int32) (g : wm_Sg) : Option (Int32 × wm_Sg) :=
  if a1 ≤ a0 then (mf_Mo_least_10 a1 g) else (mf_Mo_least_10 a0 g)
set_option maxHeartbeats 4000000 in
set_option maxRecDepth 100000 in
theorem mc_Mo_least {l : Launch} {G : wm_G} (a0 : Int32) (a1 : Int32) (g : wm_Sg) (v : (Int32 × wm_Sg)) (h : mf_Mo_least a0 a1 g = some v) : wm_Mi l G y_Mo_least ws_Mo_least 0 wm_n (wm_S G) [.int a0, .int a1] g (fun r u => r = v.1 ∧ u = v.2) := by
  refine wm_in_i (cc := c_Mo_least) (maxL := 2) (by decide) rfl (Nat.le_of_ble_eq_true rfl) (fun X C _ E => ?_)
  have c_10 : ∀ (s0 : Int32) (g : wm_Sg), mf_Mo_least_10  s0 g = some v → wm_W G X 2 0 0 wm_n (wm_S G) g 10 [] [.int s0] := by
    intro s0 g h
    unfold mf_Mo_least_10 at h
    exact E _ _ _ _ d_Mo_least_10 (wk_ret h)
  unfold mf_Mo_least at h
  refine wm_iload_n C d_Mo_least_0 rfl ?_
  refine wm_iload_n C d_Mo_least_1 rfl ?_
  refine wk_icmp_ge (tgt := 9) C d_Mo_least_2 rfl h (fun _ h => ?_) (fun _ h => ?_)
  · refine wm_iload_n C d_Mo_least_9 rfl ?_
    refine wk_cut (c_10 a1 g h) ?_
    exact trivial
  · refine wm_iload_n C d_Mo_least_5 rfl ?_
    refine wm_goto (tgt := 10) C d_Mo_least_6 rfl ?_
    refine wk_cut (c_10 a0 g h) ?_
    exact trivial
/-! FactFlowModel.zeros(I)I -/
def mf_Mo_zeros_22 (b1 : Int32) (g : wm_Sg) : Option (Int32 × wm_Sg) :=
  some (b1, g)
def mf_Mo_zeros_2 (b0 : Int32) (K2 : Int32 × wm_Sg → Option (Int32 × wm_Sg)) (a : Int32 × wm_Sg) : Option (Int32 × wm_Sg) :=
  if (32 : Int32) ≤ a.1 then (mf_Mo_zeros_22 a.1 a.2) else (if ((b0 >>> (a.1 &&& 31)) &&& (1 : Int32)) = (0 : Int32) then (K2 ((a.1 + (1 : Int32)), a.2)) else (mf_Mo_zeros_22 a.1 a.2))
def mf_Mo_zeros (a0 : Int32) (g : wm_Sg) : Option (Int32 × wm_Sg) :=
  lp_it (mf_Mo_zeros_2 a0) 2100 ((0 : Int32), g)
set_option maxHeartbeats 4000000 in
set_option maxRecDepth 100000 in
theorem mc_Mo_zeros {l : Launch} {G : wm_G} (a0 : Int32) (g : wm_Sg) (v : (Int32 × wm_Sg)) (h : mf_Mo_zeros a0 g = some v) : wm_Mi l G y_Mo_zeros ws_Mo_zeros 0 wm_n (wm_S G) [.int a0] g (fun r u => r = v.1 ∧ u = v.2) := by
  refine wm_in_i (cc := c_Mo_zeros) (maxL := 2) (by decide) rfl (Nat.le_of_ble_eq_true rfl) (fun X C _ E => ?_)
  have c_22 : ∀ (b1 : Int32) (g : wm_Sg), mf_Mo_zeros_22 b1 g = some v → wm_W G X 2 0 0 wm_n (wm_S G) g 22 [(1, .int b1)] [] := by
    intro b1 g h
    unfold mf_Mo_zeros_22 at h
    refine wm_iload_n C d_Mo_zeros_22 rfl ?_
    exact E _ _ _ _ d_Mo_zeros_23 (wk_ret h)
  have c_2 : ∀ (b0 : Int32) (f : Nat) (a : Int32 × wm_Sg), lp_it (mf_Mo_zeros_2 b0) f a = some v → wm_W G X 2 0 0 wm_n (wm_S G) a.2 2 [(0, .int b0), (1, .int a.1)] [] := by
    intro b0 f
    induction f with
    | zero => intro a h; cases h
    | succ f hK2 =>
      intro a h
      have h : mf_Mo_zeros_2 b0 (lp_it (mf_Mo_zeros_2 b0) f) a = some v := h
      unfold mf_Mo_zeros_2 at h
      refine wm_iload_n C d_Mo_zeros_2 rfl ?_
      refine wm_bipush (v := (32 : Int32)) C d_Mo_zeros_3 (by decide) ?_
      refine wk_icmp_ge (tgt := 22) C d_Mo_zeros_5 rfl h (fun _ h => ?_) (fun _ h => ?_)
      · refine wk_cut (c_22 a.1 a.2 h) ?_
        exact ⟨rfl, trivial⟩
      · refine wm_iload_n C d_Mo_zeros_8 rfl ?_
        refine wm_iload_n C d_Mo_zeros_9 rfl ?_
        refine wm_ishr C d_Mo_zeros_10 ?_
        refine wm_iconst (v := (1 : Int32)) C d_Mo_zeros_11 (by decide) ?_
        refine wm_iand C d_Mo_zeros_12 ?_
        refine wk_if_ne (tgt := 22) C d_Mo_zeros_13 rfl h (fun _ h => ?_) (fun _ h => ?_)
        · refine wk_iinc C (1 : Int32) d_Mo_zeros_16 (by decide) rfl (by decide) ?_
          refine wm_goto (tgt := 2) C d_Mo_zeros_19 rfl ?_
          refine wk_cut (hK2 ((a.1 + (1 : Int32)), a.2) h) ?_
          exact ⟨rfl, rfl, trivial⟩
        · refine wk_cut (c_22 a.1 a.2 h) ?_
          exact ⟨rfl, trivial⟩
  unfold mf_Mo_zeros at h
  refine wm_iconst (v := (0 : Int32)) C d_Mo_zeros_0 (by decide) ?_
  refine wm_istore_n C d_Mo_zeros_1 (by decide) ?_
  refine wk_cut (c_2 a0 2100 ((0 : Int32), g) h) ?_
  exact ⟨rfl, rfl, trivial⟩
/-! FactFlowModel.cut(II)I -/
def mf_Mo_cut_17 (s0 : Int32) (g : wm_Sg) : Option (Int32 × wm_Sg) :=
  some (s0, g)
def mf_Mo_cut (a0 : Int32) (a1 : Int32) (g : wm_Sg) : Option (Int32 × wm_Sg) :=
  if a1 = (32 : Int32) then (mf_Mo_cut_17 a0 g) else (mf_Mo_cut_17 (a0 &&& (((1 : Int32) <<< (a1 &&& 31)) - (1 : Int32))) g)
set_option maxHeartbeats 4000000 in
set_option maxRecDepth 100000 in
theorem mc_Mo_cut {l : Launch} {G : wm_G} (a0 : Int32) (a1 : Int32) (g : wm_Sg) (v : (Int32 × wm_Sg)) (h : mf_Mo_cut a0 a1 g = some v) : wm_Mi l G y_Mo_cut ws_Mo_cut 0 wm_n (wm_S G) [.int a0, .int a1] g (fun r u => r = v.1 ∧ u = v.2) := by
  refine wm_in_i (cc := c_Mo_cut) (maxL := 2) (by decide) rfl (Nat.le_of_ble_eq_true rfl) (fun X C _ E => ?_)
  have c_17 : ∀ (s0 : Int32) (g : wm_Sg), mf_Mo_cut_17  s0 g = some v → wm_W G X 2 0 0 wm_n (wm_S G) g 17 [] [.int s0] := by
    intro s0 g h
    unfold mf_Mo_cut_17 at h
    exact E _ _ _ _ d_Mo_cut_17 (wk_ret h)
  unfold mf_Mo_cut at h
  refine wm_iload_n C d_Mo_cut_0 rfl ?_
  refine wm_bipush (v := (32 : Int32)) C d_Mo_cut_1 (by decide) ?_
  refine wk_icmp_ne (tgt := 10) C d_Mo_cut_3 rfl h (fun _ h => ?_) (fun _ h => ?_)
  · refine wm_iload_n C d_Mo_cut_6 rfl ?_
    refine wm_goto (tgt := 17) C d_Mo_cut_7 rfl ?_
    refine wk_cut (c_17 a0 g h) ?_
    exact trivial
  · refine wm_iload_n C d_Mo_cut_10 rfl ?_
    refine wm_iconst (v := (1 : Int32)) C d_Mo_cut_11 (by decide) ?_
    refine wm_iload_n C d_Mo_cut_12 rfl ?_
    refine wm_ishl C d_Mo_cut_13 ?_
    refine wm_iconst (v := (1 : Int32)) C d_Mo_cut_14 (by decide) ?_
    refine wm_isub C d_Mo_cut_15 ?_
    refine wm_iand C d_Mo_cut_16 ?_
    refine wk_cut (c_17 (a0 &&& (((1 : Int32) <<< (a1 &&& 31)) - (1 : Int32))) g h) ?_
    exact trivial
/-! FactFlowModel.joinFact(II)V -/
def mf_Mo_joinFact_147 (b0 : Nat) (b1 : Int32) (b6 : Int32) (b7 : Int32) (s0 : Int32) (s1 : Nat) (g : wm_Sg) : Option wm_Sg :=
  if s0 = 0 ∨ s0 = 1 then ( if b1 < 0 ∨ sh_n (sh_r b0 7) ≤ (b1).toNatClampNeg then none else if b1 < 0 ∨ sh_n (sh_r b0 8) ≤ (b1).toNatClampNeg then none else (mf_Mo_cut ((wm_u (wm_u g s1 10 s0) (sh_r b0 7) (b1).toNatClampNeg b6) (sh_r b0 8) (b1).toNatClampNeg) b6 (wm_u (wm_u g s1 10 s0) (sh_r b0 7) (b1).toNatClampNeg b6)).bind fun v13 => if b1 < 0 ∨ sh_n (sh_r b0 8) ≤ (b1).toNatClampNeg then none else if b1 < 0 ∨ sh_n (sh_r b0 9) ≤ (b1).toNatClampNeg then none else some (wm_u (wm_u v13.2 (sh_r b0 8) (b1).toNatClampNeg v13.1) (sh_r b0 9) (b1).toNatClampNeg b7)) else none
def mf_Mo_joinFact_142 (b0 : Nat) (b1 : Int32) (b6 : Int32) (b7 : Int32) (s0 : Nat) (g : wm_Sg) : Option wm_Sg :=
  mf_Mo_joinFact_147 b0 b1 b6 b7 (1 : Int32) s0 g
def mf_Mo_joinFact_127 (b0 : Nat) (b1 : Int32) (b6 : Int32) (b7 : Int32) (s0 : Int32) (g : wm_Sg) : Option wm_Sg :=
  if (g b0 10) = (0 : Int32) then (if s0 = (0 : Int32) then (mf_Mo_joinFact_142 b0 b1 b6 b7 b0 g) else (mf_Mo_joinFact_147 b0 b1 b6 b7 (0 : Int32) b0 g)) else (mf_Mo_joinFact_142 b0 b1 b6 b7 b0 g)
def mf_Mo_joinFact_126 (b0 : Nat) (b1 : Int32) (b6 : Int32) (b7 : Int32) (g : wm_Sg) : Option wm_Sg :=
  mf_Mo_joinFact_127 b0 b1 b6 b7 (0 : Int32) g
def mf_Mo_joinFact_83 (b0 : Nat) (b1 : Int32) (b2 : Int32) (s0 : Int32) (g : wm_Sg) : Option wm_Sg :=
  if b1 < 0 ∨ sh_n (sh_r b0 9) ≤ (b1).toNatClampNeg then none else if b2 < 0 ∨ sh_n (sh_r b0 13) ≤ (b2).toNatClampNeg then none else if b1 < 0 ∨ sh_n (sh_r b0 7) ≤ (b1).toNatClampNeg then none else if s0 = (g (sh_r b0 7) (b1).toNatClampNeg) then (if b1 < 0 ∨ sh_n (sh_r b0 9) ≤ (b1).toNatClampNeg then none else if ((g (sh_r b0 9) (b1).toNatClampNeg) ||| (g (sh_r b0 13) (b2).toNatClampNeg)) = (g (sh_r b0 9) (b1).toNatClampNeg) then (mf_Mo_joinFact_127 b0 b1 s0 ((g (sh_r b0 9) (b1).toNatClampNeg) ||| (g (sh_r b0 13) (b2).toNatClampNeg)) (1 : Int32) g) else (mf_Mo_joinFact_126 b0 b1 s0 ((g (sh_r b0 9) (b1).toNatClampNeg) ||| (g (sh_r b0 13) (b2).toNatClampNeg)) g)) else (mf_Mo_joinFact_126 b0 b1 s0 ((g (sh_r b0 9) (b1).toNatClampNeg) ||| (g (sh_r b0 13) (b2).toNatClampNeg)) g)
def mf_Mo_joinFact_42 (b0 : Nat) (b1 : Int32) (b2 : Int32) (b3 : Int32) (s0 : Int32) (g : wm_Sg) : Option wm_Sg :=
  if b1 < 0 ∨ sh_n (sh_r b0 8) ≤ (b1).toNatClampNeg then none else if b2 < 0 ∨ sh_n (sh_r b0 12) ≤ (b2).toNatClampNeg then none else (mf_Mo_zeros ((g (sh_r b0 8) (b1).toNatClampNeg) ^^^ (g (sh_r b0 12) (b2).toNatClampNeg)) g).bind fun v14 => if s0 = (0 : Int32) then ((mf_Mo_least b3 v14.1 v14.2).bind fun v15 => (mf_Mo_least v15.1 (16 : Int32) v15.2).bind fun v16 => mf_Mo_joinFact_83 b0 b1 b2 v16.1 v16.2) else (mf_Mo_joinFact_83 b0 b1 b2 (32 : Int32) v14.2)
def mf_Mo_joinFact_41 (b0 : Nat) (b1 : Int32) (b2 : Int32) (b3 : Int32) (g : wm_Sg) : Option wm_Sg :=
  mf_Mo_joinFact_42 b0 b1 b2 b3 (0 : Int32) g
def mf_Mo_joinFact (a0 : Nat) (a1 : Int32) (a2 : Int32) (g : wm_Sg) : Option wm_Sg :=
  if a1 < 0 ∨ sh_n (sh_r a0 7) ≤ (a1).toNatClampNeg then none else if a2 < 0 ∨ sh_n (sh_r a0 11) ≤ (a2).toNatClampNeg then none else (mf_Mo_least (g (sh_r a0 7) (a1).toNatClampNeg) (g (sh_r a0 11) (a2).toNatClampNeg) g).bind fun v17 => if v17.1 = (32 : Int32) then (if a1 < 0 ∨ sh_n (sh_r a0 8) ≤ (a1).toNatClampNeg then none else if a2 < 0 ∨ sh_n (sh_r a0 12) ≤ (a2).toNatClampNeg then none else if (v17.2 (sh_r a0 8) (a1).toNatClampNeg) = (v17.2 (sh_r a0 12) (a2).toNatClampNeg) then (mf_Mo_joinFact_42 a0 a1 a2 v17.1 (1 : Int32) v17.2) else (mf_Mo_joinFact_41 a0 a1 a2 v17.1 v17.2)) else (mf_Mo_joinFact_41 a0 a1 a2 v17.1 v17.2)
set_option maxHeartbeats 4000000 in
set_option maxRecDepth 100000 in
theorem mc_Mo_joinFact {l : Launch} {G : wm_G} (a0 : Nat) (a1 : Int32) (a2 : Int32) (g : wm_Sg) (v : wm_Sg) (k0 : kd a0 = 8) (h : mf_Mo_joinFact a0 a1 a2 g = some v) : wm_Mv l G y_Mo_joinFact ws_Mo_joinFact 1 wm_n (wm_S G) [.ref (G.B + a0), .int a1, .int a2] g (fun u => u = v) := by
  refine wm_in_v (cc := c_Mo_joinFact) (maxL := 9) (by decide) rfl (Nat.le_of_ble_eq_true rfl) (fun X C _ E => ?_)
  have c_147 : ∀ (b0 : Nat) (b1 : Int32) (b6 : Int32) (b7 : Int32) (s0 : Int32) (s1 : Nat) (k0 : kd b0 = 8) (ks1 : kd s1 = 8) (g : wm_Sg), mf_Mo_joinFact_147 b0 b1 b6 b7 s0 s1 g = some v → wm_W G X 9 0 0 wm_n (wm_S G) g 147 [(0, .ref (G.B + b0)), (1, .int b1), (6, .int b6), (7, .int b7)] [.int s0, .ref (G.B + s1)] := by
    intro b0 b1 b6 b7 s0 s1 k0 ks1 g h
    unfold mf_Mo_joinFact_147 at h
    refine wk_yes h (fun w12 h => ?_)
    refine pt_8_10 C ks1 w12 (ws_in iw_8) (ws_1 mw_1_238) d_Mo_joinFact_147 ?_
    refine wm_aload_n C d_Mo_joinFact_150 rfl ?_
    refine gt_8_7 C k0 (ws_in iw_8) (ws_1 mw_1_235) d_Mo_joinFact_151 ?_
    refine wm_iload_n C d_Mo_joinFact_154 rfl ?_
    refine wm_iload C d_Mo_joinFact_155 rfl ?_
    refine wk_iast C (kr_8_7 k0) d_Mo_joinFact_157 h (fun h => ?_)
    refine wm_aload_n C d_Mo_joinFact_158 rfl ?_
    refine gt_8_8 C k0 (ws_in iw_8) (ws_1 mw_1_236) d_Mo_joinFact_159 ?_
    refine wm_iload_n C d_Mo_joinFact_162 rfl ?_
    refine wm_aload_n C d_Mo_joinFact_163 rfl ?_
    refine gt_8_8 C k0 (ws_in iw_8) (ws_1 mw_1_236) d_Mo_joinFact_164 ?_
    refine wm_iload_n C d_Mo_joinFact_167 rfl ?_
    refine wk_iald C (kr_8_8 k0) d_Mo_joinFact_168 h (fun h => ?_)
    refine wm_iload C d_Mo_joinFact_169 rfl ?_
    refine wk_bind h (fun v13 e13 h => wm_cSi (na := 2) C (mc_Mo_cut ((wm_u (wm_u g s1 10 s0) (sh_r b0 7) (b1).toNatClampNeg b6) (sh_r b0 8) (b1).toNatClampNeg) b6 (wm_u (wm_u g s1 10 s0) (sh_r b0 7) (b1).toNatClampNeg b6) v13 e13) (gc_Mo_cut mw_2_140) rfl (by decide +kernel) rfl (by decide) (by decide) d_Mo_joinFact_171 rfl (Nat.le_of_ble_eq_true rfl) (Nat.zero_le _) (Nat.zero_le _) (fun r13 u13 q13 => ?_))
    obtain ⟨rfl, rfl⟩ := q13
    refine wk_iast C (kr_8_8 k0) d_Mo_joinFact_174 h (fun h => ?_)
    refine wm_aload_n C d_Mo_joinFact_175 rfl ?_
    refine gt_8_9 C k0 (ws_in iw_8) (ws_1 mw_1_237) d_Mo_joinFact_176 ?_
    refine wm_iload_n C d_Mo_joinFact_179 rfl ?_
    refine wm_iload C d_Mo_joinFact_180 rfl ?_
    refine wk_iast C (kr_8_9 k0) d_Mo_joinFact_182 h (fun h => ?_)
    exact E _ _ _ d_Mo_joinFact_183 (Option.some.inj h)
  have c_142 : ∀ (b0 : Nat) (b1 : Int32) (b6 : Int32) (b7 : Int32) (s0 : Nat) (k0 : kd b0 = 8) (ks0 : kd s0 = 8) (g : wm_Sg), mf_Mo_joinFact_142 b0 b1 b6 b7 s0 g = some v → wm_W G X 9 0 0 wm_n (wm_S G) g 142 [(0, .ref (G.B + b0)), (1, .int b1), (6, .int b6), (7, .int b7)] [.ref (G.B + s0)] := by
    intro b0 b1 b6 b7 s0 k0 ks0 g h
    unfold mf_Mo_joinFact_142 at h
    refine wm_iconst (v := (1 : Int32)) C d_Mo_joinFact_142 (by decide) ?_
    refine wm_goto (tgt := 147) C d_Mo_joinFact_143 rfl ?_
    refine wk_cut (c_147 b0 b1 b6 b7 (1 : Int32) s0 k0 ks0 g h) ?_
    exact ⟨rfl, rfl, rfl, rfl, trivial⟩
  have c_127 : ∀ (b0 : Nat) (b1 : Int32) (b6 : Int32) (b7 : Int32) (s0 : Int32) (k0 : kd b0 = 8) (g : wm_Sg), mf_Mo_joinFact_127 b0 b1 b6 b7 s0 g = some v → wm_W G X 9 0 0 wm_n (wm_S G) g 127 [(0, .ref (G.B + b0)), (1, .int b1), (6, .int b6), (7, .int b7)] [.int s0] := by
    intro b0 b1 b6 b7 s0 k0 g h
    unfold mf_Mo_joinFact_127 at h
    refine wm_istore C d_Mo_joinFact_127 (by decide) ?_
    refine wm_aload_n C d_Mo_joinFact_129 rfl ?_
    refine wm_aload_n C d_Mo_joinFact_130 rfl ?_
    refine gt_8_10 C k0 (ws_in iw_8) (ws_1 mw_1_238) d_Mo_joinFact_131 ?_
    refine wk_if_ne (tgt := 142) C d_Mo_joinFact_134 rfl h (fun _ h => ?_) (fun _ h => ?_)
    · refine wm_iload C d_Mo_joinFact_137 rfl ?_
      refine wk_if_ne (tgt := 146) C d_Mo_joinFact_139 rfl h (fun _ h => ?_) (fun _ h => ?_)
      · refine wk_cut (c_142 b0 b1 b6 b7 b0 k0 k0 g h) ?_
        exact ⟨rfl, rfl, rfl, rfl, trivial⟩
      · refine wm_iconst (v := (0 : Int32)) C d_Mo_joinFact_146 (by decide) ?_
        refine wk_cut (c_147 b0 b1 b6 b7 (0 : Int32) b0 k0 k0 g h) ?_
        exact ⟨rfl, rfl, rfl, rfl, trivial⟩
    · refine wk_cut (c_142 b0 b1 b6 b7 b0 k0 k0 g h) ?_
      exact ⟨rfl, rfl, rfl, rfl, trivial⟩
  have c_126 : ∀ (b0 : Nat) (b1 : Int32) (b6 : Int32) (b7 : Int32) (k0 : kd b0 = 8) (g : wm_Sg), mf_Mo_joinFact_126 b0 b1 b6 b7 g = some v → wm_W G X 9 0 0 wm_n (wm_S G) g 126 [(0, .ref (G.B + b0)), (1, .int b1), (6, .int b6), (7, .int b7)] [] := by
    intro b0 b1 b6 b7 k0 g h
    unfold mf_Mo_joinFact_126 at h
    refine wm_iconst (v := (0 : Int32)) C d_Mo_joinFact_126 (by decide) ?_
    refine wk_cut (c_127 b0 b1 b6 b7 (0 : Int32) k0 g h) ?_
    exact ⟨rfl, rfl, rfl, rfl, trivial⟩
  have c_83 : ∀ (b0 : Nat) (b1 : Int32) (b2 : Int32) (s0 : Int32) (k0 : kd b0 = 8) (g : wm_Sg), mf_Mo_joinFact_83 b0 b1 b2 s0 g = some v → wm_W G X 9 0 0 wm_n (wm_S G) g 83 [(0, .ref (G.B + b0)), (1, .int b1), (2, .int b2)] [.int s0] := by
    intro b0 b1 b2 s0 k0 g h
    unfold mf_Mo_joinFact_83 at h
    refine wm_istore C d_Mo_joinFact_83 (by decide) ?_
    refine wm_aload_n C d_Mo_joinFact_85 rfl ?_
    refine gt_8_9 C k0 (ws_in iw_8) (ws_1 mw_1_237) d_Mo_joinFact_86 ?_
    refine wm_iload_n C d_Mo_joinFact_89 rfl ?_
    refine wk_iald C (kr_8_9 k0) d_Mo_joinFact_90 h (fun h => ?_)
    refine wm_aload_n C d_Mo_joinFact_91 rfl ?_
    refine gt_8_13 C k0 (ws_in iw_8) (ws_1 mw_2_1) d_Mo_joinFact_92 ?_
    refine wm_iload_n C d_Mo_joinFact_95 rfl ?_
    refine wk_iald C (kr_8_13 k0) d_Mo_joinFact_96 h (fun h => ?_)
    refine wm_ior C d_Mo_joinFact_97 ?_
    refine wm_istore C d_Mo_joinFact_98 (by decide) ?_
    refine wm_iload C d_Mo_joinFact_100 rfl ?_
    refine wm_aload_n C d_Mo_joinFact_102 rfl ?_
    refine gt_8_7 C k0 (ws_in iw_8) (ws_1 mw_1_235) d_Mo_joinFact_103 ?_
    refine wm_iload_n C d_Mo_joinFact_106 rfl ?_
    refine wk_iald C (kr_8_7 k0) d_Mo_joinFact_107 h (fun h => ?_)
    refine wk_icmp_ne (tgt := 126) C d_Mo_joinFact_108 rfl h (fun _ h => ?_) (fun _ h => ?_)
    · refine wm_iload C d_Mo_joinFact_111 rfl ?_
      refine wm_aload_n C d_Mo_joinFact_113 rfl ?_
      refine gt_8_9 C k0 (ws_in iw_8) (ws_1 mw_1_237) d_Mo_joinFact_114 ?_
      refine wm_iload_n C d_Mo_joinFact_117 rfl ?_
      refine wk_iald C (kr_8_9 k0) d_Mo_joinFact_118 h (fun h => ?_)
      refine wk_icmp_ne (tgt := 126) C d_Mo_joinFact_119 rfl h (fun _ h => ?_) (fun _ h => ?_)
      · refine wm_iconst (v := (1 : Int32)) C d_Mo_joinFact_122 (by decide) ?_
        refine wm_goto (tgt := 127) C d_Mo_joinFact_123 rfl ?_
        refine wk_cut (c_127 b0 b1 s0 ((g (sh_r b0 9) (b1).toNatClampNeg) ||| (g (sh_r b0 13) (b2).toNatClampNeg)) (1 : Int32) k0 g h) ?_
        exact ⟨rfl, rfl, rfl, rfl, trivial⟩
      · refine wk_cut (c_126 b0 b1 s0 ((g (sh_r b0 9) (b1).toNatClampNeg) ||| (g (sh_r b0 13) (b2).toNatClampNeg)) k0 g h) ?_
        exact ⟨rfl, rfl, rfl, rfl, trivial⟩
    · refine wk_cut (c_126 b0 b1 s0 ((g (sh_r b0 9) (b1).toNatClampNeg) ||| (g (sh_r b0 13) (b2).toNatClampNeg)) k0 g h) ?_
      exact ⟨rfl, rfl, rfl, rfl, trivial⟩
  have c_42 : ∀ (b0 : Nat) (b1 : Int32) (b2 : Int32) (b3 : Int32) (s0 : Int32) (k0 : kd b0 = 8) (g : wm_Sg), mf_Mo_joinFact_42 b0 b1 b2 b3 s0 g = some v → wm_W G X 9 0 0 wm_n (wm_S G) g 42 [(0, .ref (G.B + b0)), (1, .int b1), (2, .int b2), (3, .int b3)] [.int s0] := by
    intro b0 b1 b2 b3 s0 k0 g h
    unfold mf_Mo_joinFact_42 at h
    refine wm_istore C d_Mo_joinFact_42 (by decide) ?_
    refine wm_aload_n C d_Mo_joinFact_44 rfl ?_
    refine gt_8_8 C k0 (ws_in iw_8) (ws_1 mw_1_236) d_Mo_joinFact_45 ?_
    refine wm_iload_n C d_Mo_joinFact_48 rfl ?_
    refine wk_iald C (kr_8_8 k0) d_Mo_joinFact_49 h (fun h => ?_)
    refine wm_aload_n C d_Mo_joinFact_50 rfl ?_
    refine gt_8_12 C k0 (ws_in iw_8) (ws_1 mw_2_0) d_Mo_joinFact_51 ?_
    refine wm_iload_n C d_Mo_joinFact_54 rfl ?_
    refine wk_iald C (kr_8_12 k0) d_Mo_joinFact_55 h (fun h => ?_)
    refine wm_ixor C d_Mo_joinFact_56 ?_
    refine wk_bind h (fun v14 e14 h => wm_cSi (na := 1) C (mc_Mo_zeros ((g (sh_r b0 8) (b1).toNatClampNeg) ^^^ (g (sh_r b0 12) (b2).toNatClampNeg)) g v14 e14) (gc_Mo_zeros mw_2_137) rfl (by decide +kernel) rfl (by decide) (by decide) d_Mo_joinFact_57 rfl (Nat.le_of_ble_eq_true rfl) (Nat.zero_le _) (Nat.zero_le _) (fun r14 u14 q14 => ?_))
    obtain ⟨rfl, rfl⟩ := q14
    refine wm_istore C d_Mo_joinFact_60 (by decide) ?_
    refine wm_iload C d_Mo_joinFact_62 rfl ?_
    refine wk_if_eq (tgt := 72) C d_Mo_joinFact_64 rfl h (fun _ h => ?_) (fun _ h => ?_)
    · refine wm_iload_n C d_Mo_joinFact_72 rfl ?_
      refine wm_iload C d_Mo_joinFact_73 rfl ?_
      refine wk_bind h (fun v15 e15 h => wm_cSi (na := 2) C (mc_Mo_least b3 v14.1 v14.2 v15 e15) (gc_Mo_least mw_2_134) rfl (by decide +kernel) rfl (by decide) (by decide) d_Mo_joinFact_75 rfl (Nat.le_of_ble_eq_true rfl) (Nat.zero_le _) (Nat.zero_le _) (fun r15 u15 q15 => ?_))
      obtain ⟨rfl, rfl⟩ := q15
      refine wm_bipush (v := (16 : Int32)) C d_Mo_joinFact_78 (by decide) ?_
      refine wk_bind h (fun v16 e16 h => wm_cSi (na := 2) C (mc_Mo_least v15.1 (16 : Int32) v15.2 v16 e16) (gc_Mo_least mw_2_134) rfl (by decide +kernel) rfl (by decide) (by decide) d_Mo_joinFact_80 rfl (Nat.le_of_ble_eq_true rfl) (Nat.zero_le _) (Nat.zero_le _) (fun r16 u16 q16 => ?_))
      obtain ⟨rfl, rfl⟩ := q16
      refine wk_cut (c_83 b0 b1 b2 v16.1 k0 v16.2 h) ?_
      exact ⟨rfl, rfl, rfl, trivial⟩
    · refine wm_bipush (v := (32 : Int32)) C d_Mo_joinFact_67 (by decide) ?_
      refine wm_goto (tgt := 83) C d_Mo_joinFact_69 rfl ?_
      refine wk_cut (c_83 b0 b1 b2 (32 : Int32) k0 v14.2 h) ?_
      exact ⟨rfl, rfl, rfl, trivial⟩
  have c_41 : ∀ (b0 : Nat) (b1 : Int32) (b2 : Int32) (b3 : Int32) (k0 : kd b0 = 8) (g : wm_Sg), mf_Mo_joinFact_41 b0 b1 b2 b3 g = some v → wm_W G X 9 0 0 wm_n (wm_S G) g 41 [(0, .ref (G.B + b0)), (1, .int b1), (2, .int b2), (3, .int b3)] [] := by
    intro b0 b1 b2 b3 k0 g h
    unfold mf_Mo_joinFact_41 at h
    refine wm_iconst (v := (0 : Int32)) C d_Mo_joinFact_41 (by decide) ?_
    refine wk_cut (c_42 b0 b1 b2 b3 (0 : Int32) k0 g h) ?_
    exact ⟨rfl, rfl, rfl, rfl, trivial⟩
  unfold mf_Mo_joinFact at h
  refine wm_aload_n C d_Mo_joinFact_0 rfl ?_
  refine gt_8_7 C k0 (ws_in iw_8) (ws_1 mw_1_235) d_Mo_joinFact_1 ?_
  refine wm_iload_n C d_Mo_joinFact_4 rfl ?_
  refine wk_iald C (kr_8_7 k0) d_Mo_joinFact_5 h (fun h => ?_)
  refine wm_aload_n C d_Mo_joinFact_6 rfl ?_
  refine gt_8_11 C k0 (ws_in iw_8) (ws_1 mw_1_239) d_Mo_joinFact_7 ?_
  refine wm_iload_n C d_Mo_joinFact_10 rfl ?_
  refine wk_iald C (kr_8_11 k0) d_Mo_joinFact_11 h (fun h => ?_)
  refine wk_bind h (fun v17 e17 h => wm_cSi (na := 2) C (mc_Mo_least (g (sh_r a0 7) (a1).toNatClampNeg) (g (sh_r a0 11) (a2).toNatClampNeg) g v17 e17) (gc_Mo_least mw_2_134) rfl (by decide +kernel) rfl (by decide) (by decide) d_Mo_joinFact_12 rfl (Nat.le_of_ble_eq_true rfl) (Nat.zero_le _) (Nat.zero_le _) (fun r17 u17 q17 => ?_))
  obtain ⟨rfl, rfl⟩ := q17
  refine wm_istore_n C d_Mo_joinFact_15 (by decide) ?_
  refine wm_iload_n C d_Mo_joinFact_16 rfl ?_
  refine wm_bipush (v := (32 : Int32)) C d_Mo_joinFact_17 (by decide) ?_
  refine wk_icmp_ne (tgt := 41) C d_Mo_joinFact_19 rfl h (fun _ h => ?_) (fun _ h => ?_)
  · refine wm_aload_n C d_Mo_joinFact_22 rfl ?_
    refine gt_8_8 C k0 (ws_in iw_8) (ws_1 mw_1_236) d_Mo_joinFact_23 ?_
    refine wm_iload_n C d_Mo_joinFact_26 rfl ?_
    refine wk_iald C (kr_8_8 k0) d_Mo_joinFact_27 h (fun h => ?_)
    refine wm_aload_n C d_Mo_joinFact_28 rfl ?_
    refine gt_8_12 C k0 (ws_in iw_8) (ws_1 mw_2_0) d_Mo_joinFact_29 ?_
    refine wm_iload_n C d_Mo_joinFact_32 rfl ?_
    refine wk_iald C (kr_8_12 k0) d_Mo_joinFact_33 h (fun h => ?_)
    refine wk_icmp_ne (tgt := 41) C d_Mo_joinFact_34 rfl h (fun _ h => ?_) (fun _ h => ?_)
    · refine wm_iconst (v := (1 : Int32)) C d_Mo_joinFact_37 (by decide) ?_
      refine wm_goto (tgt := 42) C d_Mo_joinFact_38 rfl ?_
      refine wk_cut (c_42 a0 a1 a2 v17.1 (1 : Int32) k0 v17.2 h) ?_
      exact ⟨rfl, rfl, rfl, rfl, trivial⟩
    · refine wk_cut (c_41 a0 a1 a2 v17.1 k0 v17.2 h) ?_
      exact ⟨rfl, rfl, rfl, rfl, trivial⟩
  · refine wk_cut (c_41 a0 a1 a2 v17.1 k0 v17.2 h) ?_
    exact ⟨rfl, rfl, rfl, rfl, trivial⟩
/-! FactFlowModel.join(I)V -/
def mf_Mo_join_32 (b0 : Nat) (b1 : Int32) (K32 : Int32 × wm_Sg → Option wm_Sg) (a : Int32 × wm_Sg) : Option wm_Sg :=
  if (4 : Int32) ≤ a.1 then (some (a.2)) else (if a.1 < 0 ∨ sh_n (sh_r b0 11) ≤ (a.1).toNatClampNeg then none else if (((4 : Int32) * b1) + a.1) < 0 ∨ sh_n (sh_r b0 7) ≤ ((((4 : Int32) * b1) + a.1)).toNatClampNeg then none else if a.1 < 0 ∨ sh_n (sh_r b0 12) ≤ (a.1).toNatClampNeg then none else if (((4 : Int32) * b1) + a.1) < 0 ∨ sh_n (sh_r b0 8) ≤ ((((4 : Int32) * b1) + a.1)).toNatClampNeg then none else if a.1 < 0 ∨ sh_n (sh_r b0 13) ≤ (a.1).toNatClampNeg then none else if (((4 : Int32) * b1) + a.1) < 0 ∨ sh_n (sh_r b0 9) ≤ ((((4 : Int32) * b1) + a.1)).toNatClampNeg then none else K32 ((a.1 + (1 : Int32)), wm_u (wm_u (wm_u a.2 (sh_r b0 7) ((((4 : Int32) * b1) + a.1)).toNatClampNeg (a.2 (sh_r b0 11) (a.1).toNatClampNeg)) (sh_r b0 8) ((((4 : Int32) * b1) + a.1)).toNatClampNeg ((wm_u a.2 (sh_r b0 7) ((((4 : Int32) * b1) + a.1)).toNatClampNeg (a.2 (sh_r b0 11) (a.1).toNatClampNeg)) (sh_r b0 12) (a.1).toNatClampNeg)) (sh_r b0 9) ((((4 : Int32) * b1) + a.1)).toNatClampNeg ((wm_u (wm_u a.2 (sh_r b0 7) ((((4 : Int32) * b1) + a.1)).toNatClampNeg (a.2 (sh_r b0 11) (a.1).toNatClampNeg)) (sh_r b0 8) ((((4 : Int32) * b1) + a.1)).toNatClampNeg ((wm_u a.2 (sh_r b0 7) ((((4 : Int32) * b1) + a.1)).toNatClampNeg (a.2 (sh_r b0 11) (a.1).toNatClampNeg)) (sh_r b0 12) (a.1).toNatClampNeg)) (sh_r b0 13) (a.1).toNatClampNeg)))
def mf_Mo_join_94 (b0 : Nat) (b1 : Int32) (K94 : Int32 × wm_Sg → Option wm_Sg) (a : Int32 × wm_Sg) : Option wm_Sg :=
  if (4 : Int32) ≤ a.1 then (some (a.2)) else ((mf_Mo_joinFact b0 (((4 : Int32) * b1) + a.1) a.1 a.2).bind fun v3 => K94 ((a.1 + (1 : Int32)), v3))
def mf_Mo_join (a0 : Nat) (a1 : Int32) (g : wm_Sg) : Option wm_Sg :=
  if a1 < (g a0 0) then (if a1 < 0 ∨ sh_n (sh_r a0 6) ≤ (a1).toNatClampNeg then none else if (g (sh_r a0 6) (a1).toNatClampNeg) = (0 : Int32) then (if a1 < 0 ∨ sh_n (sh_r a0 6) ≤ (a1).toNatClampNeg then none else lp_it (mf_Mo_join_32 a0 a1) 2100 ((0 : Int32), wm_u (wm_u g (sh_r a0 6) (a1).toNatClampNeg (1 : Int32)) a0 10 (1 : Int32))) else (lp_it (mf_Mo_join_94 a0 a1) 2100 ((0 : Int32), g))) else (some (g))
set_option maxHeartbeats 4000000 in
set_option maxRecDepth 100000 in
theorem mc_Mo_join {l : Launch} {G : wm_G} (a0 : Nat) (a1 : Int32) (g : wm_Sg) (v : wm_Sg) (k0 : kd a0 = 8) (h : mf_Mo_join a0 a1 g = some v) : wm_Mv l G y_Mo_join ws_Mo_join 2 wm_n (wm_S G) [.ref (G.B + a0), .int a1] g (fun u => u = v) := by
  refine wm_in_v (cc := c_Mo_join) (maxL := 3) (by decide) rfl (Nat.le_of_ble_eq_true rfl) (fun X C _ E => ?_)
  have c_32 : ∀ (b0 : Nat) (b1 : Int32) (k0 : kd b0 = 8) (f : Nat) (a : Int32 × wm_Sg), lp_it (mf_Mo_join_32 b0 b1) f a = some v → wm_W G X 3 0 0 wm_n (wm_S G) a.2 32 [(0, .ref (G.B + b0)), (1, .int b1), (2, .int a.1)] [] := by
    intro b0 b1 k0 f
    induction f with
    | zero => intro a h; cases h
    | succ f hK32 =>
      intro a h
      have h : mf_Mo_join_32 b0 b1 (lp_it (mf_Mo_join_32 b0 b1) f) a = some v := h
      unfold mf_Mo_join_32 at h
      refine wm_iload_n C d_Mo_join_32 rfl ?_
      refine wm_iconst (v := (4 : Int32)) C d_Mo_join_33 (by decide) ?_
      refine wk_icmp_ge (tgt := 91) C d_Mo_join_34 rfl h (fun _ h => ?_) (fun _ h => ?_)
      · exact E _ _ _ d_Mo_join_91 (Option.some.inj h)
      · refine wm_aload_n C d_Mo_join_37 rfl ?_
        refine gt_8_7 C k0 (ws_in iw_8) (ws_1 mw_1_235) d_Mo_join_38 ?_
        refine wm_iconst (v := (4 : Int32)) C d_Mo_join_41 (by decide) ?_
        refine wm_iload_n C d_Mo_join_42 rfl ?_
        refine wm_imul C d_Mo_join_43 ?_
        refine wm_iload_n C d_Mo_join_44 rfl ?_
        refine wm_iadd C d_Mo_join_45 ?_
        refine wm_aload_n C d_Mo_join_46 rfl ?_
        refine gt_8_11 C k0 (ws_in iw_8) (ws_1 mw_1_239) d_Mo_join_47 ?_
        refine wm_iload_n C d_Mo_join_50 rfl ?_
        refine wk_iald C (kr_8_11 k0) d_Mo_join_51 h (fun h => ?_)
        refine wk_iast C (kr_8_7 k0) d_Mo_join_52 h (fun h => ?_)
        refine wm_aload_n C d_Mo_join_53 rfl ?_
        refine gt_8_8 C k0 (ws_in iw_8) (ws_1 mw_1_236) d_Mo_join_54 ?_
        refine wm_iconst (v := (4 : Int32)) C d_Mo_join_57 (by decide) ?_
        refine wm_iload_n C d_Mo_join_58 rfl ?_
        refine wm_imul C d_Mo_join_59 ?_
        refine wm_iload_n C d_Mo_join_60 rfl ?_
        refine wm_iadd C d_Mo_join_61 ?_
        refine wm_aload_n C d_Mo_join_62 rfl ?_
        refine gt_8_12 C k0 (ws_in iw_8) (ws_1 mw_2_0) d_Mo_join_63 ?_
        refine wm_iload_n C d_Mo_join_66 rfl ?_
        refine wk_iald C (kr_8_12 k0) d_Mo_join_67 h (fun h => ?_)
        refine wk_iast C (kr_8_8 k0) d_Mo_join_68 h (fun h => ?_)
        refine wm_aload_n C d_Mo_join_69 rfl ?_
        refine gt_8_9 C k0 (ws_in iw_8) (ws_1 mw_1_237) d_Mo_join_70 ?_
        refine wm_iconst (v := (4 : Int32)) C d_Mo_join_73 (by decide) ?_
        refine wm_iload_n C d_Mo_join_74 rfl ?_
        refine wm_imul C d_Mo_join_75 ?_
        refine wm_iload_n C d_Mo_join_76 rfl ?_
        refine wm_iadd C d_Mo_join_77 ?_
        refine wm_aload_n C d_Mo_join_78 rfl ?_
        refine gt_8_13 C k0 (ws_in iw_8) (ws_1 mw_2_1) d_Mo_join_79 ?_
        refine wm_iload_n C d_Mo_join_82 rfl ?_
        refine wk_iald C (kr_8_13 k0) d_Mo_join_83 h (fun h => ?_)
        refine wk_iast C (kr_8_9 k0) d_Mo_join_84 h (fun h => ?_)
        refine wk_iinc C (1 : Int32) d_Mo_join_85 (by decide) rfl (by decide) ?_
        refine wm_goto (tgt := 32) C d_Mo_join_88 rfl ?_
        refine wk_cut (hK32 ((a.1 + (1 : Int32)), wm_u (wm_u (wm_u a.2 (sh_r b0 7) ((((4 : Int32) * b1) + a.1)).toNatClampNeg (a.2 (sh_r b0 11) (a.1).toNatClampNeg)) (sh_r b0 8) ((((4 : Int32) * b1) + a.1)).toNatClampNeg ((wm_u a.2 (sh_r b0 7) ((((4 : Int32) * b1) + a.1)).toNatClampNeg (a.2 (sh_r b0 11) (a.1).toNatClampNeg)) (sh_r b0 12) (a.1).toNatClampNeg)) (sh_r b0 9) ((((4 : Int32) * b1) + a.1)).toNatClampNeg ((wm_u (wm_u a.2 (sh_r b0 7) ((((4 : Int32) * b1) + a.1)).toNatClampNeg (a.2 (sh_r b0 11) (a.1).toNatClampNeg)) (sh_r b0 8) ((((4 : Int32) * b1) + a.1)).toNatClampNeg ((wm_u a.2 (sh_r b0 7) ((((4 : Int32) * b1) + a.1)).toNatClampNeg (a.2 (sh_r b0 11) (a.1).toNatClampNeg)) (sh_r b0 12) (a.1).toNatClampNeg)) (sh_r b0 13) (a.1).toNatClampNeg)) h) ?_
        exact ⟨rfl, rfl, rfl, trivial⟩
  have c_94 : ∀ (b0 : Nat) (b1 : Int32) (k0 : kd b0 = 8) (f : Nat) (a : Int32 × wm_Sg), lp_it (mf_Mo_join_94 b0 b1) f a = some v → wm_W G X 3 0 0 wm_n (wm_S G) a.2 94 [(0, .ref (G.B + b0)), (1, .int b1), (2, .int a.1)] [] := by
    intro b0 b1 k0 f
    induction f with
    | zero => intro a h; cases h
    | succ f hK94 =>
      intro a h
      have h : mf_Mo_join_94 b0 b1 (lp_it (mf_Mo_join_94 b0 b1) f) a = some v := h
      unfold mf_Mo_join_94 at h
      refine wm_iload_n C d_Mo_join_94 rfl ?_
      refine wm_iconst (v := (4 : Int32)) C d_Mo_join_95 (by decide) ?_
      refine wk_icmp_ge (tgt := 115) C d_Mo_join_96 rfl h (fun _ h => ?_) (fun _ h => ?_)
      · exact E _ _ _ d_Mo_join_115 (Option.some.inj h)
      · refine wm_aload_n C d_Mo_join_99 rfl ?_
        refine wm_iconst (v := (4 : Int32)) C d_Mo_join_100 (by decide) ?_
        refine wm_iload_n C d_Mo_join_101 rfl ?_
        refine wm_imul C d_Mo_join_102 ?_
        refine wm_iload_n C d_Mo_join_103 rfl ?_
        refine wm_iadd C d_Mo_join_104 ?_
        refine wm_iload_n C d_Mo_join_105 rfl ?_
        refine wk_bind h (fun v3 e3 h => wm_cVv (ci := 8) (q := (Rn_8, Tn_8, 25)) (na := 2) C (mc_Mo_joinFact b0 (((4 : Int32) * b1) + a.1) a.1 a.2 v3 k0 e3) (gc_Mo_joinFact mw_2_130) (kd_lt (by rw [k0]; decide)) rfl ⟨_, wm_S_8 k0 _⟩ rfl rfl (by decide +kernel) rfl (by decide) (by decide) d_Mo_join_106 rfl (Nat.le_of_ble_eq_true rfl) (Nat.zero_le _) (Nat.zero_le _) (fun u3 q3 => ?_))
        subst u3
        refine wk_iinc C (1 : Int32) d_Mo_join_109 (by decide) rfl (by decide) ?_
        refine wm_goto (tgt := 94) C d_Mo_join_112 rfl ?_
        refine wk_cut (hK94 ((a.1 + (1 : Int32)), v3) h) ?_
        exact ⟨rfl, rfl, rfl, trivial⟩
  unfold mf_Mo_join at h
  refine wm_iload_n C d_Mo_join_0 rfl ?_
  refine wm_aload_n C d_Mo_join_1 rfl ?_
  refine gt_8_0 C k0 (ws_in iw_8) (ws_1 mw_1_228) d_Mo_join_2 ?_
  refine wk_icmp_lt (tgt := 9) C d_Mo_join_5 rfl h (fun _ h => ?_) (fun _ h => ?_)
  · refine wm_aload_n C d_Mo_join_9 rfl ?_
    refine gt_8_6 C k0 (ws_in iw_8) (ws_1 mw_1_234) d_Mo_join_10 ?_
    refine wm_iload_n C d_Mo_join_13 rfl ?_
    refine wk_zald C (kr_8_6 k0) d_Mo_join_14 h (fun h => ?_)
    refine wk_if_ne (tgt := 92) C d_Mo_join_15 rfl h (fun _ h => ?_) (fun _ h => ?_)
    · refine wm_aload_n C d_Mo_join_18 rfl ?_
      refine gt_8_6 C k0 (ws_in iw_8) (ws_1 mw_1_234) d_Mo_join_19 ?_
      refine wm_iload_n C d_Mo_join_22 rfl ?_
      refine wm_iconst (v := (1 : Int32)) C d_Mo_join_23 (by decide) ?_
      refine wk_zast C (kr_8_6 k0) rfl d_Mo_join_24 h (fun h => ?_)
      refine wm_aload_n C d_Mo_join_25 rfl ?_
      refine wm_iconst (v := (1 : Int32)) C d_Mo_join_26 (by decide) ?_
      refine pt_8_10 C k0 (Or.inr rfl) (ws_in iw_8) (ws_1 mw_1_238) d_Mo_join_27 ?_
      refine wm_iconst (v := (0 : Int32)) C d_Mo_join_30 (by decide) ?_
      refine wm_istore_n C d_Mo_join_31 (by decide) ?_
      refine wk_cut (c_32 a0 a1 k0 2100 ((0 : Int32), wm_u (wm_u g (sh_r a0 6) (a1).toNatClampNeg (1 : Int32)) a0 10 (1 : Int32)) h) ?_
      exact ⟨rfl, rfl, rfl, trivial⟩
    · refine wm_iconst (v := (0 : Int32)) C d_Mo_join_92 (by decide) ?_
      refine wm_istore_n C d_Mo_join_93 (by decide) ?_
      refine wk_cut (c_94 a0 a1 k0 2100 ((0 : Int32), g) h) ?_
      exact ⟨rfl, rfl, rfl, trivial⟩
  · exact E _ _ _ d_Mo_join_8 (Option.some.inj h)
/-! FactFlowModel.result(III)V -/
def mf_Mo_result (a0 : Nat) (a1 : Int32) (a2 : Int32) (a3 : Int32) (g : wm_Sg) : Option wm_Sg :=
  some (wm_u (wm_u (wm_u g a0 14 a1) a0 15 a2) a0 16 a3)
set_option maxHeartbeats 4000000 in
set_option maxRecDepth 100000 in
theorem mc_Mo_result {l : Launch} {G : wm_G} (a0 : Nat) (a1 : Int32) (a2 : Int32) (a3 : Int32) (g : wm_Sg) (v : wm_Sg) (k0 : kd a0 = 8) (h : mf_Mo_result a0 a1 a2 a3 g = some v) : wm_Mv l G y_Mo_result ws_Mo_result 0 wm_n (wm_S G) [.ref (G.B + a0), .int a1, .int a2, .int a3] g (fun u => u = v) := by
  refine wm_in_v (cc := c_Mo_result) (maxL := 4) (by decide) rfl (Nat.le_of_ble_eq_true rfl) (fun X C _ E => ?_)
  unfold mf_Mo_result at h
  refine wm_aload_n C d_Mo_result_0 rfl ?_
  refine wm_iload_n C d_Mo_result_1 rfl ?_
  refine pt_8_14 C k0 (ws_in iw_8) (ws_1 mw_2_2) d_Mo_result_2 ?_
  refine wm_aload_n C d_Mo_result_5 rfl ?_
  refine wm_iload_n C d_Mo_result_6 rfl ?_
  refine pt_8_15 C k0 (ws_in iw_8) (ws_1 mw_2_3) d_Mo_result_7 ?_
  refine wm_aload_n C d_Mo_result_10 rfl ?_
  refine wm_iload_n C d_Mo_result_11 rfl ?_
  refine pt_8_16 C k0 (ws_in iw_8) (ws_1 mw_2_4) d_Mo_result_12 ?_
  exact E _ _ _ d_Mo_result_15 (Option.some.inj h)
/-! FactFlowModel.take(I)V -/
def mf_Mo_take (a0 : Nat) (a1 : Int32) (g : wm_Sg) : Option wm_Sg :=
  if a1 < 0 ∨ sh_n (sh_r a0 11) ≤ (a1).toNatClampNeg then none else if a1 < 0 ∨ sh_n (sh_r a0 12) ≤ (a1).toNatClampNeg then none else if a1 < 0 ∨ sh_n (sh_r a0 13) ≤ (a1).toNatClampNeg then none else some (wm_u (wm_u (wm_u g (sh_r a0 11) (a1).toNatClampNeg (g a0 14)) (sh_r a0 12) (a1).toNatClampNeg ((wm_u g (sh_r a0 11) (a1).toNatClampNeg (g a0 14)) a0 15)) (sh_r a0 13) (a1).toNatClampNeg ((wm_u (wm_u g (sh_r a0 11) (a1).toNatClampNeg (g a0 14)) (sh_r a0 12) (a1).toNatClampNeg ((wm_u g (sh_r a0 11) (a1).toNatClampNeg (g a0 14)) a0 15)) a0 16))
set_option maxHeartbeats 4000000 in
set_option maxRecDepth 100000 in
theorem mc_Mo_take {l : Launch} {G : wm_G} (a0 : Nat) (a1 : Int32) (g : wm_Sg) (v : wm_Sg) (k0 : kd a0 = 8) (h : mf_Mo_take a0 a1 g = some v) : wm_Mv l G y_Mo_take ws_Mo_take 0 wm_n (wm_S G) [.ref (G.B + a0), .int a1] g (fun u => u = v) := by
  refine wm_in_v (cc := c_Mo_take) (maxL := 2) (by decide) rfl (Nat.le_of_ble_eq_true rfl) (fun X C _ E => ?_)
  unfold mf_Mo_take at h
  refine wm_aload_n C d_Mo_take_0 rfl ?_
  refine gt_8_11 C k0 (ws_in iw_8) (ws_1 mw_1_239) d_Mo_take_1 ?_
  refine wm_iload_n C d_Mo_take_4 rfl ?_
  refine wm_aload_n C d_Mo_take_5 rfl ?_
  refine gt_8_14 C k0 (ws_in iw_8) (ws_1 mw_2_2) d_Mo_take_6 ?_
  refine wk_iast C (kr_8_11 k0) d_Mo_take_9 h (fun h => ?_)
  refine wm_aload_n C d_Mo_take_10 rfl ?_
  refine gt_8_12 C k0 (ws_in iw_8) (ws_1 mw_2_0) d_Mo_take_11 ?_
  refine wm_iload_n C d_Mo_take_14 rfl ?_
  refine wm_aload_n C d_Mo_take_15 rfl ?_
  refine gt_8_15 C k0 (ws_in iw_8) (ws_1 mw_2_3) d_Mo_take_16 ?_
  refine wk_iast C (kr_8_12 k0) d_Mo_take_19 h (fun h => ?_)
  refine wm_aload_n C d_Mo_take_20 rfl ?_
  refine gt_8_13 C k0 (ws_in iw_8) (ws_1 mw_2_1) d_Mo_take_21 ?_
  refine wm_iload_n C d_Mo_take_24 rfl ?_
  refine wm_aload_n C d_Mo_take_25 rfl ?_
  refine gt_8_16 C k0 (ws_in iw_8) (ws_1 mw_2_4) d_Mo_take_26 ?_
  refine wk_iast C (kr_8_13 k0) d_Mo_take_29 h (fun h => ?_)
  exact E _ _ _ d_Mo_take_30 (Option.some.inj h)
/-! FactFlowModel.load(I)V -/
def mf_Mo_load_2 (b0 : Nat) (b1 : Int32) (K2 : Int32 × wm_Sg → Option wm_Sg) (a : Int32 × wm_Sg) : Option wm_Sg :=
  if (4 : Int32) ≤ a.1 then (some (a.2)) else (if (((4 : Int32) * b1) + a.1) < 0 ∨ sh_n (sh_r b0 7) ≤ ((((4 : Int32) * b1) + a.1)).toNatClampNeg then none else if a.1 < 0 ∨ sh_n (sh_r b0 11) ≤ (a.1).toNatClampNeg then none else if (((4 : Int32) * b1) + a.1) < 0 ∨ sh_n (sh_r b0 8) ≤ ((((4 : Int32) * b1) + a.1)).toNatClampNeg then none else if a.1 < 0 ∨ sh_n (sh_r b0 12) ≤ (a.1).toNatClampNeg then none else if (((4 : Int32) * b1) + a.1) < 0 ∨ sh_n (sh_r b0 9) ≤ ((((4 : Int32) * b1) + a.1)).toNatClampNeg then none else if a.1 < 0 ∨ sh_n (sh_r b0 13) ≤ (a.1).toNatClampNeg then none else K2 ((a.1 + (1 : Int32)), wm_u (wm_u (wm_u a.2 (sh_r b0 11) (a.1).toNatClampNeg (a.2 (sh_r b0 7) ((((4 : Int32) * b1) + a.1)).toNatClampNeg)) (sh_r b0 12) (a.1).toNatClampNeg ((wm_u a.2 (sh_r b0 11) (a.1).toNatClampNeg (a.2 (sh_r b0 7) ((((4 : Int32) * b1) + a.1)).toNatClampNeg)) (sh_r b0 8) ((((4 : Int32) * b1) + a.1)).toNatClampNeg)) (sh_r b0 13) (a.1).toNatClampNeg ((wm_u (wm_u a.2 (sh_r b0 11) (a.1).toNatClampNeg (a.2 (sh_r b0 7) ((((4 : Int32) * b1) + a.1)).toNatClampNeg)) (sh_r b0 12) (a.1).toNatClampNeg ((wm_u a.2 (sh_r b0 11) (a.1).toNatClampNeg (a.2 (sh_r b0 7) ((((4 : Int32) * b1) + a.1)).toNatClampNeg)) (sh_r b0 8) ((((4 : Int32) * b1) + a.1)).toNatClampNeg)) (sh_r b0 9) ((((4 : Int32) * b1) + a.1)).toNatClampNeg)))
def mf_Mo_load (a0 : Nat) (a1 : Int32) (g : wm_Sg) : Option wm_Sg :=
  lp_it (mf_Mo_load_2 a0 a1) 2100 ((0 : Int32), g)
set_option maxHeartbeats 4000000 in
set_option maxRecDepth 100000 in
theorem mc_Mo_load {l : Launch} {G : wm_G} (a0 : Nat) (a1 : Int32) (g : wm_Sg) (v : wm_Sg) (k0 : kd a0 = 8) (h : mf_Mo_load a0 a1 g = some v) : wm_Mv l G y_Mo_load ws_Mo_load 0 wm_n (wm_S G) [.ref (G.B + a0), .int a1] g (fun u => u = v) := by
  refine wm_in_v (cc := c_Mo_load) (maxL := 3) (by decide) rfl (Nat.le_of_ble_eq_true rfl) (fun X C _ E => ?_)
  have c_2 : ∀ (b0 : Nat) (b1 : Int32) (k0 : kd b0 = 8) (f : Nat) (a : Int32 × wm_Sg), lp_it (mf_Mo_load_2 b0 b1) f a = some v → wm_W G X 3 0 0 wm_n (wm_S G) a.2 2 [(0, .ref (G.B + b0)), (1, .int b1), (2, .int a.1)] [] := by
    intro b0 b1 k0 f
    induction f with
    | zero => intro a h; cases h
    | succ f hK2 =>
      intro a h
      have h : mf_Mo_load_2 b0 b1 (lp_it (mf_Mo_load_2 b0 b1) f) a = some v := h
      unfold mf_Mo_load_2 at h
      refine wm_iload_n C d_Mo_load_2 rfl ?_
      refine wm_iconst (v := (4 : Int32)) C d_Mo_load_3 (by decide) ?_
      refine wk_icmp_ge (tgt := 61) C d_Mo_load_4 rfl h (fun _ h => ?_) (fun _ h => ?_)
      · exact E _ _ _ d_Mo_load_61 (Option.some.inj h)
      · refine wm_aload_n C d_Mo_load_7 rfl ?_
        refine gt_8_11 C k0 (ws_in iw_8) (ws_1 mw_1_239) d_Mo_load_8 ?_
        refine wm_iload_n C d_Mo_load_11 rfl ?_
        refine wm_aload_n C d_Mo_load_12 rfl ?_
        refine gt_8_7 C k0 (ws_in iw_8) (ws_1 mw_1_235) d_Mo_load_13 ?_
        refine wm_iconst (v := (4 : Int32)) C d_Mo_load_16 (by decide) ?_
        refine wm_iload_n C d_Mo_load_17 rfl ?_
        refine wm_imul C d_Mo_load_18 ?_
        refine wm_iload_n C d_Mo_load_19 rfl ?_
        refine wm_iadd C d_Mo_load_20 ?_
        refine wk_iald C (kr_8_7 k0) d_Mo_load_21 h (fun h => ?_)
        refine wk_iast C (kr_8_11 k0) d_Mo_load_22 h (fun h => ?_)
        refine wm_aload_n C d_Mo_load_23 rfl ?_
        refine gt_8_12 C k0 (ws_in iw_8) (ws_1 mw_2_0) d_Mo_load_24 ?_
        refine wm_iload_n C d_Mo_load_27 rfl ?_
        refine wm_aload_n C d_Mo_load_28 rfl ?_
        refine gt_8_8 C k0 (ws_in iw_8) (ws_1 mw_1_236) d_Mo_load_29 ?_
        refine wm_iconst (v := (4 : Int32)) C d_Mo_load_32 (by decide) ?_
        refine wm_iload_n C d_Mo_load_33 rfl ?_
        refine wm_imul C d_Mo_load_34 ?_
        refine wm_iload_n C d_Mo_load_35 rfl ?_
        refine wm_iadd C d_Mo_load_36 ?_
        refine wk_iald C (kr_8_8 k0) d_Mo_load_37 h (fun h => ?_)
        refine wk_iast C (kr_8_12 k0) d_Mo_load_38 h (fun h => ?_)
        refine wm_aload_n C d_Mo_load_39 rfl ?_
        refine gt_8_13 C k0 (ws_in iw_8) (ws_1 mw_2_1) d_Mo_load_40 ?_
        refine wm_iload_n C d_Mo_load_43 rfl ?_
        refine wm_aload_n C d_Mo_load_44 rfl ?_
        refine gt_8_9 C k0 (ws_in iw_8) (ws_1 mw_1_237) d_Mo_load_45 ?_
        refine wm_iconst (v := (4 : Int32)) C d_Mo_load_48 (by decide) ?_
        refine wm_iload_n C d_Mo_load_49 rfl ?_
        refine wm_imul C d_Mo_load_50 ?_
        refine wm_iload_n C d_Mo_load_51 rfl ?_
        refine wm_iadd C d_Mo_load_52 ?_
        refine wk_iald C (kr_8_9 k0) d_Mo_load_53 h (fun h => ?_)
        refine wk_iast C (kr_8_13 k0) d_Mo_load_54 h (fun h => ?_)
        refine wk_iinc C (1 : Int32) d_Mo_load_55 (by decide) rfl (by decide) ?_
        refine wm_goto (tgt := 2) C d_Mo_load_58 rfl ?_
        refine wk_cut (hK2 ((a.1 + (1 : Int32)), wm_u (wm_u (wm_u a.2 (sh_r b0 11) (a.1).toNatClampNeg (a.2 (sh_r b0 7) ((((4 : Int32) * b1) + a.1)).toNatClampNeg)) (sh_r b0 12) (a.1).toNatClampNeg ((wm_u a.2 (sh_r b0 11) (a.1).toNatClampNeg (a.2 (sh_r b0 7) ((((4 : Int32) * b1) + a.1)).toNatClampNeg)) (sh_r b0 8) ((((4 : Int32) * b1) + a.1)).toNatClampNeg)) (sh_r b0 13) (a.1).toNatClampNeg ((wm_u (wm_u a.2 (sh_r b0 11) (a.1).toNatClampNeg (a.2 (sh_r b0 7) ((((4 : Int32) * b1) + a.1)).toNatClampNeg)) (sh_r b0 12) (a.1).toNatClampNeg ((wm_u a.2 (sh_r b0 11) (a.1).toNatClampNeg (a.2 (sh_r b0 7) ((((4 : Int32) * b1) + a.1)).toNatClampNeg)) (sh_r b0 8) ((((4 : Int32) * b1) + a.1)).toNatClampNeg)) (sh_r b0 9) ((((4 : Int32) * b1) + a.1)).toNatClampNeg)) h) ?_
        exact ⟨rfl, rfl, rfl, trivial⟩
  unfold mf_Mo_load at h
  refine wm_iconst (v := (0 : Int32)) C d_Mo_load_0 (by decide) ?_
  refine wm_istore_n C d_Mo_load_1 (by decide) ?_
  refine wk_cut (c_2 a0 a1 k0 2100 ((0 : Int32), g) h) ?_
  exact ⟨rfl, rfl, rfl, trivial⟩
/-! FactFlowModel.sign(I)I -/
def mf_Mo_sign_17 (s0 : Int32) (g : wm_Sg) : Option (Int32 × wm_Sg) :=
  some (s0, g)
def mf_Mo_sign (a0 : Int32) (g : wm_Sg) : Option (Int32 × wm_Sg) :=
  if (0 : Int32) ≤ a0 then (if a0 ≤ (0 : Int32) then (mf_Mo_sign_17 (2 : Int32) g) else (mf_Mo_sign_17 (4 : Int32) g)) else (mf_Mo_sign_17 (1 : Int32) g)
set_option maxHeartbeats 4000000 in
set_option maxRecDepth 100000 in
theorem mc_Mo_sign {l : Launch} {G : wm_G} (a0 : Int32) (g : wm_Sg) (v : (Int32 × wm_Sg)) (h : mf_Mo_sign a0 g = some v) : wm_Mi l G y_Mo_sign ws_Mo_sign 0 wm_n (wm_S G) [.int a0] g (fun r u => r = v.1 ∧ u = v.2) := by
  refine wm_in_i (cc := c_Mo_sign) (maxL := 1) (by decide) rfl (Nat.le_of_ble_eq_true rfl) (fun X C _ E => ?_)
  have c_17 : ∀ (s0 : Int32) (g : wm_Sg), mf_Mo_sign_17  s0 g = some v → wm_W G X 1 0 0 wm_n (wm_S G) g 17 [] [.int s0] := by
    intro s0 g h
    unfold mf_Mo_sign_17 at h
    exact E _ _ _ _ d_Mo_sign_17 (wk_ret h)
  unfold mf_Mo_sign at h
  refine wm_iload_n C d_Mo_sign_0 rfl ?_
  refine wk_if_ge (tgt := 8) C d_Mo_sign_1 rfl h (fun _ h => ?_) (fun _ h => ?_)
  · refine wm_iload_n C d_Mo_sign_8 rfl ?_
    refine wk_if_le (tgt := 16) C d_Mo_sign_9 rfl h (fun _ h => ?_) (fun _ h => ?_)
    · refine wm_iconst (v := (2 : Int32)) C d_Mo_sign_16 (by decide) ?_
      refine wk_cut (c_17 (2 : Int32) g h) ?_
      exact trivial
    · refine wm_iconst (v := (4 : Int32)) C d_Mo_sign_12 (by decide) ?_
      refine wm_goto (tgt := 17) C d_Mo_sign_13 rfl ?_
      refine wk_cut (c_17 (4 : Int32) g h) ?_
      exact trivial
  · refine wm_iconst (v := (1 : Int32)) C d_Mo_sign_4 (by decide) ?_
    refine wm_goto (tgt := 17) C d_Mo_sign_5 rfl ?_
    refine wk_cut (c_17 (1 : Int32) g h) ?_
    exact trivial
/-! FactFlowModel.reduced()Z -/
def mf_Mo_reduced_92 (s0 : Int32) (g : wm_Sg) : Option (Int32 × wm_Sg) :=
  if s0 = 0 ∨ s0 = 1 then some (s0, g) else none
def mf_Mo_reduced_80 (b0 : Nat) (g : wm_Sg) : Option (Int32 × wm_Sg) :=
  if (g b0 16) = (0 : Int32) then (mf_Mo_reduced_92 (0 : Int32) g) else (mf_Mo_reduced_92 (1 : Int32) g)
def mf_Mo_reduced_61 (b0 : Nat) (g : wm_Sg) : Option (Int32 × wm_Sg) :=
  if (g b0 16) = (2 : Int32) then (mf_Mo_reduced_80 b0 (wm_u (wm_u g b0 14 (32 : Int32)) b0 15 (0 : Int32))) else (mf_Mo_reduced_80 b0 g)
def mf_Mo_reduced (a0 : Nat) (g : wm_Sg) : Option (Int32 × wm_Sg) :=
  (mf_Mo_cut (g a0 15) (g a0 14) g).bind fun v3 => if ((wm_u v3.2 a0 15 v3.1) a0 14) = (32 : Int32) then ((mf_Mo_sign ((wm_u v3.2 a0 15 v3.1) a0 15) (wm_u v3.2 a0 15 v3.1)).bind fun v4 => mf_Mo_reduced_61 a0 (wm_u v4.2 a0 16 (((wm_u v3.2 a0 15 v3.1) a0 16) &&& v4.1))) else (if ((wm_u v3.2 a0 15 v3.1) a0 15) = (0 : Int32) then (mf_Mo_reduced_61 a0 (wm_u v3.2 a0 15 v3.1)) else (mf_Mo_reduced_61 a0 (wm_u (wm_u v3.2 a0 15 v3.1) a0 16 (((wm_u v3.2 a0 15 v3.1) a0 16) &&& (-3 : Int32)))))
set_option maxHeartbeats 4000000 in
set_option maxRecDepth 100000 in
theorem mc_Mo_reduced {l : Launch} {G : wm_G} (a0 : Nat) (g : wm_Sg) (v : (Int32 × wm_Sg)) (k0 : kd a0 = 8) (h : mf_Mo_reduced a0 g = some v) : wm_Mi l G y_Mo_reduced ws_Mo_reduced 1 wm_n (wm_S G) [.ref (G.B + a0)] g (fun r u => r = v.1 ∧ u = v.2) := by
  refine wm_in_z (cc := c_Mo_reduced) (maxL := 1) (by decide) rfl (Nat.le_of_ble_eq_true rfl) (fun X C _ E => ?_)
  have c_92 : ∀ (s0 : Int32) (g : wm_Sg), mf_Mo_reduced_92  s0 g = some v → wm_W G X 1 0 0 wm_n (wm_S G) g 92 [] [.int s0] := by
    intro s0 g h
    unfold mf_Mo_reduced_92 at h
    exact wk_yes h (fun q h => E _ _ _ _ d_Mo_reduced_92 (wk_nar q) (wk_ret h))
  have c_80 : ∀ (b0 : Nat) (k0 : kd b0 = 8) (g : wm_Sg), mf_Mo_reduced_80 b0 g = some v → wm_W G X 1 0 0 wm_n (wm_S G) g 80 [(0, .ref (G.B + b0))] [] := by
    intro b0 k0 g h
    unfold mf_Mo_reduced_80 at h
    refine wm_aload_n C d_Mo_reduced_80 rfl ?_
    refine gt_8_16 C k0 (ws_in iw_8) (ws_1 mw_2_4) d_Mo_reduced_81 ?_
    refine wk_if_eq (tgt := 91) C d_Mo_reduced_84 rfl h (fun _ h => ?_) (fun _ h => ?_)
    · refine wm_iconst (v := (0 : Int32)) C d_Mo_reduced_91 (by decide) ?_
      refine wk_cut (c_92 (0 : Int32) g h) ?_
      exact trivial
    · refine wm_iconst (v := (1 : Int32)) C d_Mo_reduced_87 (by decide) ?_
      refine wm_goto (tgt := 92) C d_Mo_reduced_88 rfl ?_
      refine wk_cut (c_92 (1 : Int32) g h) ?_
      exact trivial
  have c_61 : ∀ (b0 : Nat) (k0 : kd b0 = 8) (g : wm_Sg), mf_Mo_reduced_61 b0 g = some v → wm_W G X 1 0 0 wm_n (wm_S G) g 61 [(0, .ref (G.B + b0))] [] := by
    intro b0 k0 g h
    unfold mf_Mo_reduced_61 at h
    refine wm_aload_n C d_Mo_reduced_61 rfl ?_
    refine gt_8_16 C k0 (ws_in iw_8) (ws_1 mw_2_4) d_Mo_reduced_62 ?_
    refine wm_iconst (v := (2 : Int32)) C d_Mo_reduced_65 (by decide) ?_
    refine wk_icmp_ne (tgt := 80) C d_Mo_reduced_66 rfl h (fun _ h => ?_) (fun _ h => ?_)
    · refine wm_aload_n C d_Mo_reduced_69 rfl ?_
      refine wm_bipush (v := (32 : Int32)) C d_Mo_reduced_70 (by decide) ?_
      refine pt_8_14 C k0 (ws_in iw_8) (ws_1 mw_2_2) d_Mo_reduced_72 ?_
      refine wm_aload_n C d_Mo_reduced_75 rfl ?_
      refine wm_iconst (v := (0 : Int32)) C d_Mo_reduced_76 (by decide) ?_
      refine pt_8_15 C k0 (ws_in iw_8) (ws_1 mw_2_3) d_Mo_reduced_77 ?_
      refine wk_cut (c_80 b0 k0 (wm_u (wm_u g b0 14 (32 : Int32)) b0 15 (0 : Int32)) h) ?_
      exact ⟨rfl, trivial⟩
    · refine wk_cut (c_80 b0 k0 g h) ?_
      exact ⟨rfl, trivial⟩
  unfold mf_Mo_reduced at h
  refine wm_aload_n C d_Mo_reduced_0 rfl ?_
  refine wm_aload_n C d_Mo_reduced_1 rfl ?_
  refine gt_8_15 C k0 (ws_in iw_8) (ws_1 mw_2_3) d_Mo_reduced_2 ?_
  refine wm_aload_n C d_Mo_reduced_5 rfl ?_
  refine gt_8_14 C k0 (ws_in iw_8) (ws_1 mw_2_2) d_Mo_reduced_6 ?_
  refine wk_bind h (fun v3 e3 h => wm_cSi (na := 2) C (mc_Mo_cut (g a0 15) (g a0 14) g v3 e3) (gc_Mo_cut mw_2_140) rfl (by decide +kernel) rfl (by decide) (by decide) d_Mo_reduced_9 rfl (Nat.le_of_ble_eq_true rfl) (Nat.zero_le _) (Nat.zero_le _) (fun r3 u3 q3 => ?_))
  obtain ⟨rfl, rfl⟩ := q3
  refine pt_8_15 C k0 (ws_in iw_8) (ws_1 mw_2_3) d_Mo_reduced_12 ?_
  refine wm_aload_n C d_Mo_reduced_15 rfl ?_
  refine gt_8_14 C k0 (ws_in iw_8) (ws_1 mw_2_2) d_Mo_reduced_16 ?_
  refine wm_bipush (v := (32 : Int32)) C d_Mo_reduced_19 (by decide) ?_
  refine wk_icmp_ne (tgt := 43) C d_Mo_reduced_21 rfl h (fun _ h => ?_) (fun _ h => ?_)
  · refine wm_aload_n C d_Mo_reduced_24 rfl ?_
    refine wm_aload_n C d_Mo_reduced_25 rfl ?_
    refine gt_8_16 C k0 (ws_in iw_8) (ws_1 mw_2_4) d_Mo_reduced_26 ?_
    refine wm_aload_n C d_Mo_reduced_29 rfl ?_
    refine gt_8_15 C k0 (ws_in iw_8) (ws_1 mw_2_3) d_Mo_reduced_30 ?_
    refine wk_bind h (fun v4 e4 h => wm_cSi (na := 1) C (mc_Mo_sign ((wm_u v3.2 a0 15 v3.1) a0 15) (wm_u v3.2 a0 15 v3.1) v4 e4) (gc_Mo_sign mw_2_159) rfl (by decide +kernel) rfl (by decide) (by decide) d_Mo_reduced_33 rfl (Nat.le_of_ble_eq_true rfl) (Nat.zero_le _) (Nat.zero_le _) (fun r4 u4 q4 => ?_))
    obtain ⟨rfl, rfl⟩ := q4
    refine wm_iand C d_Mo_reduced_36 ?_
    refine pt_8_16 C k0 (ws_in iw_8) (ws_1 mw_2_4) d_Mo_reduced_37 ?_
    refine wm_goto (tgt := 61) C d_Mo_reduced_40 rfl ?_
    refine wk_cut (c_61 a0 k0 (wm_u v4.2 a0 16 (((wm_u v3.2 a0 15 v3.1) a0 16) &&& v4.1)) h) ?_
    exact ⟨rfl, trivial⟩
  · refine wm_aload_n C d_Mo_reduced_43 rfl ?_
    refine gt_8_15 C k0 (ws_in iw_8) (ws_1 mw_2_3) d_Mo_reduced_44 ?_
    refine wk_if_eq (tgt := 61) C d_Mo_reduced_47 rfl h (fun _ h => ?_) (fun _ h => ?_)
    · refine wk_cut (c_61 a0 k0 (wm_u v3.2 a0 15 v3.1) h) ?_
      exact ⟨rfl, trivial⟩
    · refine wm_aload_n C d_Mo_reduced_50 rfl ?_
      refine wm_aload_n C d_Mo_reduced_51 rfl ?_
      refine gt_8_16 C k0 (ws_in iw_8) (ws_1 mw_2_4) d_Mo_reduced_52 ?_
      refine wm_bipush (v := (-3 : Int32)) C d_Mo_reduced_55 (by decide) ?_
      refine wm_iand C d_Mo_reduced_57 ?_
      refine pt_8_16 C k0 (ws_in iw_8) (ws_1 mw_2_4) d_Mo_reduced_58 ?_
      refine wk_cut (c_61 a0 k0 (wm_u (wm_u v3.2 a0 15 v3.1) a0 16 (((wm_u v3.2 a0 15 v3.1) a0 16) &&& (-3 : Int32))) h) ?_
      exact ⟨rfl, trivial⟩
