/-! FactFlowModel.only(II)Z -/
def mf_Mo_only (a0 : Nat) (a1 : Int32) (a2 : Int32) (g : wm_Sg) : Option (Int32 × wm_Sg) :=
  if a1 < 0 ∨ sh_n (sh_r a0 11) ≤ (a1).toNatClampNeg then none else if a1 < 0 ∨ sh_n (sh_r a0 12) ≤ (a1).toNatClampNeg then none else if a1 < 0 ∨ sh_n (sh_r a0 13) ≤ (a1).toNatClampNeg then none else (mf_Mo_result a0 (g (sh_r a0 11) (a1).toNatClampNeg) (g (sh_r a0 12) (a1).toNatClampNeg) ((g (sh_r a0 13) (a1).toNatClampNeg) &&& a2) g).bind fun v4 => (mf_Mo_reduced a0 v4).bind fun v5 => if v5.1 = (0 : Int32) then (some ((0 : Int32), v5.2)) else ((mf_Mo_take a0 a1 v5.2).bind fun v6 => some ((1 : Int32), v6))
set_option maxHeartbeats 4000000 in
set_option maxRecDepth 100000 in
theorem mc_Mo_only {l : Launch} {G : wm_G} (a0 : Nat) (a1 : Int32) (a2 : Int32) (g : wm_Sg) (v : (Int32 × wm_Sg)) (k0 : kd a0 = 8) (h : mf_Mo_only a0 a1 a2 g = some v) : wm_Mi l G y_Mo_only ws_Mo_only 2 wm_n (wm_S G) [.ref (G.B + a0), .int a1, .int a2] g (fun r u => r = v.1 ∧ u = v.2) := by
  refine wm_in_z (cc := c_Mo_only) (maxL := 3) (by decide) rfl (Nat.le_of_ble_eq_true rfl) (fun X C _ E => ?_)
  unfold mf_Mo_only at h
  refine wm_aload_n C d_Mo_only_0 rfl ?_
  refine wm_aload_n C d_Mo_only_1 rfl ?_
  refine gt_8_11 C k0 (ws_in iw_8) (ws_1 mw_1_239) d_Mo_only_2 ?_
  refine wm_iload_n C d_Mo_only_5 rfl ?_
  refine wk_iald C (kr_8_11 k0) d_Mo_only_6 h (fun h => ?_)
  refine wm_aload_n C d_Mo_only_7 rfl ?_
  refine gt_8_12 C k0 (ws_in iw_8) (ws_1 mw_2_0) d_Mo_only_8 ?_
  refine wm_iload_n C d_Mo_only_11 rfl ?_
  refine wk_iald C (kr_8_12 k0) d_Mo_only_12 h (fun h => ?_)
  refine wm_aload_n C d_Mo_only_13 rfl ?_
  refine gt_8_13 C k0 (ws_in iw_8) (ws_1 mw_2_1) d_Mo_only_14 ?_
  refine wm_iload_n C d_Mo_only_17 rfl ?_
  refine wk_iald C (kr_8_13 k0) d_Mo_only_18 h (fun h => ?_)
  refine wm_iload_n C d_Mo_only_19 rfl ?_
  refine wm_iand C d_Mo_only_20 ?_
  refine wk_bind h (fun v4 e4 h => wm_cVv (ci := 8) (q := (Rn_8, Tn_8, 25)) (na := 3) C (mc_Mo_result a0 (g (sh_r a0 11) (a1).toNatClampNeg) (g (sh_r a0 12) (a1).toNatClampNeg) ((g (sh_r a0 13) (a1).toNatClampNeg) &&& a2) g v4 k0 e4) (gc_Mo_result mw_2_118) (kd_lt (by rw [k0]; decide)) rfl ⟨_, wm_S_8 k0 _⟩ rfl rfl (by decide +kernel) rfl (by decide) (by decide) d_Mo_only_21 rfl (Nat.le_of_ble_eq_true rfl) (Nat.zero_le _) (Nat.zero_le _) (fun u4 q4 => ?_))
  subst u4
  refine wm_aload_n C d_Mo_only_24 rfl ?_
  refine wk_bind h (fun v5 e5 h => wm_cVi (ci := 8) (q := (Rn_8, Tn_8, 25)) (na := 0) C (mc_Mo_reduced a0 v4 v5 k0 e5) (gc_Mo_reduced mw_2_155) (kd_lt (by rw [k0]; decide)) rfl ⟨_, wm_S_8 k0 _⟩ rfl rfl (by decide +kernel) rfl (by decide) (by decide) d_Mo_only_25 rfl (Nat.le_of_ble_eq_true rfl) (Nat.zero_le _) (Nat.zero_le _) (fun r5 u5 q5 => ?_))
  obtain ⟨rfl, rfl⟩ := q5
  refine wk_if_ne (tgt := 33) C d_Mo_only_28 rfl h (fun _ h => ?_) (fun _ h => ?_)
  · refine wm_iconst (v := (0 : Int32)) C d_Mo_only_31 (by decide) ?_
    exact E _ _ _ _ d_Mo_only_32 rfl (wk_ret h)
  · refine wm_aload_n C d_Mo_only_33 rfl ?_
    refine wm_iload_n C d_Mo_only_34 rfl ?_
    refine wk_bind h (fun v6 e6 h => wm_cVv (ci := 8) (q := (Rn_8, Tn_8, 25)) (na := 1) C (mc_Mo_take a0 a1 v5.2 v6 k0 e6) (gc_Mo_take mw_2_122) (kd_lt (by rw [k0]; decide)) rfl ⟨_, wm_S_8 k0 _⟩ rfl rfl (by decide +kernel) rfl (by decide) (by decide) d_Mo_only_35 rfl (Nat.le_of_ble_eq_true rfl) (Nat.zero_le _) (Nat.zero_le _) (fun u6 q6 => ?_))
    subst u6
    refine wm_iconst (v := (1 : Int32)) C d_Mo_only_38 (by decide) ?_
    exact E _ _ _ _ d_Mo_only_39 rfl (wk_ret h)
/-! FactFlowModel.sumSigns(II)I -/
def mf_Mo_sumSigns_30 (s0 : Int32) (g : wm_Sg) : Option (Int32 × wm_Sg) :=
  some (s0, g)
def mf_Mo_sumSigns_28  (g : wm_Sg) : Option (Int32 × wm_Sg) :=
  mf_Mo_sumSigns_30 (7 : Int32) g
def mf_Mo_sumSigns (a0 : Int32) (a1 : Int32) (g : wm_Sg) : Option (Int32 × wm_Sg) :=
  if a0 = (2 : Int32) then (some (a1, g)) else (if a1 = (2 : Int32) then (some (a0, g)) else (if a0 = (4 : Int32) then (if a1 = (4 : Int32) then (mf_Mo_sumSigns_30 (5 : Int32) g) else (mf_Mo_sumSigns_28 g)) else (mf_Mo_sumSigns_28 g)))
set_option maxHeartbeats 4000000 in
set_option maxRecDepth 100000 in
theorem mc_Mo_sumSigns {l : Launch} {G : wm_G} (a0 : Int32) (a1 : Int32) (g : wm_Sg) (v : (Int32 × wm_Sg)) (h : mf_Mo_sumSigns a0 a1 g = some v) : wm_Mi l G y_Mo_sumSigns ws_Mo_sumSigns 0 wm_n (wm_S G) [.int a0, .int a1] g (fun r u => r = v.1 ∧ u = v.2) := by
  refine wm_in_i (cc := c_Mo_sumSigns) (maxL := 2) (by decide) rfl (Nat.le_of_ble_eq_true rfl) (fun X C _ E => ?_)
  have c_30 : ∀ (s0 : Int32) (g : wm_Sg), mf_Mo_sumSigns_30  s0 g = some v → wm_W G X 2 0 0 wm_n (wm_S G) g 30 [] [.int s0] := by
    intro s0 g h
    unfold mf_Mo_sumSigns_30 at h
    exact E _ _ _ _ d_Mo_sumSigns_30 (wk_ret h)
  have c_28 : ∀ (g : wm_Sg), mf_Mo_sumSigns_28  g = some v → wm_W G X 2 0 0 wm_n (wm_S G) g 28 [] [] := by
    intro g h
    unfold mf_Mo_sumSigns_28 at h
    refine wm_bipush (v := (7 : Int32)) C d_Mo_sumSigns_28 (by decide) ?_
    refine wk_cut (c_30 (7 : Int32) g h) ?_
    exact trivial
  unfold mf_Mo_sumSigns at h
  refine wm_iload_n C d_Mo_sumSigns_0 rfl ?_
  refine wm_iconst (v := (2 : Int32)) C d_Mo_sumSigns_1 (by decide) ?_
  refine wk_icmp_ne (tgt := 7) C d_Mo_sumSigns_2 rfl h (fun _ h => ?_) (fun _ h => ?_)
  · refine wm_iload_n C d_Mo_sumSigns_5 rfl ?_
    exact E _ _ _ _ d_Mo_sumSigns_6 (wk_ret h)
  · refine wm_iload_n C d_Mo_sumSigns_7 rfl ?_
    refine wm_iconst (v := (2 : Int32)) C d_Mo_sumSigns_8 (by decide) ?_
    refine wk_icmp_ne (tgt := 14) C d_Mo_sumSigns_9 rfl h (fun _ h => ?_) (fun _ h => ?_)
    · refine wm_iload_n C d_Mo_sumSigns_12 rfl ?_
      exact E _ _ _ _ d_Mo_sumSigns_13 (wk_ret h)
    · refine wm_iload_n C d_Mo_sumSigns_14 rfl ?_
      refine wm_iconst (v := (4 : Int32)) C d_Mo_sumSigns_15 (by decide) ?_
      refine wk_icmp_ne (tgt := 28) C d_Mo_sumSigns_16 rfl h (fun _ h => ?_) (fun _ h => ?_)
      · refine wm_iload_n C d_Mo_sumSigns_19 rfl ?_
        refine wm_iconst (v := (4 : Int32)) C d_Mo_sumSigns_20 (by decide) ?_
        refine wk_icmp_ne (tgt := 28) C d_Mo_sumSigns_21 rfl h (fun _ h => ?_) (fun _ h => ?_)
        · refine wm_iconst (v := (5 : Int32)) C d_Mo_sumSigns_24 (by decide) ?_
          refine wm_goto (tgt := 30) C d_Mo_sumSigns_25 rfl ?_
          refine wk_cut (c_30 (5 : Int32) g h) ?_
          exact trivial
        · refine wk_cut (c_28 g h) ?_
          exact trivial
      · refine wk_cut (c_28 g h) ?_
        exact trivial
/-! FactFlowModel.lessSigns(II)I -/
def mf_Mo_lessSigns_22 (s0 : Int32) (g : wm_Sg) : Option (Int32 × wm_Sg) :=
  some (s0, g)
def mf_Mo_lessSigns_34 (s0 : Int32) (g : wm_Sg) : Option (Int32 × wm_Sg) :=
  some (s0, g)
def mf_Mo_lessSigns (a0 : Int32) (a1 : Int32) (g : wm_Sg) : Option (Int32 × wm_Sg) :=
  if a1 = (2 : Int32) then (some (a0, g)) else (if a0 = (2 : Int32) then (if a1 = (1 : Int32) then (mf_Mo_lessSigns_22 (5 : Int32) g) else (mf_Mo_lessSigns_22 (1 : Int32) g)) else (if a0 = a1 then (mf_Mo_lessSigns_34 (7 : Int32) g) else (mf_Mo_lessSigns_34 (5 : Int32) g)))
set_option maxHeartbeats 4000000 in
set_option maxRecDepth 100000 in
theorem mc_Mo_lessSigns {l : Launch} {G : wm_G} (a0 : Int32) (a1 : Int32) (g : wm_Sg) (v : (Int32 × wm_Sg)) (h : mf_Mo_lessSigns a0 a1 g = some v) : wm_Mi l G y_Mo_lessSigns ws_Mo_lessSigns 0 wm_n (wm_S G) [.int a0, .int a1] g (fun r u => r = v.1 ∧ u = v.2) := by
  refine wm_in_i (cc := c_Mo_lessSigns) (maxL := 2) (by decide) rfl (Nat.le_of_ble_eq_true rfl) (fun X C _ E => ?_)
  have c_22 : ∀ (s0 : Int32) (g : wm_Sg), mf_Mo_lessSigns_22  s0 g = some v → wm_W G X 2 0 0 wm_n (wm_S G) g 22 [] [.int s0] := by
    intro s0 g h
    unfold mf_Mo_lessSigns_22 at h
    exact E _ _ _ _ d_Mo_lessSigns_22 (wk_ret h)
  have c_34 : ∀ (s0 : Int32) (g : wm_Sg), mf_Mo_lessSigns_34  s0 g = some v → wm_W G X 2 0 0 wm_n (wm_S G) g 34 [] [.int s0] := by
    intro s0 g h
    unfold mf_Mo_lessSigns_34 at h
    exact E _ _ _ _ d_Mo_lessSigns_34 (wk_ret h)
  unfold mf_Mo_lessSigns at h
  refine wm_iload_n C d_Mo_lessSigns_0 rfl ?_
  refine wm_iconst (v := (2 : Int32)) C d_Mo_lessSigns_1 (by decide) ?_
  refine wk_icmp_ne (tgt := 7) C d_Mo_lessSigns_2 rfl h (fun _ h => ?_) (fun _ h => ?_)
  · refine wm_iload_n C d_Mo_lessSigns_5 rfl ?_
    exact E _ _ _ _ d_Mo_lessSigns_6 (wk_ret h)
  · refine wm_iload_n C d_Mo_lessSigns_7 rfl ?_
    refine wm_iconst (v := (2 : Int32)) C d_Mo_lessSigns_8 (by decide) ?_
    refine wk_icmp_ne (tgt := 23) C d_Mo_lessSigns_9 rfl h (fun _ h => ?_) (fun _ h => ?_)
    · refine wm_iload_n C d_Mo_lessSigns_12 rfl ?_
      refine wm_iconst (v := (1 : Int32)) C d_Mo_lessSigns_13 (by decide) ?_
      refine wk_icmp_ne (tgt := 21) C d_Mo_lessSigns_14 rfl h (fun _ h => ?_) (fun _ h => ?_)
      · refine wm_iconst (v := (5 : Int32)) C d_Mo_lessSigns_17 (by decide) ?_
        refine wm_goto (tgt := 22) C d_Mo_lessSigns_18 rfl ?_
        refine wk_cut (c_22 (5 : Int32) g h) ?_
        exact trivial
      · refine wm_iconst (v := (1 : Int32)) C d_Mo_lessSigns_21 (by decide) ?_
        refine wk_cut (c_22 (1 : Int32) g h) ?_
        exact trivial
    · refine wm_iload_n C d_Mo_lessSigns_23 rfl ?_
      refine wm_iload_n C d_Mo_lessSigns_24 rfl ?_
      refine wk_icmp_ne (tgt := 33) C d_Mo_lessSigns_25 rfl h (fun _ h => ?_) (fun _ h => ?_)
      · refine wm_bipush (v := (7 : Int32)) C d_Mo_lessSigns_28 (by decide) ?_
        refine wm_goto (tgt := 34) C d_Mo_lessSigns_30 rfl ?_
        refine wk_cut (c_34 (7 : Int32) g h) ?_
        exact trivial
      · refine wm_iconst (v := (5 : Int32)) C d_Mo_lessSigns_33 (by decide) ?_
        refine wk_cut (c_34 (5 : Int32) g h) ?_
        exact trivial
/-! FactFlowModel.partSigns(II)I -/
def mf_Mo_partSigns_31 (s0 : Int32) (g : wm_Sg) : Option (Int32 × wm_Sg) :=
  some (s0, g)
def mf_Mo_partSigns_20 (b0 : Int32) (b1 : Int32) (g : wm_Sg) : Option (Int32 × wm_Sg) :=
  if b0 = b1 then (mf_Mo_partSigns_31 (7 : Int32) g) else (mf_Mo_partSigns_31 (3 : Int32) g)
def mf_Mo_partSigns (a0 : Int32) (a1 : Int32) (g : wm_Sg) : Option (Int32 × wm_Sg) :=
  if a0 = (2 : Int32) then (some ((2 : Int32), g)) else (if a0 = (4 : Int32) then (if a1 = (4 : Int32) then (some ((6 : Int32), g)) else (mf_Mo_partSigns_20 a0 a1 g)) else (mf_Mo_partSigns_20 a0 a1 g))
set_option maxHeartbeats 4000000 in
set_option maxRecDepth 100000 in
theorem mc_Mo_partSigns {l : Launch} {G : wm_G} (a0 : Int32) (a1 : Int32) (g : wm_Sg) (v : (Int32 × wm_Sg)) (h : mf_Mo_partSigns a0 a1 g = some v) : wm_Mi l G y_Mo_partSigns ws_Mo_partSigns 0 wm_n (wm_S G) [.int a0, .int a1] g (fun r u => r = v.1 ∧ u = v.2) := by
  refine wm_in_i (cc := c_Mo_partSigns) (maxL := 2) (by decide) rfl (Nat.le_of_ble_eq_true rfl) (fun X C _ E => ?_)
  have c_31 : ∀ (s0 : Int32) (g : wm_Sg), mf_Mo_partSigns_31  s0 g = some v → wm_W G X 2 0 0 wm_n (wm_S G) g 31 [] [.int s0] := by
    intro s0 g h
    unfold mf_Mo_partSigns_31 at h
    exact E _ _ _ _ d_Mo_partSigns_31 (wk_ret h)
  have c_20 : ∀ (b0 : Int32) (b1 : Int32) (g : wm_Sg), mf_Mo_partSigns_20 b0 b1 g = some v → wm_W G X 2 0 0 wm_n (wm_S G) g 20 [(0, .int b0), (1, .int b1)] [] := by
    intro b0 b1 g h
    unfold mf_Mo_partSigns_20 at h
    refine wm_iload_n C d_Mo_partSigns_20 rfl ?_
    refine wm_iload_n C d_Mo_partSigns_21 rfl ?_
    refine wk_icmp_ne (tgt := 30) C d_Mo_partSigns_22 rfl h (fun _ h => ?_) (fun _ h => ?_)
    · refine wm_bipush (v := (7 : Int32)) C d_Mo_partSigns_25 (by decide) ?_
      refine wm_goto (tgt := 31) C d_Mo_partSigns_27 rfl ?_
      refine wk_cut (c_31 (7 : Int32) g h) ?_
      exact trivial
    · refine wm_iconst (v := (3 : Int32)) C d_Mo_partSigns_30 (by decide) ?_
      refine wk_cut (c_31 (3 : Int32) g h) ?_
      exact trivial
  unfold mf_Mo_partSigns at h
  refine wm_iload_n C d_Mo_partSigns_0 rfl ?_
  refine wm_iconst (v := (2 : Int32)) C d_Mo_partSigns_1 (by decide) ?_
  refine wk_icmp_ne (tgt := 7) C d_Mo_partSigns_2 rfl h (fun _ h => ?_) (fun _ h => ?_)
  · refine wm_iconst (v := (2 : Int32)) C d_Mo_partSigns_5 (by decide) ?_
    exact E _ _ _ _ d_Mo_partSigns_6 (wk_ret h)
  · refine wm_iload_n C d_Mo_partSigns_7 rfl ?_
    refine wm_iconst (v := (4 : Int32)) C d_Mo_partSigns_8 (by decide) ?_
    refine wk_icmp_ne (tgt := 20) C d_Mo_partSigns_9 rfl h (fun _ h => ?_) (fun _ h => ?_)
    · refine wm_iload_n C d_Mo_partSigns_12 rfl ?_
      refine wm_iconst (v := (4 : Int32)) C d_Mo_partSigns_13 (by decide) ?_
      refine wk_icmp_ne (tgt := 20) C d_Mo_partSigns_14 rfl h (fun _ h => ?_) (fun _ h => ?_)
      · refine wm_bipush (v := (6 : Int32)) C d_Mo_partSigns_17 (by decide) ?_
        exact E _ _ _ _ d_Mo_partSigns_19 (wk_ret h)
      · refine wk_cut (c_20 a0 a1 g h) ?_
        exact ⟨rfl, rfl, trivial⟩
    · refine wk_cut (c_20 a0 a1 g h) ?_
      exact ⟨rfl, rfl, trivial⟩
/-! FactFlowModel.pairSigns(III)I -/
def mf_Mo_pairSigns_56 (s0 : Int32) (g : wm_Sg) : Option (Int32 × wm_Sg) :=
  some (s0, g)
def mf_Mo_pairSigns_50  (g : wm_Sg) : Option (Int32 × wm_Sg) :=
  mf_Mo_pairSigns_56 (2 : Int32) g
def mf_Mo_pairSigns_71 (s0 : Int32) (g : wm_Sg) : Option (Int32 × wm_Sg) :=
  some (s0, g)
def mf_Mo_pairSigns (a0 : Int32) (a1 : Int32) (a2 : Int32) (g : wm_Sg) : Option (Int32 × wm_Sg) :=
  if a0 = (2 : Int32) then ((mf_Mo_sumSigns a1 a2 g).bind fun v7 => some (v7.1, v7.2)) else if a0 = (3 : Int32) then ((mf_Mo_lessSigns a1 a2 g).bind fun v9 => some (v9.1, v9.2)) else if a0 = (4 : Int32) then (if a1 = (2 : Int32) then (mf_Mo_pairSigns_50 g) else (if a2 = (2 : Int32) then (mf_Mo_pairSigns_50 g) else (mf_Mo_pairSigns_56 (7 : Int32) g))) else (if a2 = (2 : Int32) then (mf_Mo_pairSigns_71 (0 : Int32) g) else ((mf_Mo_partSigns a1 a2 g).bind fun v12 => mf_Mo_pairSigns_71 v12.1 v12.2))
set_option maxHeartbeats 4000000 in
set_option maxRecDepth 100000 in
theorem mc_Mo_pairSigns {l : Launch} {G : wm_G} (a0 : Int32) (a1 : Int32) (a2 : Int32) (g : wm_Sg) (v : (Int32 × wm_Sg)) (h : mf_Mo_pairSigns a0 a1 a2 g = some v) : wm_Mi l G y_Mo_pairSigns ws_Mo_pairSigns 1 wm_n (wm_S G) [.int a0, .int a1, .int a2] g (fun r u => r = v.1 ∧ u = v.2) := by
  refine wm_in_i (cc := c_Mo_pairSigns) (maxL := 3) (by decide) rfl (Nat.le_of_ble_eq_true rfl) (fun X C _ E => ?_)
  have c_56 : ∀ (s0 : Int32) (g : wm_Sg), mf_Mo_pairSigns_56  s0 g = some v → wm_W G X 3 0 0 wm_n (wm_S G) g 56 [] [.int s0] := by
    intro s0 g h
    unfold mf_Mo_pairSigns_56 at h
    exact E _ _ _ _ d_Mo_pairSigns_56 (wk_ret h)
  have c_50 : ∀ (g : wm_Sg), mf_Mo_pairSigns_50  g = some v → wm_W G X 3 0 0 wm_n (wm_S G) g 50 [] [] := by
    intro g h
    unfold mf_Mo_pairSigns_50 at h
    refine wm_iconst (v := (2 : Int32)) C d_Mo_pairSigns_50 (by decide) ?_
    refine wm_goto (tgt := 56) C d_Mo_pairSigns_51 rfl ?_
    refine wk_cut (c_56 (2 : Int32) g h) ?_
    exact trivial
  have c_71 : ∀ (s0 : Int32) (g : wm_Sg), mf_Mo_pairSigns_71  s0 g = some v → wm_W G X 3 0 0 wm_n (wm_S G) g 71 [] [.int s0] := by
    intro s0 g h
    unfold mf_Mo_pairSigns_71 at h
    exact E _ _ _ _ d_Mo_pairSigns_71 (wk_ret h)
  unfold mf_Mo_pairSigns at h
  refine wm_iload_n C d_Mo_pairSigns_0 rfl ?_
  refine wk_ite h (fun w8 h => ?_) (fun w8 h => ?_)
  · refine wk_tableEq (tgt := 28) C d_Mo_pairSigns_1 w8 (by decide) (by decide) rfl rfl ?_
    refine wm_iload_n C d_Mo_pairSigns_28 rfl ?_
    refine wm_iload_n C d_Mo_pairSigns_29 rfl ?_
    refine wk_bind h (fun v7 e7 h => wm_cSi (na := 2) C (mc_Mo_sumSigns a1 a2 g v7 e7) (gc_Mo_sumSigns mw_2_177) rfl (by decide +kernel) rfl (by decide) (by decide) d_Mo_pairSigns_30 rfl (Nat.le_of_ble_eq_true rfl) (Nat.zero_le _) (Nat.zero_le _) (fun r7 u7 q7 => ?_))
    obtain ⟨rfl, rfl⟩ := q7
    exact E _ _ _ _ d_Mo_pairSigns_33 (wk_ret h)
  · refine wk_ite h (fun w10 h => ?_) (fun w10 h => ?_)
    · refine wk_tableEq (tgt := 34) C d_Mo_pairSigns_1 w10 (by decide) (by decide) rfl rfl ?_
      refine wm_iload_n C d_Mo_pairSigns_34 rfl ?_
      refine wm_iload_n C d_Mo_pairSigns_35 rfl ?_
      refine wk_bind h (fun v9 e9 h => wm_cSi (na := 2) C (mc_Mo_lessSigns a1 a2 g v9 e9) (gc_Mo_lessSigns mw_2_180) rfl (by decide +kernel) rfl (by decide) (by decide) d_Mo_pairSigns_36 rfl (Nat.le_of_ble_eq_true rfl) (Nat.zero_le _) (Nat.zero_le _) (fun r9 u9 q9 => ?_))
      obtain ⟨rfl, rfl⟩ := q9
      exact E _ _ _ _ d_Mo_pairSigns_39 (wk_ret h)
    · refine wk_ite h (fun w11 h => ?_) (fun w11 h => ?_)
      · refine wk_tableEq (tgt := 40) C d_Mo_pairSigns_1 w11 (by decide) (by decide) rfl rfl ?_
        refine wm_iload_n C d_Mo_pairSigns_40 rfl ?_
        refine wm_iconst (v := (2 : Int32)) C d_Mo_pairSigns_41 (by decide) ?_
        refine wk_icmp_eq (tgt := 50) C d_Mo_pairSigns_42 rfl h (fun _ h => ?_) (fun _ h => ?_)
        · refine wk_cut (c_50 g h) ?_
          exact trivial
        · refine wm_iload_n C d_Mo_pairSigns_45 rfl ?_
          refine wm_iconst (v := (2 : Int32)) C d_Mo_pairSigns_46 (by decide) ?_
          refine wk_icmp_ne (tgt := 54) C d_Mo_pairSigns_47 rfl h (fun _ h => ?_) (fun _ h => ?_)
          · refine wk_cut (c_50 g h) ?_
            exact trivial
          · refine wm_bipush (v := (7 : Int32)) C d_Mo_pairSigns_54 (by decide) ?_
            refine wk_cut (c_56 (7 : Int32) g h) ?_
            exact trivial
      · have w8 := wk_nt (z := 2) w8 (by decide)
        have w10 := wk_nt (z := 3) w10 (by decide)
        have w11 := wk_nt (z := 4) w11 (by decide)
        refine wm_tableOut (tgt := 57) C d_Mo_pairSigns_1 (by omega) rfl ?_
        refine wm_iload_n C d_Mo_pairSigns_57 rfl ?_
        refine wm_iconst (v := (2 : Int32)) C d_Mo_pairSigns_58 (by decide) ?_
        refine wk_icmp_ne (tgt := 66) C d_Mo_pairSigns_59 rfl h (fun _ h => ?_) (fun _ h => ?_)
        · refine wm_iconst (v := (0 : Int32)) C d_Mo_pairSigns_62 (by decide) ?_
          refine wm_goto (tgt := 71) C d_Mo_pairSigns_63 rfl ?_
          refine wk_cut (c_71 (0 : Int32) g h) ?_
          exact trivial
        · refine wm_iload_n C d_Mo_pairSigns_66 rfl ?_
          refine wm_iload_n C d_Mo_pairSigns_67 rfl ?_
          refine wk_bind h (fun v12 e12 h => wm_cSi (na := 2) C (mc_Mo_partSigns a1 a2 g v12 e12) (gc_Mo_partSigns mw_2_183) rfl (by decide +kernel) rfl (by decide) (by decide) d_Mo_pairSigns_68 rfl (Nat.le_of_ble_eq_true rfl) (Nat.zero_le _) (Nat.zero_le _) (fun r12 u12 q12 => ?_))
          obtain ⟨rfl, rfl⟩ := q12
          refine wk_cut (c_71 v12.1 v12.2 h) ?_
          exact trivial
/-! FactFlowModel.signsBy(III)I -/
def mf_Mo_signsBy_73 (K6 : Int32 × Int32 × wm_Sg → Option (Int32 × wm_Sg)) (K15 : Int32 × Int32 × wm_Sg → Option (Int32 × wm_Sg)) (b1 : Int32) (b2 : Int32) (b3 : Int32) (b5 : Int32) (b6 : Int32) (s0 : Int32) (g : wm_Sg) : Option (Int32 × wm_Sg) :=
  K15 (s0, (b6 + (1 : Int32)), g)
def mf_Mo_signsBy_46 (K6 : Int32 × Int32 × wm_Sg → Option (Int32 × wm_Sg)) (K15 : Int32 × Int32 × wm_Sg → Option (Int32 × wm_Sg)) (b1 : Int32) (b2 : Int32) (b3 : Int32) (b4 : Int32) (b5 : Int32) (b6 : Int32) (s0 : Int32) (g : wm_Sg) : Option (Int32 × wm_Sg) :=
  if s0 = (0 : Int32) then (mf_Mo_signsBy_73 K6 K15 b1 b2 b3 b5 b6 b4 g) else ((mf_Mo_pairSigns b1 ((1 : Int32) <<< (b5 &&& 31)) ((1 : Int32) <<< (b6 &&& 31)) g).bind fun v3 => mf_Mo_signsBy_73 K6 K15 b1 b2 b3 b5 b6 (b4 ||| v3.1) v3.2)
def mf_Mo_signsBy_45 (K6 : Int32 × Int32 × wm_Sg → Option (Int32 × wm_Sg)) (K15 : Int32 × Int32 × wm_Sg → Option (Int32 × wm_Sg)) (b1 : Int32) (b2 : Int32) (b3 : Int32) (b4 : Int32) (b5 : Int32) (b6 : Int32) (g : wm_Sg) : Option (Int32 × wm_Sg) :=
  mf_Mo_signsBy_46 K6 K15 b1 b2 b3 b4 b5 b6 (0 : Int32) g
def mf_Mo_signsBy_15 (K6 : Int32 × Int32 × wm_Sg → Option (Int32 × wm_Sg)) (b1 : Int32) (b2 : Int32) (b3 : Int32) (b5 : Int32) (K15 : Int32 × Int32 × wm_Sg → Option (Int32 × wm_Sg)) (a : Int32 × Int32 × wm_Sg) : Option (Int32 × wm_Sg) :=
  if (3 : Int32) ≤ a.2.1 then (K6 (a.1, (b5 + (1 : Int32)), a.2.2)) else (if ((b2 >>> (b5 &&& 31)) &&& (1 : Int32)) = (1 : Int32) then (if ((b3 >>> (a.2.1 &&& 31)) &&& (1 : Int32)) = (1 : Int32) then (mf_Mo_signsBy_46 K6 K15 b1 b2 b3 a.1 b5 a.2.1 (1 : Int32) a.2.2) else (mf_Mo_signsBy_45 K6 K15 b1 b2 b3 a.1 b5 a.2.1 a.2.2)) else (mf_Mo_signsBy_45 K6 K15 b1 b2 b3 a.1 b5 a.2.1 a.2.2))
def mf_Mo_signsBy_6 (b1 : Int32) (b2 : Int32) (b3 : Int32) (K6 : Int32 × Int32 × wm_Sg → Option (Int32 × wm_Sg)) (a : Int32 × Int32 × wm_Sg) : Option (Int32 × wm_Sg) :=
  if (3 : Int32) ≤ a.2.1 then (some (a.1, a.2.2)) else (lp_it (mf_Mo_signsBy_15 K6 b1 b2 b3 a.2.1) 2100 (a.1, (0 : Int32), a.2.2))
def mf_Mo_signsBy (a0 : Nat) (a1 : Int32) (a2 : Int32) (a3 : Int32) (g : wm_Sg) : Option (Int32 × wm_Sg) :=
  lp_it (mf_Mo_signsBy_6 a1 a2 a3) 2100 ((0 : Int32), (0 : Int32), g)
set_option maxHeartbeats 4000000 in
set_option maxRecDepth 100000 in
theorem mc_Mo_signsBy {l : Launch} {G : wm_G} (a0 : Nat) (a1 : Int32) (a2 : Int32) (a3 : Int32) (g : wm_Sg) (v : (Int32 × wm_Sg)) (k0 : kd a0 = 8) (h : mf_Mo_signsBy a0 a1 a2 a3 g = some v) : wm_Mi l G y_Mo_signsBy ws_Mo_signsBy 2 wm_n (wm_S G) [.ref (G.B + a0), .int a1, .int a2, .int a3] g (fun r u => r = v.1 ∧ u = v.2) := by
  refine wm_in_i (cc := c_Mo_signsBy) (maxL := 8) (by decide) rfl (Nat.le_of_ble_eq_true rfl) (fun X C _ E => ?_)
  have c_73 : ∀ (b1 : Int32) (b2 : Int32) (b3 : Int32) (b5 : Int32) (b6 : Int32) (s0 : Int32) (K6 : Int32 × Int32 × wm_Sg → Option (Int32 × wm_Sg)) (hK6 : ∀ a : Int32 × Int32 × wm_Sg, K6 a = some v → wm_W G X 8 0 0 wm_n (wm_S G) a.2.2 6 [(1, .int b1), (2, .int b2), (3, .int b3), (4, .int a.1), (5, .int a.2.1)] []) (K15 : Int32 × Int32 × wm_Sg → Option (Int32 × wm_Sg)) (hK15 : ∀ a : Int32 × Int32 × wm_Sg, K15 a = some v → wm_W G X 8 0 0 wm_n (wm_S G) a.2.2 15 [(1, .int b1), (2, .int b2), (3, .int b3), (4, .int a.1), (5, .int b5), (6, .int a.2.1)] []) (g : wm_Sg), mf_Mo_signsBy_73 K6 K15 b1 b2 b3 b5 b6 s0 g = some v → wm_W G X 8 0 0 wm_n (wm_S G) g 73 [(1, .int b1), (2, .int b2), (3, .int b3), (5, .int b5), (6, .int b6)] [.int s0] := by
    intro b1 b2 b3 b5 b6 s0 K6 hK6 K15 hK15 g h
    unfold mf_Mo_signsBy_73 at h
    refine wm_istore C d_Mo_signsBy_73 (by decide) ?_
    refine wk_iinc C (1 : Int32) d_Mo_signsBy_75 (by decide) rfl (by decide) ?_
    refine wm_goto (tgt := 15) C d_Mo_signsBy_78 rfl ?_
    refine wk_cut (hK15 (s0, (b6 + (1 : Int32)), g) h) ?_
    exact ⟨rfl, rfl, rfl, rfl, rfl, rfl, trivial⟩
  have c_46 : ∀ (b1 : Int32) (b2 : Int32) (b3 : Int32) (b4 : Int32) (b5 : Int32) (b6 : Int32) (s0 : Int32) (K6 : Int32 × Int32 × wm_Sg → Option (Int32 × wm_Sg)) (hK6 : ∀ a : Int32 × Int32 × wm_Sg, K6 a = some v → wm_W G X 8 0 0 wm_n (wm_S G) a.2.2 6 [(1, .int b1), (2, .int b2), (3, .int b3), (4, .int a.1), (5, .int a.2.1)] []) (K15 : Int32 × Int32 × wm_Sg → Option (Int32 × wm_Sg)) (hK15 : ∀ a : Int32 × Int32 × wm_Sg, K15 a = some v → wm_W G X 8 0 0 wm_n (wm_S G) a.2.2 15 [(1, .int b1), (2, .int b2), (3, .int b3), (4, .int a.1), (5, .int b5), (6, .int a.2.1)] []) (g : wm_Sg), mf_Mo_signsBy_46 K6 K15 b1 b2 b3 b4 b5 b6 s0 g = some v → wm_W G X 8 0 0 wm_n (wm_S G) g 46 [(1, .int b1), (2, .int b2), (3, .int b3), (4, .int b4), (5, .int b5), (6, .int b6)] [.int s0] := by
    intro b1 b2 b3 b4 b5 b6 s0 K6 hK6 K15 hK15 g h
    unfold mf_Mo_signsBy_46 at h
    refine wm_istore C d_Mo_signsBy_46 (by decide) ?_
    refine wm_iload C d_Mo_signsBy_48 rfl ?_
    refine wk_if_eq (tgt := 71) C d_Mo_signsBy_50 rfl h (fun _ h => ?_) (fun _ h => ?_)
    · refine wm_iload C d_Mo_signsBy_71 rfl ?_
      refine wk_cut (c_73 b1 b2 b3 b5 b6 b4 K6 hK6 K15 hK15 g h) ?_
      exact ⟨rfl, rfl, rfl, rfl, rfl, trivial⟩
    · refine wm_iload C d_Mo_signsBy_53 rfl ?_
      refine wm_iload_n C d_Mo_signsBy_55 rfl ?_
      refine wm_iconst (v := (1 : Int32)) C d_Mo_signsBy_56 (by decide) ?_
      refine wm_iload C d_Mo_signsBy_57 rfl ?_
      refine wm_ishl C d_Mo_signsBy_59 ?_
      refine wm_iconst (v := (1 : Int32)) C d_Mo_signsBy_60 (by decide) ?_
      refine wm_iload C d_Mo_signsBy_61 rfl ?_
      refine wm_ishl C d_Mo_signsBy_63 ?_
      refine wk_bind h (fun v3 e3 h => wm_cSi (na := 3) C (mc_Mo_pairSigns b1 ((1 : Int32) <<< (b5 &&& 31)) ((1 : Int32) <<< (b6 &&& 31)) g v3 e3) (gc_Mo_pairSigns mw_2_174) rfl (by decide +kernel) rfl (by decide) (by decide) d_Mo_signsBy_64 rfl (Nat.le_of_ble_eq_true rfl) (Nat.zero_le _) (Nat.zero_le _) (fun r3 u3 q3 => ?_))
      obtain ⟨rfl, rfl⟩ := q3
      refine wm_ior C d_Mo_signsBy_67 ?_
      refine wm_goto (tgt := 73) C d_Mo_signsBy_68 rfl ?_
      refine wk_cut (c_73 b1 b2 b3 b5 b6 (b4 ||| v3.1) K6 hK6 K15 hK15 v3.2 h) ?_
      exact ⟨rfl, rfl, rfl, rfl, rfl, trivial⟩
  have c_45 : ∀ (b1 : Int32) (b2 : Int32) (b3 : Int32) (b4 : Int32) (b5 : Int32) (b6 : Int32) (K6 : Int32 × Int32 × wm_Sg → Option (Int32 × wm_Sg)) (hK6 : ∀ a : Int32 × Int32 × wm_Sg, K6 a = some v → wm_W G X 8 0 0 wm_n (wm_S G) a.2.2 6 [(1, .int b1), (2, .int b2), (3, .int b3), (4, .int a.1), (5, .int a.2.1)] []) (K15 : Int32 × Int32 × wm_Sg → Option (Int32 × wm_Sg)) (hK15 : ∀ a : Int32 × Int32 × wm_Sg, K15 a = some v → wm_W G X 8 0 0 wm_n (wm_S G) a.2.2 15 [(1, .int b1), (2, .int b2), (3, .int b3), (4, .int a.1), (5, .int b5), (6, .int a.2.1)] []) (g : wm_Sg), mf_Mo_signsBy_45 K6 K15 b1 b2 b3 b4 b5 b6 g = some v → wm_W G X 8 0 0 wm_n (wm_S G) g 45 [(1, .int b1), (2, .int b2), (3, .int b3), (4, .int b4), (5, .int b5), (6, .int b6)] [] := by
    intro b1 b2 b3 b4 b5 b6 K6 hK6 K15 hK15 g h
    unfold mf_Mo_signsBy_45 at h
    refine wm_iconst (v := (0 : Int32)) C d_Mo_signsBy_45 (by decide) ?_
    refine wk_cut (c_46 b1 b2 b3 b4 b5 b6 (0 : Int32) K6 hK6 K15 hK15 g h) ?_
    exact ⟨rfl, rfl, rfl, rfl, rfl, rfl, trivial⟩
  have c_15 : ∀ (b1 : Int32) (b2 : Int32) (b3 : Int32) (b5 : Int32) (K6 : Int32 × Int32 × wm_Sg → Option (Int32 × wm_Sg)) (hK6 : ∀ a : Int32 × Int32 × wm_Sg, K6 a = some v → wm_W G X 8 0 0 wm_n (wm_S G) a.2.2 6 [(1, .int b1), (2, .int b2), (3, .int b3), (4, .int a.1), (5, .int a.2.1)] []) (f : Nat) (a : Int32 × Int32 × wm_Sg), lp_it (mf_Mo_signsBy_15 K6 b1 b2 b3 b5) f a = some v → wm_W G X 8 0 0 wm_n (wm_S G) a.2.2 15 [(1, .int b1), (2, .int b2), (3, .int b3), (4, .int a.1), (5, .int b5), (6, .int a.2.1)] [] := by
    intro b1 b2 b3 b5 K6 hK6 f
    induction f with
    | zero => intro a h; cases h
    | succ f hK15 =>
      intro a h
      have h : mf_Mo_signsBy_15 K6 b1 b2 b3 b5 (lp_it (mf_Mo_signsBy_15 K6 b1 b2 b3 b5) f) a = some v := h
      unfold mf_Mo_signsBy_15 at h
      refine wm_iload C d_Mo_signsBy_15 rfl ?_
      refine wm_iconst (v := (3 : Int32)) C d_Mo_signsBy_17 (by decide) ?_
      refine wk_icmp_ge (tgt := 81) C d_Mo_signsBy_18 rfl h (fun _ h => ?_) (fun _ h => ?_)
      · refine wk_iinc C (1 : Int32) d_Mo_signsBy_81 (by decide) rfl (by decide) ?_
        refine wm_goto (tgt := 6) C d_Mo_signsBy_84 rfl ?_
        refine wk_cut (hK6 (a.1, (b5 + (1 : Int32)), a.2.2) h) ?_
        exact ⟨rfl, rfl, rfl, rfl, rfl, trivial⟩
      · refine wm_iload_n C d_Mo_signsBy_21 rfl ?_
        refine wm_iload C d_Mo_signsBy_22 rfl ?_
        refine wm_ishr C d_Mo_signsBy_24 ?_
        refine wm_iconst (v := (1 : Int32)) C d_Mo_signsBy_25 (by decide) ?_
        refine wm_iand C d_Mo_signsBy_26 ?_
        refine wm_iconst (v := (1 : Int32)) C d_Mo_signsBy_27 (by decide) ?_
        refine wk_icmp_ne (tgt := 45) C d_Mo_signsBy_28 rfl h (fun _ h => ?_) (fun _ h => ?_)
        · refine wm_iload_n C d_Mo_signsBy_31 rfl ?_
          refine wm_iload C d_Mo_signsBy_32 rfl ?_
          refine wm_ishr C d_Mo_signsBy_34 ?_
          refine wm_iconst (v := (1 : Int32)) C d_Mo_signsBy_35 (by decide) ?_
          refine wm_iand C d_Mo_signsBy_36 ?_
          refine wm_iconst (v := (1 : Int32)) C d_Mo_signsBy_37 (by decide) ?_
          refine wk_icmp_ne (tgt := 45) C d_Mo_signsBy_38 rfl h (fun _ h => ?_) (fun _ h => ?_)
          · refine wm_iconst (v := (1 : Int32)) C d_Mo_signsBy_41 (by decide) ?_
            refine wm_goto (tgt := 46) C d_Mo_signsBy_42 rfl ?_
            refine wk_cut (c_46 b1 b2 b3 a.1 b5 a.2.1 (1 : Int32) K6 hK6 _ hK15 a.2.2 h) ?_
            exact ⟨rfl, rfl, rfl, rfl, rfl, rfl, trivial⟩
          · refine wk_cut (c_45 b1 b2 b3 a.1 b5 a.2.1 K6 hK6 _ hK15 a.2.2 h) ?_
            exact ⟨rfl, rfl, rfl, rfl, rfl, rfl, trivial⟩
        · refine wk_cut (c_45 b1 b2 b3 a.1 b5 a.2.1 K6 hK6 _ hK15 a.2.2 h) ?_
          exact ⟨rfl, rfl, rfl, rfl, rfl, rfl, trivial⟩
  have c_6 : ∀ (b1 : Int32) (b2 : Int32) (b3 : Int32) (f : Nat) (a : Int32 × Int32 × wm_Sg), lp_it (mf_Mo_signsBy_6 b1 b2 b3) f a = some v → wm_W G X 8 0 0 wm_n (wm_S G) a.2.2 6 [(1, .int b1), (2, .int b2), (3, .int b3), (4, .int a.1), (5, .int a.2.1)] [] := by
    intro b1 b2 b3 f
    induction f with
    | zero => intro a h; cases h
    | succ f hK6 =>
      intro a h
      have h : mf_Mo_signsBy_6 b1 b2 b3 (lp_it (mf_Mo_signsBy_6 b1 b2 b3) f) a = some v := h
      unfold mf_Mo_signsBy_6 at h
      refine wm_iload C d_Mo_signsBy_6 rfl ?_
      refine wm_iconst (v := (3 : Int32)) C d_Mo_signsBy_8 (by decide) ?_
      refine wk_icmp_ge (tgt := 87) C d_Mo_signsBy_9 rfl h (fun _ h => ?_) (fun _ h => ?_)
      · refine wm_iload C d_Mo_signsBy_87 rfl ?_
        exact E _ _ _ _ d_Mo_signsBy_89 (wk_ret h)
      · refine wm_iconst (v := (0 : Int32)) C d_Mo_signsBy_12 (by decide) ?_
        refine wm_istore C d_Mo_signsBy_13 (by decide) ?_
        refine wk_cut (c_15 b1 b2 b3 a.2.1 _ hK6 2100 (a.1, (0 : Int32), a.2.2) h) ?_
        exact ⟨rfl, rfl, rfl, rfl, rfl, rfl, trivial⟩
  unfold mf_Mo_signsBy at h
  refine wm_iconst (v := (0 : Int32)) C d_Mo_signsBy_0 (by decide) ?_
  refine wm_istore C d_Mo_signsBy_1 (by decide) ?_
  refine wm_iconst (v := (0 : Int32)) C d_Mo_signsBy_3 (by decide) ?_
  refine wm_istore C d_Mo_signsBy_4 (by decide) ?_
  refine wk_cut (c_6 a1 a2 a3 2100 ((0 : Int32), (0 : Int32), g) h) ?_
  exact ⟨rfl, rfl, rfl, rfl, rfl, trivial⟩
/-! FactFlowModel.divided(II)I -/
def mf_Mo_divided_13 (s0 : Int32) (g : wm_Sg) : Option (Int32 × wm_Sg) :=
  some (s0, g)
def mf_Mo_divided (a0 : Int32) (a1 : Int32) (g : wm_Sg) : Option (Int32 × wm_Sg) :=
  if a1 = (-1 : Int32) then (mf_Mo_divided_13 (-a0) g) else (if a1 = (0 : Int32) then none else mf_Mo_divided_13 (a0 / a1) g)
set_option maxHeartbeats 4000000 in
set_option maxRecDepth 100000 in
theorem mc_Mo_divided {l : Launch} {G : wm_G} (a0 : Int32) (a1 : Int32) (g : wm_Sg) (v : (Int32 × wm_Sg)) (h : mf_Mo_divided a0 a1 g = some v) : wm_Mi l G y_Mo_divided ws_Mo_divided 0 wm_n (wm_S G) [.int a0, .int a1] g (fun r u => r = v.1 ∧ u = v.2) := by
  refine wm_in_i (cc := c_Mo_divided) (maxL := 2) (by decide) rfl (Nat.le_of_ble_eq_true rfl) (fun X C _ E => ?_)
  have c_13 : ∀ (s0 : Int32) (g : wm_Sg), mf_Mo_divided_13  s0 g = some v → wm_W G X 2 0 0 wm_n (wm_S G) g 13 [] [.int s0] := by
    intro s0 g h
    unfold mf_Mo_divided_13 at h
    exact E _ _ _ _ d_Mo_divided_13 (wk_ret h)
  unfold mf_Mo_divided at h
  refine wm_iload_n C d_Mo_divided_0 rfl ?_
  refine wm_iconst (v := (-1 : Int32)) C d_Mo_divided_1 (by decide) ?_
  refine wk_icmp_ne (tgt := 10) C d_Mo_divided_2 rfl h (fun _ h => ?_) (fun _ h => ?_)
  · refine wm_iload_n C d_Mo_divided_5 rfl ?_
    refine wm_ineg C d_Mo_divided_6 ?_
    refine wm_goto (tgt := 13) C d_Mo_divided_7 rfl ?_
    refine wk_cut (c_13 (-a0) g h) ?_
    exact trivial
  · refine wm_iload_n C d_Mo_divided_10 rfl ?_
    refine wm_iload_n C d_Mo_divided_11 rfl ?_
    refine wk_idiv C d_Mo_divided_12 h (fun h => ?_)
    refine wk_cut (c_13 (a0 / a1) g h) ?_
    exact trivial
/-! FactFlowModel.reckon(III)Z -/
def mf_Mo_reckon_272 (b0 : Nat) (g : wm_Sg) : Option (Int32 × wm_Sg) :=
  (mf_Mo_reduced b0 g).bind fun v17 => if v17.1 = 0 ∨ v17.1 = 1 then some (v17.1, v17.2) else none
def mf_Mo_reckon_187 (b0 : Nat) (b2 : Int32) (b3 : Int32) (b5 : Int32) (s0 : Int32) (s1 : Nat) (g : wm_Sg) : Option (Int32 × wm_Sg) :=
  if b2 < 0 ∨ sh_n (sh_r b0 12) ≤ (b2).toNatClampNeg then none else if b3 < 0 ∨ sh_n (sh_r b0 12) ≤ (b3).toNatClampNeg then none else (mf_Mo_result s1 s0 ((g (sh_r b0 12) (b2).toNatClampNeg) * (g (sh_r b0 12) (b3).toNatClampNeg)) b5 g).bind fun v18 => mf_Mo_reckon_272 b0 v18
def mf_Mo_reckon_267 (b0 : Nat) (b5 : Int32) (s0 : Int32) (s1 : Int32) (s2 : Nat) (g : wm_Sg) : Option (Int32 × wm_Sg) :=
  (mf_Mo_result s2 s1 s0 b5 g).bind fun v19 => mf_Mo_reckon_272 b0 v19
def mf_Mo_reckon_243 (b0 : Nat) (b2 : Int32) (b3 : Int32) (b5 : Int32) (b6 : Int32) (s0 : Int32) (s1 : Nat) (g : wm_Sg) : Option (Int32 × wm_Sg) :=
  if b6 = (0 : Int32) then (mf_Mo_reckon_267 b0 b5 (0 : Int32) s0 s1 g) else (if b2 < 0 ∨ sh_n (sh_r b0 12) ≤ (b2).toNatClampNeg then none else if b3 < 0 ∨ sh_n (sh_r b0 12) ≤ (b3).toNatClampNeg then none else (mf_Mo_divided (g (sh_r b0 12) (b2).toNatClampNeg) (g (sh_r b0 12) (b3).toNatClampNeg) g).bind fun v20 => mf_Mo_reckon_267 b0 b5 v20.1 s0 s1 v20.2)
def mf_Mo_reckon_229 (b0 : Nat) (b2 : Int32) (b3 : Int32) (b5 : Int32) (s0 : Int32) (g : wm_Sg) : Option (Int32 × wm_Sg) :=
  if s0 = (0 : Int32) then (mf_Mo_reckon_243 b0 b2 b3 b5 s0 (0 : Int32) b0 g) else (mf_Mo_reckon_243 b0 b2 b3 b5 s0 (32 : Int32) b0 g)
def mf_Mo_reckon_228 (b0 : Nat) (b2 : Int32) (b3 : Int32) (b5 : Int32) (g : wm_Sg) : Option (Int32 × wm_Sg) :=
  mf_Mo_reckon_229 b0 b2 b3 b5 (0 : Int32) g
def mf_Mo_reckon (a0 : Nat) (a1 : Int32) (a2 : Int32) (a3 : Int32) (g : wm_Sg) : Option (Int32 × wm_Sg) :=
  if a2 < 0 ∨ sh_n (sh_r a0 11) ≤ (a2).toNatClampNeg then none else if a3 < 0 ∨ sh_n (sh_r a0 11) ≤ (a3).toNatClampNeg then none else (mf_Mo_least (g (sh_r a0 11) (a2).toNatClampNeg) (g (sh_r a0 11) (a3).toNatClampNeg) g).bind fun v21 => if a2 < 0 ∨ sh_n (sh_r a0 13) ≤ (a2).toNatClampNeg then none else if a3 < 0 ∨ sh_n (sh_r a0 13) ≤ (a3).toNatClampNeg then none else (mf_Mo_signsBy a0 a1 (v21.2 (sh_r a0 13) (a2).toNatClampNeg) (v21.2 (sh_r a0 13) (a3).toNatClampNeg) v21.2).bind fun v22 => if a1 = (2 : Int32) then (if a2 < 0 ∨ sh_n (sh_r a0 12) ≤ (a2).toNatClampNeg then none else if a3 < 0 ∨ sh_n (sh_r a0 12) ≤ (a3).toNatClampNeg then none else (mf_Mo_result a0 v21.1 ((v22.2 (sh_r a0 12) (a2).toNatClampNeg) + (v22.2 (sh_r a0 12) (a3).toNatClampNeg)) v22.1 v22.2).bind fun v23 => mf_Mo_reckon_272 a0 v23) else (if a1 = (3 : Int32) then (if a2 < 0 ∨ sh_n (sh_r a0 12) ≤ (a2).toNatClampNeg then none else if a3 < 0 ∨ sh_n (sh_r a0 12) ≤ (a3).toNatClampNeg then none else (mf_Mo_result a0 v21.1 ((v22.2 (sh_r a0 12) (a2).toNatClampNeg) - (v22.2 (sh_r a0 12) (a3).toNatClampNeg)) v22.1 v22.2).bind fun v24 => mf_Mo_reckon_272 a0 v24) else (if a1 = (4 : Int32) then (if a2 < 0 ∨ sh_n (sh_r a0 11) ≤ (a2).toNatClampNeg then none else if a3 < 0 ∨ sh_n (sh_r a0 12) ≤ (a3).toNatClampNeg then none else (mf_Mo_zeros (v22.2 (sh_r a0 12) (a3).toNatClampNeg) v22.2).bind fun v25 => if a3 < 0 ∨ sh_n (sh_r a0 11) ≤ (a3).toNatClampNeg then none else if a2 < 0 ∨ sh_n (sh_r a0 12) ≤ (a2).toNatClampNeg then none else (mf_Mo_zeros (v25.2 (sh_r a0 12) (a2).toNatClampNeg) v25.2).bind fun v26 => (mf_Mo_least ((v22.2 (sh_r a0 11) (a2).toNatClampNeg) + v25.1) ((v25.2 (sh_r a0 11) (a3).toNatClampNeg) + v26.1) v26.2).bind fun v27 => if a2 < 0 ∨ sh_n (sh_r a0 11) ≤ (a2).toNatClampNeg then none else if a3 < 0 ∨ sh_n (sh_r a0 11) ≤ (a3).toNatClampNeg then none else (mf_Mo_least v27.1 ((v27.2 (sh_r a0 11) (a2).toNatClampNeg) + (v27.2 (sh_r a0 11) (a3).toNatClampNeg)) v27.2).bind fun v28 => if v28.1 ≤ (31 : Int32) then (if v28.1 ≤ (16 : Int32) then (mf_Mo_reckon_187 a0 a2 a3 v22.1 v28.1 a0 v28.2) else (mf_Mo_reckon_187 a0 a2 a3 v22.1 (16 : Int32) a0 v28.2)) else (mf_Mo_reckon_187 a0 a2 a3 v22.1 (32 : Int32) a0 v28.2)) else (if v21.1 = (32 : Int32) then (if a3 < 0 ∨ sh_n (sh_r a0 12) ≤ (a3).toNatClampNeg then none else if (v22.2 (sh_r a0 12) (a3).toNatClampNeg) = (0 : Int32) then (mf_Mo_reckon_228 a0 a2 a3 v22.1 v22.2) else (mf_Mo_reckon_229 a0 a2 a3 v22.1 (1 : Int32) v22.2)) else (mf_Mo_reckon_228 a0 a2 a3 v22.1 v22.2))))
set_option maxHeartbeats 4000000 in
set_option maxRecDepth 100000 in
theorem mc_Mo_reckon {l : Launch} {G : wm_G} (a0 : Nat) (a1 : Int32) (a2 : Int32) (a3 : Int32) (g : wm_Sg) (v : (Int32 × wm_Sg)) (k0 : kd a0 = 8) (h : mf_Mo_reckon a0 a1 a2 a3 g = some v) : wm_Mi l G y_Mo_reckon ws_Mo_reckon 3 wm_n (wm_S G) [.ref (G.B + a0), .int a1, .int a2, .int a3] g (fun r u => r = v.1 ∧ u = v.2) := by
  refine wm_in_z (cc := c_Mo_reckon) (maxL := 9) (by decide) rfl (Nat.le_of_ble_eq_true rfl) (fun X C _ E => ?_)
  have c_272 : ∀ (b0 : Nat) (k0 : kd b0 = 8) (g : wm_Sg), mf_Mo_reckon_272 b0 g = some v → wm_W G X 9 0 0 wm_n (wm_S G) g 272 [(0, .ref (G.B + b0))] [] := by
    intro b0 k0 g h
    unfold mf_Mo_reckon_272 at h
    refine wm_aload_n C d_Mo_reckon_272 rfl ?_
    refine wk_bind h (fun v17 e17 h => wm_cVi (ci := 8) (q := (Rn_8, Tn_8, 25)) (na := 0) C (mc_Mo_reduced b0 g v17 k0 e17) (gc_Mo_reduced mw_2_155) (kd_lt (by rw [k0]; decide)) rfl ⟨_, wm_S_8 k0 _⟩ rfl rfl (by decide +kernel) rfl (by decide) (by decide) d_Mo_reckon_273 rfl (Nat.le_of_ble_eq_true rfl) (Nat.zero_le _) (Nat.zero_le _) (fun r17 u17 q17 => ?_))
    obtain ⟨rfl, rfl⟩ := q17
    exact wk_yes h (fun q h => E _ _ _ _ d_Mo_reckon_276 (wk_nar q) (wk_ret h))
  have c_187 : ∀ (b0 : Nat) (b2 : Int32) (b3 : Int32) (b5 : Int32) (s0 : Int32) (s1 : Nat) (k0 : kd b0 = 8) (ks1 : kd s1 = 8) (g : wm_Sg), mf_Mo_reckon_187 b0 b2 b3 b5 s0 s1 g = some v → wm_W G X 9 0 0 wm_n (wm_S G) g 187 [(0, .ref (G.B + b0)), (2, .int b2), (3, .int b3), (5, .int b5)] [.int s0, .ref (G.B + s1)] := by
    intro b0 b2 b3 b5 s0 s1 k0 ks1 g h
    unfold mf_Mo_reckon_187 at h
    refine wm_aload_n C d_Mo_reckon_187 rfl ?_
    refine gt_8_12 C k0 (ws_in iw_8) (ws_1 mw_2_0) d_Mo_reckon_188 ?_
    refine wm_iload_n C d_Mo_reckon_191 rfl ?_
    refine wk_iald C (kr_8_12 k0) d_Mo_reckon_192 h (fun h => ?_)
    refine wm_aload_n C d_Mo_reckon_193 rfl ?_
    refine gt_8_12 C k0 (ws_in iw_8) (ws_1 mw_2_0) d_Mo_reckon_194 ?_
    refine wm_iload_n C d_Mo_reckon_197 rfl ?_
    refine wk_iald C (kr_8_12 k0) d_Mo_reckon_198 h (fun h => ?_)
    refine wm_imul C d_Mo_reckon_199 ?_
    refine wm_iload C d_Mo_reckon_200 rfl ?_
    refine wk_bind h (fun v18 e18 h => wm_cVv (ci := 8) (q := (Rn_8, Tn_8, 25)) (na := 3) C (mc_Mo_result s1 s0 ((g (sh_r b0 12) (b2).toNatClampNeg) * (g (sh_r b0 12) (b3).toNatClampNeg)) b5 g v18 ks1 e18) (gc_Mo_result mw_2_118) (kd_lt (by rw [ks1]; decide)) rfl ⟨_, wm_S_8 ks1 _⟩ rfl rfl (by decide +kernel) rfl (by decide) (by decide) d_Mo_reckon_202 rfl (Nat.le_of_ble_eq_true rfl) (Nat.zero_le _) (Nat.zero_le _) (fun u18 q18 => ?_))
    subst u18
    refine wm_goto (tgt := 272) C d_Mo_reckon_205 rfl ?_
    refine wk_cut (c_272 b0 k0 v18 h) ?_
    exact ⟨rfl, trivial⟩
  have c_267 : ∀ (b0 : Nat) (b5 : Int32) (s0 : Int32) (s1 : Int32) (s2 : Nat) (k0 : kd b0 = 8) (ks2 : kd s2 = 8) (g : wm_Sg), mf_Mo_reckon_267 b0 b5 s0 s1 s2 g = some v → wm_W G X 9 0 0 wm_n (wm_S G) g 267 [(0, .ref (G.B + b0)), (5, .int b5)] [.int s0, .int s1, .ref (G.B + s2)] := by
    intro b0 b5 s0 s1 s2 k0 ks2 g h
    unfold mf_Mo_reckon_267 at h
    refine wm_iload C d_Mo_reckon_267 rfl ?_
    refine wk_bind h (fun v19 e19 h => wm_cVv (ci := 8) (q := (Rn_8, Tn_8, 25)) (na := 3) C (mc_Mo_result s2 s1 s0 b5 g v19 ks2 e19) (gc_Mo_result mw_2_118) (kd_lt (by rw [ks2]; decide)) rfl ⟨_, wm_S_8 ks2 _⟩ rfl rfl (by decide +kernel) rfl (by decide) (by decide) d_Mo_reckon_269 rfl (Nat.le_of_ble_eq_true rfl) (Nat.zero_le _) (Nat.zero_le _) (fun u19 q19 => ?_))
    subst u19
    refine wk_cut (c_272 b0 k0 v19 h) ?_
    exact ⟨rfl, trivial⟩
  have c_243 : ∀ (b0 : Nat) (b2 : Int32) (b3 : Int32) (b5 : Int32) (b6 : Int32) (s0 : Int32) (s1 : Nat) (k0 : kd b0 = 8) (ks1 : kd s1 = 8) (g : wm_Sg), mf_Mo_reckon_243 b0 b2 b3 b5 b6 s0 s1 g = some v → wm_W G X 9 0 0 wm_n (wm_S G) g 243 [(0, .ref (G.B + b0)), (2, .int b2), (3, .int b3), (5, .int b5), (6, .int b6)] [.int s0, .ref (G.B + s1)] := by
    intro b0 b2 b3 b5 b6 s0 s1 k0 ks1 g h
    unfold mf_Mo_reckon_243 at h
    refine wm_iload C d_Mo_reckon_243 rfl ?_
    refine wk_if_eq (tgt := 266) C d_Mo_reckon_245 rfl h (fun _ h => ?_) (fun _ h => ?_)
    · refine wm_iconst (v := (0 : Int32)) C d_Mo_reckon_266 (by decide) ?_
      refine wk_cut (c_267 b0 b5 (0 : Int32) s0 s1 k0 ks1 g h) ?_
      exact ⟨rfl, rfl, trivial⟩
    · refine wm_aload_n C d_Mo_reckon_248 rfl ?_
      refine gt_8_12 C k0 (ws_in iw_8) (ws_1 mw_2_0) d_Mo_reckon_249 ?_
      refine wm_iload_n C d_Mo_reckon_252 rfl ?_
      refine wk_iald C (kr_8_12 k0) d_Mo_reckon_253 h (fun h => ?_)
      refine wm_aload_n C d_Mo_reckon_254 rfl ?_
      refine gt_8_12 C k0 (ws_in iw_8) (ws_1 mw_2_0) d_Mo_reckon_255 ?_
      refine wm_iload_n C d_Mo_reckon_258 rfl ?_
      refine wk_iald C (kr_8_12 k0) d_Mo_reckon_259 h (fun h => ?_)
      refine wk_bind h (fun v20 e20 h => wm_cSi (na := 2) C (mc_Mo_divided (g (sh_r b0 12) (b2).toNatClampNeg) (g (sh_r b0 12) (b3).toNatClampNeg) g v20 e20) (gc_Mo_divided mw_2_186) rfl (by decide +kernel) rfl (by decide) (by decide) d_Mo_reckon_260 rfl (Nat.le_of_ble_eq_true rfl) (Nat.zero_le _) (Nat.zero_le _) (fun r20 u20 q20 => ?_))
      obtain ⟨rfl, rfl⟩ := q20
      refine wm_goto (tgt := 267) C d_Mo_reckon_263 rfl ?_
      refine wk_cut (c_267 b0 b5 v20.1 s0 s1 k0 ks1 v20.2 h) ?_
      exact ⟨rfl, rfl, trivial⟩
  have c_229 : ∀ (b0 : Nat) (b2 : Int32) (b3 : Int32) (b5 : Int32) (s0 : Int32) (k0 : kd b0 = 8) (g : wm_Sg), mf_Mo_reckon_229 b0 b2 b3 b5 s0 g = some v → wm_W G X 9 0 0 wm_n (wm_S G) g 229 [(0, .ref (G.B + b0)), (2, .int b2), (3, .int b3), (5, .int b5)] [.int s0] := by
    intro b0 b2 b3 b5 s0 k0 g h
    unfold mf_Mo_reckon_229 at h
    refine wm_istore C d_Mo_reckon_229 (by decide) ?_
    refine wm_aload_n C d_Mo_reckon_231 rfl ?_
    refine wm_iload C d_Mo_reckon_232 rfl ?_
    refine wk_if_eq (tgt := 242) C d_Mo_reckon_234 rfl h (fun _ h => ?_) (fun _ h => ?_)
    · refine wm_iconst (v := (0 : Int32)) C d_Mo_reckon_242 (by decide) ?_
      refine wk_cut (c_243 b0 b2 b3 b5 s0 (0 : Int32) b0 k0 k0 g h) ?_
      exact ⟨rfl, rfl, rfl, rfl, rfl, trivial⟩
    · refine wm_bipush (v := (32 : Int32)) C d_Mo_reckon_237 (by decide) ?_
      refine wm_goto (tgt := 243) C d_Mo_reckon_239 rfl ?_
      refine wk_cut (c_243 b0 b2 b3 b5 s0 (32 : Int32) b0 k0 k0 g h) ?_
      exact ⟨rfl, rfl, rfl, rfl, rfl, trivial⟩
  have c_228 : ∀ (b0 : Nat) (b2 : Int32) (b3 : Int32) (b5 : Int32) (k0 : kd b0 = 8) (g : wm_Sg), mf_Mo_reckon_228 b0 b2 b3 b5 g = some v → wm_W G X 9 0 0 wm_n (wm_S G) g 228 [(0, .ref (G.B + b0)), (2, .int b2), (3, .int b3), (5, .int b5)] [] := by
    intro b0 b2 b3 b5 k0 g h
    unfold mf_Mo_reckon_228 at h
    refine wm_iconst (v := (0 : Int32)) C d_Mo_reckon_228 (by decide) ?_
    refine wk_cut (c_229 b0 b2 b3 b5 (0 : Int32) k0 g h) ?_
    exact ⟨rfl, rfl, rfl, rfl, trivial⟩
  unfold mf_Mo_reckon at h
  refine wm_aload_n C d_Mo_reckon_0 rfl ?_
  refine gt_8_11 C k0 (ws_in iw_8) (ws_1 mw_1_239) d_Mo_reckon_1 ?_
  refine wm_iload_n C d_Mo_reckon_4 rfl ?_
  refine wk_iald C (kr_8_11 k0) d_Mo_reckon_5 h (fun h => ?_)
  refine wm_aload_n C d_Mo_reckon_6 rfl ?_
  refine gt_8_11 C k0 (ws_in iw_8) (ws_1 mw_1_239) d_Mo_reckon_7 ?_
  refine wm_iload_n C d_Mo_reckon_10 rfl ?_
  refine wk_iald C (kr_8_11 k0) d_Mo_reckon_11 h (fun h => ?_)
  refine wk_bind h (fun v21 e21 h => wm_cSi (na := 2) C (mc_Mo_least (g (sh_r a0 11) (a2).toNatClampNeg) (g (sh_r a0 11) (a3).toNatClampNeg) g v21 e21) (gc_Mo_least mw_2_134) rfl (by decide +kernel) rfl (by decide) (by decide) d_Mo_reckon_12 rfl (Nat.le_of_ble_eq_true rfl) (Nat.zero_le _) (Nat.zero_le _) (fun r21 u21 q21 => ?_))
  obtain ⟨rfl, rfl⟩ := q21
  refine wm_istore C d_Mo_reckon_15 (by decide) ?_
  refine wm_aload_n C d_Mo_reckon_17 rfl ?_
  refine wm_iload_n C d_Mo_reckon_18 rfl ?_
  refine wm_aload_n C d_Mo_reckon_19 rfl ?_
  refine gt_8_13 C k0 (ws_in iw_8) (ws_1 mw_2_1) d_Mo_reckon_20 ?_
  refine wm_iload_n C d_Mo_reckon_23 rfl ?_
  refine wk_iald C (kr_8_13 k0) d_Mo_reckon_24 h (fun h => ?_)
  refine wm_aload_n C d_Mo_reckon_25 rfl ?_
  refine gt_8_13 C k0 (ws_in iw_8) (ws_1 mw_2_1) d_Mo_reckon_26 ?_
  refine wm_iload_n C d_Mo_reckon_29 rfl ?_
  refine wk_iald C (kr_8_13 k0) d_Mo_reckon_30 h (fun h => ?_)
  refine wk_bind h (fun v22 e22 h => wm_cVi (ci := 8) (q := (Rn_8, Tn_8, 25)) (na := 3) C (mc_Mo_signsBy a0 a1 (v21.2 (sh_r a0 13) (a2).toNatClampNeg) (v21.2 (sh_r a0 13) (a3).toNatClampNeg) v21.2 v22 k0 e22) (gc_Mo_signsBy mw_2_170) (kd_lt (by rw [k0]; decide)) rfl ⟨_, wm_S_8 k0 _⟩ rfl rfl (by decide +kernel) rfl (by decide) (by decide) d_Mo_reckon_31 rfl (Nat.le_of_ble_eq_true rfl) (Nat.zero_le _) (Nat.zero_le _) (fun r22 u22 q22 => ?_))
  obtain ⟨rfl, rfl⟩ := q22
  refine wm_istore C d_Mo_reckon_34 (by decide) ?_
  refine wm_iload_n C d_Mo_reckon_36 rfl ?_
  refine wm_iconst (v := (2 : Int32)) C d_Mo_reckon_37 (by decide) ?_
  refine wk_icmp_ne (tgt := 65) C d_Mo_reckon_38 rfl h (fun _ h => ?_) (fun _ h => ?_)
  · refine wm_aload_n C d_Mo_reckon_41 rfl ?_
    refine wm_iload C d_Mo_reckon_42 rfl ?_
    refine wm_aload_n C d_Mo_reckon_44 rfl ?_
    refine gt_8_12 C k0 (ws_in iw_8) (ws_1 mw_2_0) d_Mo_reckon_45 ?_
    refine wm_iload_n C d_Mo_reckon_48 rfl ?_
    refine wk_iald C (kr_8_12 k0) d_Mo_reckon_49 h (fun h => ?_)
    refine wm_aload_n C d_Mo_reckon_50 rfl ?_
    refine gt_8_12 C k0 (ws_in iw_8) (ws_1 mw_2_0) d_Mo_reckon_51 ?_
    refine wm_iload_n C d_Mo_reckon_54 rfl ?_
    refine wk_iald C (kr_8_12 k0) d_Mo_reckon_55 h (fun h => ?_)
    refine wm_iadd C d_Mo_reckon_56 ?_
    refine wm_iload C d_Mo_reckon_57 rfl ?_
    refine wk_bind h (fun v23 e23 h => wm_cVv (ci := 8) (q := (Rn_8, Tn_8, 25)) (na := 3) C (mc_Mo_result a0 v21.1 ((v22.2 (sh_r a0 12) (a2).toNatClampNeg) + (v22.2 (sh_r a0 12) (a3).toNatClampNeg)) v22.1 v22.2 v23 k0 e23) (gc_Mo_result mw_2_118) (kd_lt (by rw [k0]; decide)) rfl ⟨_, wm_S_8 k0 _⟩ rfl rfl (by decide +kernel) rfl (by decide) (by decide) d_Mo_reckon_59 rfl (Nat.le_of_ble_eq_true rfl) (Nat.zero_le _) (Nat.zero_le _) (fun u23 q23 => ?_))
    subst u23
    refine wm_goto (tgt := 272) C d_Mo_reckon_62 rfl ?_
    refine wk_cut (c_272 a0 k0 v23 h) ?_
    exact ⟨rfl, trivial⟩
  · refine wm_iload_n C d_Mo_reckon_65 rfl ?_
    refine wm_iconst (v := (3 : Int32)) C d_Mo_reckon_66 (by decide) ?_
    refine wk_icmp_ne (tgt := 94) C d_Mo_reckon_67 rfl h (fun _ h => ?_) (fun _ h => ?_)
    · refine wm_aload_n C d_Mo_reckon_70 rfl ?_
      refine wm_iload C d_Mo_reckon_71 rfl ?_
      refine wm_aload_n C d_Mo_reckon_73 rfl ?_
      refine gt_8_12 C k0 (ws_in iw_8) (ws_1 mw_2_0) d_Mo_reckon_74 ?_
      refine wm_iload_n C d_Mo_reckon_77 rfl ?_
      refine wk_iald C (kr_8_12 k0) d_Mo_reckon_78 h (fun h => ?_)
      refine wm_aload_n C d_Mo_reckon_79 rfl ?_
      refine gt_8_12 C k0 (ws_in iw_8) (ws_1 mw_2_0) d_Mo_reckon_80 ?_
      refine wm_iload_n C d_Mo_reckon_83 rfl ?_
      refine wk_iald C (kr_8_12 k0) d_Mo_reckon_84 h (fun h => ?_)
      refine wm_isub C d_Mo_reckon_85 ?_
      refine wm_iload C d_Mo_reckon_86 rfl ?_
      refine wk_bind h (fun v24 e24 h => wm_cVv (ci := 8) (q := (Rn_8, Tn_8, 25)) (na := 3) C (mc_Mo_result a0 v21.1 ((v22.2 (sh_r a0 12) (a2).toNatClampNeg) - (v22.2 (sh_r a0 12) (a3).toNatClampNeg)) v22.1 v22.2 v24 k0 e24) (gc_Mo_result mw_2_118) (kd_lt (by rw [k0]; decide)) rfl ⟨_, wm_S_8 k0 _⟩ rfl rfl (by decide +kernel) rfl (by decide) (by decide) d_Mo_reckon_88 rfl (Nat.le_of_ble_eq_true rfl) (Nat.zero_le _) (Nat.zero_le _) (fun u24 q24 => ?_))
      subst u24
      refine wm_goto (tgt := 272) C d_Mo_reckon_91 rfl ?_
      refine wk_cut (c_272 a0 k0 v24 h) ?_
      exact ⟨rfl, trivial⟩
    · refine wm_iload_n C d_Mo_reckon_94 rfl ?_
      refine wm_iconst (v := (4 : Int32)) C d_Mo_reckon_95 (by decide) ?_
      refine wk_icmp_ne (tgt := 208) C d_Mo_reckon_96 rfl h (fun _ h => ?_) (fun _ h => ?_)
      · refine wm_aload_n C d_Mo_reckon_99 rfl ?_
        refine gt_8_11 C k0 (ws_in iw_8) (ws_1 mw_1_239) d_Mo_reckon_100 ?_
        refine wm_iload_n C d_Mo_reckon_103 rfl ?_
        refine wk_iald C (kr_8_11 k0) d_Mo_reckon_104 h (fun h => ?_)
        refine wm_aload_n C d_Mo_reckon_105 rfl ?_
        refine gt_8_12 C k0 (ws_in iw_8) (ws_1 mw_2_0) d_Mo_reckon_106 ?_
        refine wm_iload_n C d_Mo_reckon_109 rfl ?_
        refine wk_iald C (kr_8_12 k0) d_Mo_reckon_110 h (fun h => ?_)
        refine wk_bind h (fun v25 e25 h => wm_cSi (na := 1) C (mc_Mo_zeros (v22.2 (sh_r a0 12) (a3).toNatClampNeg) v22.2 v25 e25) (gc_Mo_zeros mw_2_137) rfl (by decide +kernel) rfl (by decide) (by decide) d_Mo_reckon_111 rfl (Nat.le_of_ble_eq_true rfl) (Nat.zero_le _) (Nat.zero_le _) (fun r25 u25 q25 => ?_))
        obtain ⟨rfl, rfl⟩ := q25
        refine wm_iadd C d_Mo_reckon_114 ?_
        refine wm_istore C d_Mo_reckon_115 (by decide) ?_
        refine wm_aload_n C d_Mo_reckon_117 rfl ?_
        refine gt_8_11 C k0 (ws_in iw_8) (ws_1 mw_1_239) d_Mo_reckon_118 ?_
        refine wm_iload_n C d_Mo_reckon_121 rfl ?_
        refine wk_iald C (kr_8_11 k0) d_Mo_reckon_122 h (fun h => ?_)
        refine wm_aload_n C d_Mo_reckon_123 rfl ?_
        refine gt_8_12 C k0 (ws_in iw_8) (ws_1 mw_2_0) d_Mo_reckon_124 ?_
        refine wm_iload_n C d_Mo_reckon_127 rfl ?_
        refine wk_iald C (kr_8_12 k0) d_Mo_reckon_128 h (fun h => ?_)
        refine wk_bind h (fun v26 e26 h => wm_cSi (na := 1) C (mc_Mo_zeros (v25.2 (sh_r a0 12) (a2).toNatClampNeg) v25.2 v26 e26) (gc_Mo_zeros mw_2_137) rfl (by decide +kernel) rfl (by decide) (by decide) d_Mo_reckon_129 rfl (Nat.le_of_ble_eq_true rfl) (Nat.zero_le _) (Nat.zero_le _) (fun r26 u26 q26 => ?_))
        obtain ⟨rfl, rfl⟩ := q26
        refine wm_iadd C d_Mo_reckon_132 ?_
        refine wm_istore C d_Mo_reckon_133 (by decide) ?_
        refine wm_iload C d_Mo_reckon_135 rfl ?_
        refine wm_iload C d_Mo_reckon_137 rfl ?_
        refine wk_bind h (fun v27 e27 h => wm_cSi (na := 2) C (mc_Mo_least ((v22.2 (sh_r a0 11) (a2).toNatClampNeg) + v25.1) ((v25.2 (sh_r a0 11) (a3).toNatClampNeg) + v26.1) v26.2 v27 e27) (gc_Mo_least mw_2_134) rfl (by decide +kernel) rfl (by decide) (by decide) d_Mo_reckon_139 rfl (Nat.le_of_ble_eq_true rfl) (Nat.zero_le _) (Nat.zero_le _) (fun r27 u27 q27 => ?_))
        obtain ⟨rfl, rfl⟩ := q27
        refine wm_aload_n C d_Mo_reckon_142 rfl ?_
        refine gt_8_11 C k0 (ws_in iw_8) (ws_1 mw_1_239) d_Mo_reckon_143 ?_
        refine wm_iload_n C d_Mo_reckon_146 rfl ?_
        refine wk_iald C (kr_8_11 k0) d_Mo_reckon_147 h (fun h => ?_)
        refine wm_aload_n C d_Mo_reckon_148 rfl ?_
        refine gt_8_11 C k0 (ws_in iw_8) (ws_1 mw_1_239) d_Mo_reckon_149 ?_
        refine wm_iload_n C d_Mo_reckon_152 rfl ?_
        refine wk_iald C (kr_8_11 k0) d_Mo_reckon_153 h (fun h => ?_)
        refine wm_iadd C d_Mo_reckon_154 ?_
        refine wk_bind h (fun v28 e28 h => wm_cSi (na := 2) C (mc_Mo_least v27.1 ((v27.2 (sh_r a0 11) (a2).toNatClampNeg) + (v27.2 (sh_r a0 11) (a3).toNatClampNeg)) v27.2 v28 e28) (gc_Mo_least mw_2_134) rfl (by decide +kernel) rfl (by decide) (by decide) d_Mo_reckon_155 rfl (Nat.le_of_ble_eq_true rfl) (Nat.zero_le _) (Nat.zero_le _) (fun r28 u28 q28 => ?_))
        obtain ⟨rfl, rfl⟩ := q28
        refine wm_istore C d_Mo_reckon_158 (by decide) ?_
        refine wm_aload_n C d_Mo_reckon_160 rfl ?_
        refine wm_iload C d_Mo_reckon_161 rfl ?_
        refine wm_bipush (v := (31 : Int32)) C d_Mo_reckon_163 (by decide) ?_
        refine wk_icmp_le (tgt := 173) C d_Mo_reckon_165 rfl h (fun _ h => ?_) (fun _ h => ?_)
        · refine wm_iload C d_Mo_reckon_173 rfl ?_
          refine wm_bipush (v := (16 : Int32)) C d_Mo_reckon_175 (by decide) ?_
          refine wk_icmp_le (tgt := 185) C d_Mo_reckon_177 rfl h (fun _ h => ?_) (fun _ h => ?_)
          · refine wm_iload C d_Mo_reckon_185 rfl ?_
            refine wk_cut (c_187 a0 a2 a3 v22.1 v28.1 a0 k0 k0 v28.2 h) ?_
            exact ⟨rfl, rfl, rfl, rfl, trivial⟩
          · refine wm_bipush (v := (16 : Int32)) C d_Mo_reckon_180 (by decide) ?_
            refine wm_goto (tgt := 187) C d_Mo_reckon_182 rfl ?_
            refine wk_cut (c_187 a0 a2 a3 v22.1 (16 : Int32) a0 k0 k0 v28.2 h) ?_
            exact ⟨rfl, rfl, rfl, rfl, trivial⟩
        · refine wm_bipush (v := (32 : Int32)) C d_Mo_reckon_168 (by decide) ?_
          refine wm_goto (tgt := 187) C d_Mo_reckon_170 rfl ?_
          refine wk_cut (c_187 a0 a2 a3 v22.1 (32 : Int32) a0 k0 k0 v28.2 h) ?_
          exact ⟨rfl, rfl, rfl, rfl, trivial⟩
      · refine wm_iload C d_Mo_reckon_208 rfl ?_
        refine wm_bipush (v := (32 : Int32)) C d_Mo_reckon_210 (by decide) ?_
        refine wk_icmp_ne (tgt := 228) C d_Mo_reckon_212 rfl h (fun _ h => ?_) (fun _ h => ?_)
        · refine wm_aload_n C d_Mo_reckon_215 rfl ?_
          refine gt_8_12 C k0 (ws_in iw_8) (ws_1 mw_2_0) d_Mo_reckon_216 ?_
          refine wm_iload_n C d_Mo_reckon_219 rfl ?_
          refine wk_iald C (kr_8_12 k0) d_Mo_reckon_220 h (fun h => ?_)
          refine wk_if_eq (tgt := 228) C d_Mo_reckon_221 rfl h (fun _ h => ?_) (fun _ h => ?_)
          · refine wk_cut (c_228 a0 a2 a3 v22.1 k0 v22.2 h) ?_
            exact ⟨rfl, rfl, rfl, rfl, trivial⟩
          · refine wm_iconst (v := (1 : Int32)) C d_Mo_reckon_224 (by decide) ?_
            refine wm_goto (tgt := 229) C d_Mo_reckon_225 rfl ?_
            refine wk_cut (c_229 a0 a2 a3 v22.1 (1 : Int32) k0 v22.2 h) ?_
            exact ⟨rfl, rfl, rfl, rfl, trivial⟩
        · refine wk_cut (c_228 a0 a2 a3 v22.1 k0 v22.2 h) ?_
          exact ⟨rfl, rfl, rfl, rfl, trivial⟩
/-! FactFlowModel.worked(I)Z -/
def mf_Mo_worked_178  (g : wm_Sg) : Option (Int32 × wm_Sg) :=
  some ((1 : Int32), g)
def mf_Mo_worked_129 (b0 : Nat) (b1 : Int32) (b2 : Int32) (b3 : Int32) (g : wm_Sg) : Option (Int32 × wm_Sg) :=
  if b1 < 0 ∨ sh_n (sh_r b0 3) ≤ (b1).toNatClampNeg then none else if b1 < 0 ∨ sh_n (sh_r b0 4) ≤ (b1).toNatClampNeg then none else (mf_Mo_reckon b0 b2 (g (sh_r b0 3) (b1).toNatClampNeg) (g (sh_r b0 4) (b1).toNatClampNeg) g).bind fun v15 => if v15.1 = (0 : Int32) then (some ((0 : Int32), v15.2)) else ((mf_Mo_take b0 b3 v15.2).bind fun v16 => mf_Mo_worked_178 v16)
def mf_Mo_worked_159 (b0 : Nat) (b2 : Int32) (b3 : Int32) (g : wm_Sg) : Option (Int32 × wm_Sg) :=
  if b2 = (6 : Int32) then ((mf_Mo_result b0 (0 : Int32) (0 : Int32) (7 : Int32) g).bind fun v17 => (mf_Mo_take b0 b3 v17).bind fun v18 => mf_Mo_worked_178 v18) else (mf_Mo_worked_178 g)
def mf_Mo_worked (a0 : Nat) (a1 : Int32) (g : wm_Sg) : Option (Int32 × wm_Sg) :=
  if a1 < 0 ∨ sh_n (sh_r a0 1) ≤ (a1).toNatClampNeg then none else if a1 < 0 ∨ sh_n (sh_r a0 2) ≤ (a1).toNatClampNeg then none else if (g (sh_r a0 1) (a1).toNatClampNeg) = (0 : Int32) then (if a1 < 0 ∨ sh_n (sh_r a0 4) ≤ (a1).toNatClampNeg then none else if a1 < 0 ∨ sh_n (sh_r a0 4) ≤ (a1).toNatClampNeg then none else (mf_Mo_sign (g (sh_r a0 4) (a1).toNatClampNeg) g).bind fun v19 => (mf_Mo_result a0 (32 : Int32) (g (sh_r a0 4) (a1).toNatClampNeg) v19.1 v19.2).bind fun v20 => (mf_Mo_take a0 (g (sh_r a0 2) (a1).toNatClampNeg) v20).bind fun v21 => mf_Mo_worked_178 v21) else (if (g (sh_r a0 1) (a1).toNatClampNeg) = (1 : Int32) then (if a1 < 0 ∨ sh_n (sh_r a0 3) ≤ (a1).toNatClampNeg then none else if (g (sh_r a0 3) (a1).toNatClampNeg) < 0 ∨ sh_n (sh_r a0 11) ≤ ((g (sh_r a0 3) (a1).toNatClampNeg)).toNatClampNeg then none else if a1 < 0 ∨ sh_n (sh_r a0 3) ≤ (a1).toNatClampNeg then none else if (g (sh_r a0 3) (a1).toNatClampNeg) < 0 ∨ sh_n (sh_r a0 12) ≤ ((g (sh_r a0 3) (a1).toNatClampNeg)).toNatClampNeg then none else if a1 < 0 ∨ sh_n (sh_r a0 3) ≤ (a1).toNatClampNeg then none else if (g (sh_r a0 3) (a1).toNatClampNeg) < 0 ∨ sh_n (sh_r a0 13) ≤ ((g (sh_r a0 3) (a1).toNatClampNeg)).toNatClampNeg then none else (mf_Mo_result a0 (g (sh_r a0 11) ((g (sh_r a0 3) (a1).toNatClampNeg)).toNatClampNeg) (g (sh_r a0 12) ((g (sh_r a0 3) (a1).toNatClampNeg)).toNatClampNeg) (g (sh_r a0 13) ((g (sh_r a0 3) (a1).toNatClampNeg)).toNatClampNeg) g).bind fun v22 => (mf_Mo_take a0 (g (sh_r a0 2) (a1).toNatClampNeg) v22).bind fun v23 => mf_Mo_worked_178 v23) else (if (g (sh_r a0 1) (a1).toNatClampNeg) ≤ (1 : Int32) then (mf_Mo_worked_159 a0 (g (sh_r a0 1) (a1).toNatClampNeg) (g (sh_r a0 2) (a1).toNatClampNeg) g) else (if (6 : Int32) ≤ (g (sh_r a0 1) (a1).toNatClampNeg) then (mf_Mo_worked_159 a0 (g (sh_r a0 1) (a1).toNatClampNeg) (g (sh_r a0 2) (a1).toNatClampNeg) g) else (if (g (sh_r a0 1) (a1).toNatClampNeg) = (5 : Int32) then (if a1 < 0 ∨ sh_n (sh_r a0 4) ≤ (a1).toNatClampNeg then none else (mf_Mo_only a0 (g (sh_r a0 4) (a1).toNatClampNeg) (5 : Int32) g).bind fun v24 => if v24.1 = (0 : Int32) then (some ((0 : Int32), v24.2)) else (mf_Mo_worked_129 a0 a1 (g (sh_r a0 1) (a1).toNatClampNeg) (g (sh_r a0 2) (a1).toNatClampNeg) v24.2)) else (mf_Mo_worked_129 a0 a1 (g (sh_r a0 1) (a1).toNatClampNeg) (g (sh_r a0 2) (a1).toNatClampNeg) g)))))
set_option maxHeartbeats 4000000 in
set_option maxRecDepth 100000 in
theorem mc_Mo_worked {l : Launch} {G : wm_G} (a0 : Nat) (a1 : Int32) (g : wm_Sg) (v : (Int32 × wm_Sg)) (k0 : kd a0 = 8) (h : mf_Mo_worked a0 a1 g = some v) : wm_Mi l G y_Mo_worked ws_Mo_worked 4 wm_n (wm_S G) [.ref (G.B + a0), .int a1] g (fun r u => r = v.1 ∧ u = v.2) := by
  refine wm_in_z (cc := c_Mo_worked) (maxL := 4) (by decide) rfl (Nat.le_of_ble_eq_true rfl) (fun X C _ E => ?_)
  have c_178 : ∀ (g : wm_Sg), mf_Mo_worked_178  g = some v → wm_W G X 4 0 0 wm_n (wm_S G) g 178 [] [] := by
    intro g h
    unfold mf_Mo_worked_178 at h
    refine wm_iconst (v := (1 : Int32)) C d_Mo_worked_178 (by decide) ?_
    exact E _ _ _ _ d_Mo_worked_179 rfl (wk_ret h)
  have c_129 : ∀ (b0 : Nat) (b1 : Int32) (b2 : Int32) (b3 : Int32) (k0 : kd b0 = 8) (g : wm_Sg), mf_Mo_worked_129 b0 b1 b2 b3 g = some v → wm_W G X 4 0 0 wm_n (wm_S G) g 129 [(0, .ref (G.B + b0)), (1, .int b1), (2, .int b2), (3, .int b3)] [] := by
    intro b0 b1 b2 b3 k0 g h
    unfold mf_Mo_worked_129 at h
    refine wm_aload_n C d_Mo_worked_129 rfl ?_
    refine wm_iload_n C d_Mo_worked_130 rfl ?_
    refine wm_aload_n C d_Mo_worked_131 rfl ?_
    refine gt_8_3 C k0 (ws_in iw_8) (ws_1 mw_1_231) d_Mo_worked_132 ?_
    refine wm_iload_n C d_Mo_worked_135 rfl ?_
    refine wk_iald C (kr_8_3 k0) d_Mo_worked_136 h (fun h => ?_)
    refine wm_aload_n C d_Mo_worked_137 rfl ?_
    refine gt_8_4 C k0 (ws_in iw_8) (ws_1 mw_1_232) d_Mo_worked_138 ?_
    refine wm_iload_n C d_Mo_worked_141 rfl ?_
    refine wk_iald C (kr_8_4 k0) d_Mo_worked_142 h (fun h => ?_)
    refine wk_bind h (fun v15 e15 h => wm_cVi (ci := 8) (q := (Rn_8, Tn_8, 25)) (na := 3) C (mc_Mo_reckon b0 b2 (g (sh_r b0 3) (b1).toNatClampNeg) (g (sh_r b0 4) (b1).toNatClampNeg) g v15 k0 e15) (gc_Mo_reckon mw_2_166) (kd_lt (by rw [k0]; decide)) rfl ⟨_, wm_S_8 k0 _⟩ rfl rfl (by decide +kernel) rfl (by decide) (by decide) d_Mo_worked_143 rfl (Nat.le_of_ble_eq_true rfl) (Nat.zero_le _) (Nat.zero_le _) (fun r15 u15 q15 => ?_))
    obtain ⟨rfl, rfl⟩ := q15
    refine wk_if_ne (tgt := 151) C d_Mo_worked_146 rfl h (fun _ h => ?_) (fun _ h => ?_)
    · refine wm_iconst (v := (0 : Int32)) C d_Mo_worked_149 (by decide) ?_
      exact E _ _ _ _ d_Mo_worked_150 rfl (wk_ret h)
    · refine wm_aload_n C d_Mo_worked_151 rfl ?_
      refine wm_iload_n C d_Mo_worked_152 rfl ?_
      refine wk_bind h (fun v16 e16 h => wm_cVv (ci := 8) (q := (Rn_8, Tn_8, 25)) (na := 1) C (mc_Mo_take b0 b3 v15.2 v16 k0 e16) (gc_Mo_take mw_2_122) (kd_lt (by rw [k0]; decide)) rfl ⟨_, wm_S_8 k0 _⟩ rfl rfl (by decide +kernel) rfl (by decide) (by decide) d_Mo_worked_153 rfl (Nat.le_of_ble_eq_true rfl) (Nat.zero_le _) (Nat.zero_le _) (fun u16 q16 => ?_))
      subst u16
      refine wm_goto (tgt := 178) C d_Mo_worked_156 rfl ?_
      refine wk_cut (c_178 v16 h) ?_
      exact trivial
  have c_159 : ∀ (b0 : Nat) (b2 : Int32) (b3 : Int32) (k0 : kd b0 = 8) (g : wm_Sg), mf_Mo_worked_159 b0 b2 b3 g = some v → wm_W G X 4 0 0 wm_n (wm_S G) g 159 [(0, .ref (G.B + b0)), (2, .int b2), (3, .int b3)] [] := by
    intro b0 b2 b3 k0 g h
    unfold mf_Mo_worked_159 at h
    refine wm_iload_n C d_Mo_worked_159 rfl ?_
    refine wm_bipush (v := (6 : Int32)) C d_Mo_worked_160 (by decide) ?_
    refine wk_icmp_ne (tgt := 178) C d_Mo_worked_162 rfl h (fun _ h => ?_) (fun _ h => ?_)
    · refine wm_aload_n C d_Mo_worked_165 rfl ?_
      refine wm_iconst (v := (0 : Int32)) C d_Mo_worked_166 (by decide) ?_
      refine wm_iconst (v := (0 : Int32)) C d_Mo_worked_167 (by decide) ?_
      refine wm_bipush (v := (7 : Int32)) C d_Mo_worked_168 (by decide) ?_
      refine wk_bind h (fun v17 e17 h => wm_cVv (ci := 8) (q := (Rn_8, Tn_8, 25)) (na := 3) C (mc_Mo_result b0 (0 : Int32) (0 : Int32) (7 : Int32) g v17 k0 e17) (gc_Mo_result mw_2_118) (kd_lt (by rw [k0]; decide)) rfl ⟨_, wm_S_8 k0 _⟩ rfl rfl (by decide +kernel) rfl (by decide) (by decide) d_Mo_worked_170 rfl (Nat.le_of_ble_eq_true rfl) (Nat.zero_le _) (Nat.zero_le _) (fun u17 q17 => ?_))
      subst u17
      refine wm_aload_n C d_Mo_worked_173 rfl ?_
      refine wm_iload_n C d_Mo_worked_174 rfl ?_
      refine wk_bind h (fun v18 e18 h => wm_cVv (ci := 8) (q := (Rn_8, Tn_8, 25)) (na := 1) C (mc_Mo_take b0 b3 v17 v18 k0 e18) (gc_Mo_take mw_2_122) (kd_lt (by rw [k0]; decide)) rfl ⟨_, wm_S_8 k0 _⟩ rfl rfl (by decide +kernel) rfl (by decide) (by decide) d_Mo_worked_175 rfl (Nat.le_of_ble_eq_true rfl) (Nat.zero_le _) (Nat.zero_le _) (fun u18 q18 => ?_))
      subst u18
      refine wk_cut (c_178 v18 h) ?_
      exact trivial
    · refine wk_cut (c_178 g h) ?_
      exact trivial
  unfold mf_Mo_worked at h
  refine wm_aload_n C d_Mo_worked_0 rfl ?_
  refine gt_8_1 C k0 (ws_in iw_8) (ws_1 mw_1_229) d_Mo_worked_1 ?_
  refine wm_iload_n C d_Mo_worked_4 rfl ?_
  refine wk_iald C (kr_8_1 k0) d_Mo_worked_5 h (fun h => ?_)
  refine wm_istore_n C d_Mo_worked_6 (by decide) ?_
  refine wm_aload_n C d_Mo_worked_7 rfl ?_
  refine gt_8_2 C k0 (ws_in iw_8) (ws_1 mw_1_230) d_Mo_worked_8 ?_
  refine wm_iload_n C d_Mo_worked_11 rfl ?_
  refine wk_iald C (kr_8_2 k0) d_Mo_worked_12 h (fun h => ?_)
  refine wm_istore_n C d_Mo_worked_13 (by decide) ?_
  refine wm_iload_n C d_Mo_worked_14 rfl ?_
  refine wk_if_ne (tgt := 47) C d_Mo_worked_15 rfl h (fun _ h => ?_) (fun _ h => ?_)
  · refine wm_aload_n C d_Mo_worked_18 rfl ?_
    refine wm_bipush (v := (32 : Int32)) C d_Mo_worked_19 (by decide) ?_
    refine wm_aload_n C d_Mo_worked_21 rfl ?_
    refine gt_8_4 C k0 (ws_in iw_8) (ws_1 mw_1_232) d_Mo_worked_22 ?_
    refine wm_iload_n C d_Mo_worked_25 rfl ?_
    refine wk_iald C (kr_8_4 k0) d_Mo_worked_26 h (fun h => ?_)
    refine wm_aload_n C d_Mo_worked_27 rfl ?_
    refine gt_8_4 C k0 (ws_in iw_8) (ws_1 mw_1_232) d_Mo_worked_28 ?_
    refine wm_iload_n C d_Mo_worked_31 rfl ?_
    refine wk_iald C (kr_8_4 k0) d_Mo_worked_32 h (fun h => ?_)
    refine wk_bind h (fun v19 e19 h => wm_cSi (na := 1) C (mc_Mo_sign (g (sh_r a0 4) (a1).toNatClampNeg) g v19 e19) (gc_Mo_sign mw_2_159) rfl (by decide +kernel) rfl (by decide) (by decide) d_Mo_worked_33 rfl (Nat.le_of_ble_eq_true rfl) (Nat.zero_le _) (Nat.zero_le _) (fun r19 u19 q19 => ?_))
    obtain ⟨rfl, rfl⟩ := q19
    refine wk_bind h (fun v20 e20 h => wm_cVv (ci := 8) (q := (Rn_8, Tn_8, 25)) (na := 3) C (mc_Mo_result a0 (32 : Int32) (g (sh_r a0 4) (a1).toNatClampNeg) v19.1 v19.2 v20 k0 e20) (gc_Mo_result mw_2_118) (kd_lt (by rw [k0]; decide)) rfl ⟨_, wm_S_8 k0 _⟩ rfl rfl (by decide +kernel) rfl (by decide) (by decide) d_Mo_worked_36 rfl (Nat.le_of_ble_eq_true rfl) (Nat.zero_le _) (Nat.zero_le _) (fun u20 q20 => ?_))
    subst u20
    refine wm_aload_n C d_Mo_worked_39 rfl ?_
    refine wm_iload_n C d_Mo_worked_40 rfl ?_
    refine wk_bind h (fun v21 e21 h => wm_cVv (ci := 8) (q := (Rn_8, Tn_8, 25)) (na := 1) C (mc_Mo_take a0 (g (sh_r a0 2) (a1).toNatClampNeg) v20 v21 k0 e21) (gc_Mo_take mw_2_122) (kd_lt (by rw [k0]; decide)) rfl ⟨_, wm_S_8 k0 _⟩ rfl rfl (by decide +kernel) rfl (by decide) (by decide) d_Mo_worked_41 rfl (Nat.le_of_ble_eq_true rfl) (Nat.zero_le _) (Nat.zero_le _) (fun u21 q21 => ?_))
    subst u21
    refine wm_goto (tgt := 178) C d_Mo_worked_44 rfl ?_
    refine wk_cut (c_178 v21 h) ?_
    exact trivial
  · refine wm_iload_n C d_Mo_worked_47 rfl ?_
    refine wm_iconst (v := (1 : Int32)) C d_Mo_worked_48 (by decide) ?_
    refine wk_icmp_ne (tgt := 97) C d_Mo_worked_49 rfl h (fun _ h => ?_) (fun _ h => ?_)
    · refine wm_aload_n C d_Mo_worked_52 rfl ?_
      refine wm_aload_n C d_Mo_worked_53 rfl ?_
      refine gt_8_11 C k0 (ws_in iw_8) (ws_1 mw_1_239) d_Mo_worked_54 ?_
      refine wm_aload_n C d_Mo_worked_57 rfl ?_
      refine gt_8_3 C k0 (ws_in iw_8) (ws_1 mw_1_231) d_Mo_worked_58 ?_
      refine wm_iload_n C d_Mo_worked_61 rfl ?_
      refine wk_iald C (kr_8_3 k0) d_Mo_worked_62 h (fun h => ?_)
      refine wk_iald C (kr_8_11 k0) d_Mo_worked_63 h (fun h => ?_)
      refine wm_aload_n C d_Mo_worked_64 rfl ?_
      refine gt_8_12 C k0 (ws_in iw_8) (ws_1 mw_2_0) d_Mo_worked_65 ?_
      refine wm_aload_n C d_Mo_worked_68 rfl ?_
      refine gt_8_3 C k0 (ws_in iw_8) (ws_1 mw_1_231) d_Mo_worked_69 ?_
      refine wm_iload_n C d_Mo_worked_72 rfl ?_
      refine wk_iald C (kr_8_3 k0) d_Mo_worked_73 h (fun h => ?_)
      refine wk_iald C (kr_8_12 k0) d_Mo_worked_74 h (fun h => ?_)
      refine wm_aload_n C d_Mo_worked_75 rfl ?_
      refine gt_8_13 C k0 (ws_in iw_8) (ws_1 mw_2_1) d_Mo_worked_76 ?_
      refine wm_aload_n C d_Mo_worked_79 rfl ?_
      refine gt_8_3 C k0 (ws_in iw_8) (ws_1 mw_1_231) d_Mo_worked_80 ?_
      refine wm_iload_n C d_Mo_worked_83 rfl ?_
      refine wk_iald C (kr_8_3 k0) d_Mo_worked_84 h (fun h => ?_)
      refine wk_iald C (kr_8_13 k0) d_Mo_worked_85 h (fun h => ?_)
      refine wk_bind h (fun v22 e22 h => wm_cVv (ci := 8) (q := (Rn_8, Tn_8, 25)) (na := 3) C (mc_Mo_result a0 (g (sh_r a0 11) ((g (sh_r a0 3) (a1).toNatClampNeg)).toNatClampNeg) (g (sh_r a0 12) ((g (sh_r a0 3) (a1).toNatClampNeg)).toNatClampNeg) (g (sh_r a0 13) ((g (sh_r a0 3) (a1).toNatClampNeg)).toNatClampNeg) g v22 k0 e22) (gc_Mo_result mw_2_118) (kd_lt (by rw [k0]; decide)) rfl ⟨_, wm_S_8 k0 _⟩ rfl rfl (by decide +kernel) rfl (by decide) (by decide) d_Mo_worked_86 rfl (Nat.le_of_ble_eq_true rfl) (Nat.zero_le _) (Nat.zero_le _) (fun u22 q22 => ?_))
      subst u22
      refine wm_aload_n C d_Mo_worked_89 rfl ?_
      refine wm_iload_n C d_Mo_worked_90 rfl ?_
      refine wk_bind h (fun v23 e23 h => wm_cVv (ci := 8) (q := (Rn_8, Tn_8, 25)) (na := 1) C (mc_Mo_take a0 (g (sh_r a0 2) (a1).toNatClampNeg) v22 v23 k0 e23) (gc_Mo_take mw_2_122) (kd_lt (by rw [k0]; decide)) rfl ⟨_, wm_S_8 k0 _⟩ rfl rfl (by decide +kernel) rfl (by decide) (by decide) d_Mo_worked_91 rfl (Nat.le_of_ble_eq_true rfl) (Nat.zero_le _) (Nat.zero_le _) (fun u23 q23 => ?_))
      subst u23
      refine wm_goto (tgt := 178) C d_Mo_worked_94 rfl ?_
      refine wk_cut (c_178 v23 h) ?_
      exact trivial
    · refine wm_iload_n C d_Mo_worked_97 rfl ?_
      refine wm_iconst (v := (1 : Int32)) C d_Mo_worked_98 (by decide) ?_
      refine wk_icmp_le (tgt := 159) C d_Mo_worked_99 rfl h (fun _ h => ?_) (fun _ h => ?_)
      · refine wk_cut (c_159 a0 (g (sh_r a0 1) (a1).toNatClampNeg) (g (sh_r a0 2) (a1).toNatClampNeg) k0 g h) ?_
        exact ⟨rfl, rfl, rfl, trivial⟩
      · refine wm_iload_n C d_Mo_worked_102 rfl ?_
        refine wm_bipush (v := (6 : Int32)) C d_Mo_worked_103 (by decide) ?_
        refine wk_icmp_ge (tgt := 159) C d_Mo_worked_105 rfl h (fun _ h => ?_) (fun _ h => ?_)
        · refine wk_cut (c_159 a0 (g (sh_r a0 1) (a1).toNatClampNeg) (g (sh_r a0 2) (a1).toNatClampNeg) k0 g h) ?_
          exact ⟨rfl, rfl, rfl, trivial⟩
        · refine wm_iload_n C d_Mo_worked_108 rfl ?_
          refine wm_iconst (v := (5 : Int32)) C d_Mo_worked_109 (by decide) ?_
          refine wk_icmp_ne (tgt := 129) C d_Mo_worked_110 rfl h (fun _ h => ?_) (fun _ h => ?_)
          · refine wm_aload_n C d_Mo_worked_113 rfl ?_
            refine wm_aload_n C d_Mo_worked_114 rfl ?_
            refine gt_8_4 C k0 (ws_in iw_8) (ws_1 mw_1_232) d_Mo_worked_115 ?_
            refine wm_iload_n C d_Mo_worked_118 rfl ?_
            refine wk_iald C (kr_8_4 k0) d_Mo_worked_119 h (fun h => ?_)
            refine wm_iconst (v := (5 : Int32)) C d_Mo_worked_120 (by decide) ?_
            refine wk_bind h (fun v24 e24 h => wm_cVi (ci := 8) (q := (Rn_8, Tn_8, 25)) (na := 2) C (mc_Mo_only a0 (g (sh_r a0 4) (a1).toNatClampNeg) (5 : Int32) g v24 k0 e24) (gc_Mo_only mw_2_151) (kd_lt (by rw [k0]; decide)) rfl ⟨_, wm_S_8 k0 _⟩ rfl rfl (by decide +kernel) rfl (by decide) (by decide) d_Mo_worked_121 rfl (Nat.le_of_ble_eq_true rfl) (Nat.zero_le _) (Nat.zero_le _) (fun r24 u24 q24 => ?_))
            obtain ⟨rfl, rfl⟩ := q24
            refine wk_if_ne (tgt := 129) C d_Mo_worked_124 rfl h (fun _ h => ?_) (fun _ h => ?_)
            · refine wm_iconst (v := (0 : Int32)) C d_Mo_worked_127 (by decide) ?_
              exact E _ _ _ _ d_Mo_worked_128 rfl (wk_ret h)
            · refine wk_cut (c_129 a0 a1 (g (sh_r a0 1) (a1).toNatClampNeg) (g (sh_r a0 2) (a1).toNatClampNeg) k0 v24.2 h) ?_
              exact ⟨rfl, rfl, rfl, rfl, trivial⟩
          · refine wk_cut (c_129 a0 a1 (g (sh_r a0 1) (a1).toNatClampNeg) (g (sh_r a0 2) (a1).toNatClampNeg) k0 g h) ?_
            exact ⟨rfl, rfl, rfl, rfl, trivial⟩
