/-! FactFlow.signs(II)I -/
def mf_Ff_signs_47 (s0 : Int32) (g : wm_Sg) : Option (Int32 × wm_Sg) :=
  some (s0, g)
def mf_Ff_signs_46  (g : wm_Sg) : Option (Int32 × wm_Sg) :=
  mf_Ff_signs_47 (0 : Int32) g
def mf_Ff_signs (a0 : Nat) (a1 : Int32) (a2 : Int32) (g : wm_Sg) : Option (Int32 × wm_Sg) :=
  (mf_So_find (sh_r a0 1) (sh_r a0 0) g).bind fun v6 => (mf_Ff_isVariable a2 v6).bind fun v7 => if v7.1 = (0 : Int32) then (mf_Ff_signs_46 v7.2) else ((mf_Ff_comesTo a0 a1 v7.2).bind fun v8 => if v8.1 = (0 : Int32) then (mf_Ff_signs_46 v8.2) else (if a1 < 0 ∨ sh_n (sh_r (sh_r a0 1) 0) ≤ (a1).toNatClampNeg then none else if a2 < 0 ∨ sh_n (sh_r (sh_r (sh_r (sh_r a0 1) 0) (a1).toNatClampNeg) 0) ≤ (a2).toNatClampNeg then none else mf_Ff_signs_47 (v8.2 (sh_r (sh_r (sh_r (sh_r (sh_r a0 1) 0) (a1).toNatClampNeg) 0) (a2).toNatClampNeg) 2) v8.2))
set_option maxHeartbeats 4000000 in
set_option maxRecDepth 100000 in
theorem mc_Ff_signs {l : Launch} {G : wm_G} (a0 : Nat) (a1 : Int32) (a2 : Int32) (g : wm_Sg) (v : (Int32 × wm_Sg)) (k0 : kd a0 = 0) (h : mf_Ff_signs a0 a1 a2 g = some v) : wm_Mi l G y_Ff_signs ws_Ff_signs 6 wm_n (wm_S G) [.ref (G.B + a0), .int a1, .int a2] g (fun r u => r = v.1 ∧ u = v.2) := by
  refine wm_in_i (cc := c_Ff_signs) (maxL := 3) (by decide) rfl (Nat.le_of_ble_eq_true rfl) (fun X C _ E => ?_)
  have c_47 : ∀ (s0 : Int32) (g : wm_Sg), mf_Ff_signs_47  s0 g = some v → wm_W G X 3 0 0 wm_n (wm_S G) g 47 [] [.int s0] := by
    intro s0 g h
    unfold mf_Ff_signs_47 at h
    exact E _ _ _ _ d_Ff_signs_47 (wk_ret h)
  have c_46 : ∀ (g : wm_Sg), mf_Ff_signs_46  g = some v → wm_W G X 3 0 0 wm_n (wm_S G) g 46 [] [] := by
    intro g h
    unfold mf_Ff_signs_46 at h
    refine wm_iconst (v := (0 : Int32)) C d_Ff_signs_46 (by decide) ?_
    refine wk_cut (c_47 (0 : Int32) g h) ?_
    exact trivial
  unfold mf_Ff_signs at h
  refine wm_aload_n C d_Ff_signs_0 rfl ?_
  refine gt_0_1 C k0 (ws_in iw_0) (ws_1 mw_0_189) d_Ff_signs_1 ?_
  refine wm_aload_n C d_Ff_signs_4 rfl ?_
  refine gt_0_0 C k0 (ws_in iw_0) (ws_1 mw_0_188) d_Ff_signs_5 ?_
  refine wk_bind h (fun v6 e6 h => wm_cVv (ci := 5) (q := (Rn_5, Tn_5, 4)) (na := 1) C (mc_So_find (sh_r a0 1) (sh_r a0 0) g v6 (kr_0_1 k0) (kr_0_0 k0) e6) (gc_So_find mw_1_18) (kd_lt (by rw [(kr_0_1 k0)]; decide)) rfl ⟨_, wm_S_5 (kr_0_1 k0) _⟩ rfl rfl (by decide +kernel) rfl (by decide) (by decide) d_Ff_signs_8 rfl (Nat.le_of_ble_eq_true rfl) (Nat.zero_le _) (Nat.zero_le _) (fun u6 q6 => ?_))
  subst u6
  refine wm_iload_n C d_Ff_signs_11 rfl ?_
  refine wk_bind h (fun v7 e7 h => wm_cSi (na := 1) C (mc_Ff_isVariable a2 v6 v7 e7) (gc_Ff_isVariable mw_1_130) rfl (by decide +kernel) rfl (by decide) (by decide) d_Ff_signs_12 rfl (Nat.le_of_ble_eq_true rfl) (Nat.zero_le _) (Nat.zero_le _) (fun r7 u7 q7 => ?_))
  obtain ⟨rfl, rfl⟩ := q7
  refine wk_if_eq (tgt := 46) C d_Ff_signs_15 rfl h (fun _ h => ?_) (fun _ h => ?_)
  · refine wk_cut (c_46 v7.2 h) ?_
    exact trivial
  · refine wm_aload_n C d_Ff_signs_18 rfl ?_
    refine wm_iload_n C d_Ff_signs_19 rfl ?_
    refine wk_bind h (fun v8 e8 h => wm_cVi (ci := 0) (q := (Rn_0, Tn_0, 4)) (na := 1) C (mc_Ff_comesTo a0 a1 v7.2 v8 k0 e8) (gc_Ff_comesTo mw_1_122) (kd_lt (by rw [k0]; decide)) rfl ⟨_, wm_S_0 k0 _⟩ rfl rfl (by decide +kernel) rfl (by decide) (by decide) d_Ff_signs_20 rfl (Nat.le_of_ble_eq_true rfl) (Nat.zero_le _) (Nat.zero_le _) (fun r8 u8 q8 => ?_))
    obtain ⟨rfl, rfl⟩ := q8
    refine wk_if_eq (tgt := 46) C d_Ff_signs_23 rfl h (fun _ h => ?_) (fun _ h => ?_)
    · refine wk_cut (c_46 v8.2 h) ?_
      exact trivial
    · refine wm_aload_n C d_Ff_signs_26 rfl ?_
      refine gt_0_1 C k0 (ws_in iw_0) (ws_1 mw_0_189) d_Ff_signs_27 ?_
      refine gt_5_0 C (kr_0_1 k0) (ws_in iw_5) (ws_1 mw_0_129) d_Ff_signs_30 ?_
      refine wm_iload_n C d_Ff_signs_33 rfl ?_
      refine wk_no h (fun w9 h => ?_)
      refine wk_aald_24 C (kr_5_0 (kr_0_1 k0)) w9 d_Ff_signs_34 ?_
      refine gt_4_0 C (kr_24 (kr_5_0 (kr_0_1 k0)) w9) (ws_in iw_4) (ws_1 mw_0_117) d_Ff_signs_35 ?_
      refine wm_iload_n C d_Ff_signs_38 rfl ?_
      refine wk_no h (fun w10 h => ?_)
      refine wk_aald_23 C (kr_4_0 (kr_24 (kr_5_0 (kr_0_1 k0)) w9)) w10 d_Ff_signs_39 ?_
      refine gt_3_2 C (kr_23 (kr_4_0 (kr_24 (kr_5_0 (kr_0_1 k0)) w9)) w10) (ws_in iw_3) (ws_1 mw_0_43) d_Ff_signs_40 ?_
      refine wm_goto (tgt := 47) C d_Ff_signs_43 rfl ?_
      refine wk_cut (c_47 (v8.2 (sh_r (sh_r (sh_r (sh_r (sh_r a0 1) 0) (a1).toNatClampNeg) 0) (a2).toNatClampNeg) 2) v8.2 h) ?_
      exact trivial
/-! FactFlow$Program.setInstead(LFactFlow$Instruction;LFactFlow$Fact;)Z -/
def mf_Pr_setInstead (a0 : Nat) (a1 : Nat) (g : wm_Sg) : Option (Int32 × wm_Sg) :=
  if (g a1 0) = (32 : Int32) then ((mf_In_become a0 (0 : Int32) (g a0 1) (0 : Int32) (g a1 1) g).bind fun v2 => some ((1 : Int32), v2)) else (some ((0 : Int32), g))
set_option maxHeartbeats 4000000 in
set_option maxRecDepth 100000 in
theorem mc_Pr_setInstead {l : Launch} {G : wm_G} (a0 : Nat) (a1 : Nat) (g : wm_Sg) (v : (Int32 × wm_Sg)) (k0 : kd a0 = 2) (k1 : kd a1 = 3) (h : mf_Pr_setInstead a0 a1 g = some v) : wm_Mi l G y_Pr_setInstead ws_Pr_setInstead 3 wm_n (wm_S G) [.ref (G.B + a0), .ref (G.B + a1)] g (fun r u => r = v.1 ∧ u = v.2) := by
  refine wm_in_z (cc := c_Pr_setInstead) (maxL := 2) (by decide) rfl (Nat.le_of_ble_eq_true rfl) (fun X C _ E => ?_)
  unfold mf_Pr_setInstead at h
  refine wm_aload_n C d_Pr_setInstead_0 rfl ?_
  refine gt_3_0 C k1 (ws_in iw_3) (ws_1 mw_0_35) d_Pr_setInstead_1 ?_
  refine wm_bipush (v := (32 : Int32)) C d_Pr_setInstead_4 (by decide) ?_
  refine wk_icmp_eq (tgt := 11) C d_Pr_setInstead_6 rfl h (fun _ h => ?_) (fun _ h => ?_)
  · refine wm_aload_n C d_Pr_setInstead_11 rfl ?_
    refine wm_iconst (v := (0 : Int32)) C d_Pr_setInstead_12 (by decide) ?_
    refine wm_aload_n C d_Pr_setInstead_13 rfl ?_
    refine gt_2_1 C k0 (ws_in iw_2) (ws_1 mw_0_62) d_Pr_setInstead_14 ?_
    refine wm_iconst (v := (0 : Int32)) C d_Pr_setInstead_17 (by decide) ?_
    refine wm_aload_n C d_Pr_setInstead_18 rfl ?_
    refine gt_3_1 C k1 (ws_in iw_3) (ws_1 mw_0_38) d_Pr_setInstead_19 ?_
    refine wk_bind h (fun v2 e2 h => wm_cVv (ci := 2) (q := (Rn_2, Tn_2, 4)) (na := 4) C (mc_In_become a0 (0 : Int32) (g a0 1) (0 : Int32) (g a1 1) g v2 k0 e2) (gc_In_become mw_1_150) (kd_lt (by rw [k0]; decide)) rfl ⟨_, wm_S_2 k0 _⟩ rfl rfl (by decide +kernel) rfl (by decide) (by decide) d_Pr_setInstead_22 rfl (Nat.le_of_ble_eq_true rfl) (Nat.zero_le _) (Nat.zero_le _) (fun u2 q2 => ?_))
    subst u2
    refine wm_iconst (v := (1 : Int32)) C d_Pr_setInstead_25 (by decide) ?_
    exact E _ _ _ _ d_Pr_setInstead_26 rfl (wk_ret h)
  · refine wm_iconst (v := (0 : Int32)) C d_Pr_setInstead_9 (by decide) ?_
    exact E _ _ _ _ d_Pr_setInstead_10 rfl (wk_ret h)
/-! FactFlow$Program.stopInstead(LFactFlow$Instruction;)Z -/
def mf_Pr_stopInstead (a0 : Nat) (g : wm_Sg) : Option (Int32 × wm_Sg) :=
  if (g a0 0) = (11 : Int32) then (some ((0 : Int32), g)) else ((mf_In_become a0 (11 : Int32) (0 : Int32) (0 : Int32) (0 : Int32) g).bind fun v2 => some ((1 : Int32), v2))
set_option maxHeartbeats 4000000 in
set_option maxRecDepth 100000 in
theorem mc_Pr_stopInstead {l : Launch} {G : wm_G} (a0 : Nat) (g : wm_Sg) (v : (Int32 × wm_Sg)) (k0 : kd a0 = 2) (h : mf_Pr_stopInstead a0 g = some v) : wm_Mi l G y_Pr_stopInstead ws_Pr_stopInstead 3 wm_n (wm_S G) [.ref (G.B + a0)] g (fun r u => r = v.1 ∧ u = v.2) := by
  refine wm_in_z (cc := c_Pr_stopInstead) (maxL := 1) (by decide) rfl (Nat.le_of_ble_eq_true rfl) (fun X C _ E => ?_)
  unfold mf_Pr_stopInstead at h
  refine wm_aload_n C d_Pr_stopInstead_0 rfl ?_
  refine gt_2_0 C k0 (ws_in iw_2) (ws_1 mw_0_58) d_Pr_stopInstead_1 ?_
  refine wm_bipush (v := (11 : Int32)) C d_Pr_stopInstead_4 (by decide) ?_
  refine wk_icmp_ne (tgt := 11) C d_Pr_stopInstead_6 rfl h (fun _ h => ?_) (fun _ h => ?_)
  · refine wm_iconst (v := (0 : Int32)) C d_Pr_stopInstead_9 (by decide) ?_
    exact E _ _ _ _ d_Pr_stopInstead_10 rfl (wk_ret h)
  · refine wm_aload_n C d_Pr_stopInstead_11 rfl ?_
    refine wm_bipush (v := (11 : Int32)) C d_Pr_stopInstead_12 (by decide) ?_
    refine wm_iconst (v := (0 : Int32)) C d_Pr_stopInstead_14 (by decide) ?_
    refine wm_iconst (v := (0 : Int32)) C d_Pr_stopInstead_15 (by decide) ?_
    refine wm_iconst (v := (0 : Int32)) C d_Pr_stopInstead_16 (by decide) ?_
    refine wk_bind h (fun v2 e2 h => wm_cVv (ci := 2) (q := (Rn_2, Tn_2, 4)) (na := 4) C (mc_In_become a0 (11 : Int32) (0 : Int32) (0 : Int32) (0 : Int32) g v2 k0 e2) (gc_In_become mw_1_150) (kd_lt (by rw [k0]; decide)) rfl ⟨_, wm_S_2 k0 _⟩ rfl rfl (by decide +kernel) rfl (by decide) (by decide) d_Pr_stopInstead_17 rfl (Nat.le_of_ble_eq_true rfl) (Nat.zero_le _) (Nat.zero_le _) (fun u2 q2 => ?_))
    subst u2
    refine wm_iconst (v := (1 : Int32)) C d_Pr_stopInstead_20 (by decide) ?_
    exact E _ _ _ _ d_Pr_stopInstead_21 rfl (wk_ret h)
/-! FactFlow$Program.goInstead(LFactFlow$Instruction;II)Z -/
def mf_Pr_goInstead_61 (s0 : Int32) (s1 : Int32) (s2 : Int32) (s3 : Int32) (s4 : Nat) (g : wm_Sg) : Option (Int32 × wm_Sg) :=
  (mf_In_become s4 s3 s2 s1 s0 g).bind fun v6 => some ((1 : Int32), v6)
def mf_Pr_goInstead_44 (b0 : Nat) (b2 : Int32) (b3 : Int32) (g : wm_Sg) : Option (Int32 × wm_Sg) :=
  if b3 = (0 : Int32) then (mf_Pr_goInstead_61 b2 (0 : Int32) (0 : Int32) (9 : Int32) b0 g) else (mf_Pr_goInstead_61 (g b0 3) (0 : Int32) (0 : Int32) (9 : Int32) b0 g)
def mf_Pr_goInstead_31 (b0 : Nat) (b2 : Int32) (b3 : Int32) (s0 : Int32) (g : wm_Sg) : Option (Int32 × wm_Sg) :=
  if b3 = (0 : Int32) then (mf_Pr_goInstead_44 b0 b2 b3 g) else (if s0 = (0 : Int32) then (mf_Pr_goInstead_44 b0 b2 b3 g) else (some ((0 : Int32), g)))
def mf_Pr_goInstead_14 (b0 : Nat) (b1 : Int32) (b2 : Int32) (s0 : Int32) (g : wm_Sg) : Option (Int32 × wm_Sg) :=
  (mf_In_jumpSigns b0 g).bind fun v7 => if (b1 &&& (v7.1 ^^^ (-1 : Int32))) = (0 : Int32) then (mf_Pr_goInstead_31 b0 b2 s0 (0 : Int32) v7.2) else (mf_Pr_goInstead_31 b0 b2 s0 (1 : Int32) v7.2)
def mf_Pr_goInstead (a0 : Nat) (a1 : Int32) (a2 : Int32) (g : wm_Sg) : Option (Int32 × wm_Sg) :=
  (mf_In_jumpSigns a0 g).bind fun v8 => if (a1 &&& v8.1) = (0 : Int32) then (mf_Pr_goInstead_14 a0 a1 a2 (0 : Int32) v8.2) else (mf_Pr_goInstead_14 a0 a1 a2 (1 : Int32) v8.2)
set_option maxHeartbeats 4000000 in
set_option maxRecDepth 100000 in
theorem mc_Pr_goInstead {l : Launch} {G : wm_G} (a0 : Nat) (a1 : Int32) (a2 : Int32) (g : wm_Sg) (v : (Int32 × wm_Sg)) (k0 : kd a0 = 2) (h : mf_Pr_goInstead a0 a1 a2 g = some v) : wm_Mi l G y_Pr_goInstead ws_Pr_goInstead 3 wm_n (wm_S G) [.ref (G.B + a0), .int a1, .int a2] g (fun r u => r = v.1 ∧ u = v.2) := by
  refine wm_in_z (cc := c_Pr_goInstead) (maxL := 5) (by decide) rfl (Nat.le_of_ble_eq_true rfl) (fun X C _ E => ?_)
  have c_61 : ∀ (s0 : Int32) (s1 : Int32) (s2 : Int32) (s3 : Int32) (s4 : Nat) (ks4 : kd s4 = 2) (g : wm_Sg), mf_Pr_goInstead_61  s0 s1 s2 s3 s4 g = some v → wm_W G X 5 0 0 wm_n (wm_S G) g 61 [] [.int s0, .int s1, .int s2, .int s3, .ref (G.B + s4)] := by
    intro s0 s1 s2 s3 s4 ks4 g h
    unfold mf_Pr_goInstead_61 at h
    refine wk_bind h (fun v6 e6 h => wm_cVv (ci := 2) (q := (Rn_2, Tn_2, 4)) (na := 4) C (mc_In_become s4 s3 s2 s1 s0 g v6 ks4 e6) (gc_In_become mw_1_150) (kd_lt (by rw [ks4]; decide)) rfl ⟨_, wm_S_2 ks4 _⟩ rfl rfl (by decide +kernel) rfl (by decide) (by decide) d_Pr_goInstead_61 rfl (Nat.le_of_ble_eq_true rfl) (Nat.zero_le _) (Nat.zero_le _) (fun u6 q6 => ?_))
    subst u6
    refine wm_iconst (v := (1 : Int32)) C d_Pr_goInstead_64 (by decide) ?_
    exact E _ _ _ _ d_Pr_goInstead_65 rfl (wk_ret h)
  have c_44 : ∀ (b0 : Nat) (b2 : Int32) (b3 : Int32) (k0 : kd b0 = 2) (g : wm_Sg), mf_Pr_goInstead_44 b0 b2 b3 g = some v → wm_W G X 5 0 0 wm_n (wm_S G) g 44 [(0, .ref (G.B + b0)), (2, .int b2), (3, .int b3)] [] := by
    intro b0 b2 b3 k0 g h
    unfold mf_Pr_goInstead_44 at h
    refine wm_aload_n C d_Pr_goInstead_44 rfl ?_
    refine wm_bipush (v := (9 : Int32)) C d_Pr_goInstead_45 (by decide) ?_
    refine wm_iconst (v := (0 : Int32)) C d_Pr_goInstead_47 (by decide) ?_
    refine wm_iconst (v := (0 : Int32)) C d_Pr_goInstead_48 (by decide) ?_
    refine wm_iload_n C d_Pr_goInstead_49 rfl ?_
    refine wk_if_eq (tgt := 60) C d_Pr_goInstead_50 rfl h (fun _ h => ?_) (fun _ h => ?_)
    · refine wm_iload_n C d_Pr_goInstead_60 rfl ?_
      refine wk_cut (c_61 b2 (0 : Int32) (0 : Int32) (9 : Int32) b0 k0 g h) ?_
      exact trivial
    · refine wm_aload_n C d_Pr_goInstead_53 rfl ?_
      refine gt_2_3 C k0 (ws_in iw_2) (ws_1 mw_0_72) d_Pr_goInstead_54 ?_
      refine wm_goto (tgt := 61) C d_Pr_goInstead_57 rfl ?_
      refine wk_cut (c_61 (g b0 3) (0 : Int32) (0 : Int32) (9 : Int32) b0 k0 g h) ?_
      exact trivial
  have c_31 : ∀ (b0 : Nat) (b2 : Int32) (b3 : Int32) (s0 : Int32) (k0 : kd b0 = 2) (g : wm_Sg), mf_Pr_goInstead_31 b0 b2 b3 s0 g = some v → wm_W G X 5 0 0 wm_n (wm_S G) g 31 [(0, .ref (G.B + b0)), (2, .int b2), (3, .int b3)] [.int s0] := by
    intro b0 b2 b3 s0 k0 g h
    unfold mf_Pr_goInstead_31 at h
    refine wm_istore C d_Pr_goInstead_31 (by decide) ?_
    refine wm_iload_n C d_Pr_goInstead_33 rfl ?_
    refine wk_if_eq (tgt := 44) C d_Pr_goInstead_34 rfl h (fun _ h => ?_) (fun _ h => ?_)
    · refine wk_cut (c_44 b0 b2 b3 k0 g h) ?_
      exact ⟨rfl, rfl, rfl, trivial⟩
    · refine wm_iload C d_Pr_goInstead_37 rfl ?_
      refine wk_if_eq (tgt := 44) C d_Pr_goInstead_39 rfl h (fun _ h => ?_) (fun _ h => ?_)
      · refine wk_cut (c_44 b0 b2 b3 k0 g h) ?_
        exact ⟨rfl, rfl, rfl, trivial⟩
      · refine wm_iconst (v := (0 : Int32)) C d_Pr_goInstead_42 (by decide) ?_
        exact E _ _ _ _ d_Pr_goInstead_43 rfl (wk_ret h)
  have c_14 : ∀ (b0 : Nat) (b1 : Int32) (b2 : Int32) (s0 : Int32) (k0 : kd b0 = 2) (g : wm_Sg), mf_Pr_goInstead_14 b0 b1 b2 s0 g = some v → wm_W G X 5 0 0 wm_n (wm_S G) g 14 [(0, .ref (G.B + b0)), (1, .int b1), (2, .int b2)] [.int s0] := by
    intro b0 b1 b2 s0 k0 g h
    unfold mf_Pr_goInstead_14 at h
    refine wm_istore_n C d_Pr_goInstead_14 (by decide) ?_
    refine wm_iload_n C d_Pr_goInstead_15 rfl ?_
    refine wm_aload_n C d_Pr_goInstead_16 rfl ?_
    refine wk_bind h (fun v7 e7 h => wm_cVi (ci := 2) (q := (Rn_2, Tn_2, 4)) (na := 0) C (mc_In_jumpSigns b0 g v7 k0 e7) (gc_In_jumpSigns mw_1_154) (kd_lt (by rw [k0]; decide)) rfl ⟨_, wm_S_2 k0 _⟩ rfl rfl (by decide +kernel) rfl (by decide) (by decide) d_Pr_goInstead_17 rfl (Nat.le_of_ble_eq_true rfl) (Nat.zero_le _) (Nat.zero_le _) (fun r7 u7 q7 => ?_))
    obtain ⟨rfl, rfl⟩ := q7
    refine wm_iconst (v := (-1 : Int32)) C d_Pr_goInstead_20 (by decide) ?_
    refine wm_ixor C d_Pr_goInstead_21 ?_
    refine wm_iand C d_Pr_goInstead_22 ?_
    refine wk_if_eq (tgt := 30) C d_Pr_goInstead_23 rfl h (fun _ h => ?_) (fun _ h => ?_)
    · refine wm_iconst (v := (0 : Int32)) C d_Pr_goInstead_30 (by decide) ?_
      refine wk_cut (c_31 b0 b2 s0 (0 : Int32) k0 v7.2 h) ?_
      exact ⟨rfl, rfl, rfl, trivial⟩
    · refine wm_iconst (v := (1 : Int32)) C d_Pr_goInstead_26 (by decide) ?_
      refine wm_goto (tgt := 31) C d_Pr_goInstead_27 rfl ?_
      refine wk_cut (c_31 b0 b2 s0 (1 : Int32) k0 v7.2 h) ?_
      exact ⟨rfl, rfl, rfl, trivial⟩
  unfold mf_Pr_goInstead at h
  refine wm_iload_n C d_Pr_goInstead_0 rfl ?_
  refine wm_aload_n C d_Pr_goInstead_1 rfl ?_
  refine wk_bind h (fun v8 e8 h => wm_cVi (ci := 2) (q := (Rn_2, Tn_2, 4)) (na := 0) C (mc_In_jumpSigns a0 g v8 k0 e8) (gc_In_jumpSigns mw_1_154) (kd_lt (by rw [k0]; decide)) rfl ⟨_, wm_S_2 k0 _⟩ rfl rfl (by decide +kernel) rfl (by decide) (by decide) d_Pr_goInstead_2 rfl (Nat.le_of_ble_eq_true rfl) (Nat.zero_le _) (Nat.zero_le _) (fun r8 u8 q8 => ?_))
  obtain ⟨rfl, rfl⟩ := q8
  refine wm_iand C d_Pr_goInstead_5 ?_
  refine wk_if_eq (tgt := 13) C d_Pr_goInstead_6 rfl h (fun _ h => ?_) (fun _ h => ?_)
  · refine wm_iconst (v := (0 : Int32)) C d_Pr_goInstead_13 (by decide) ?_
    refine wk_cut (c_14 a0 a1 a2 (0 : Int32) k0 v8.2 h) ?_
    exact ⟨rfl, rfl, rfl, trivial⟩
  · refine wm_iconst (v := (1 : Int32)) C d_Pr_goInstead_9 (by decide) ?_
    refine wm_goto (tgt := 14) C d_Pr_goInstead_10 rfl ?_
    refine wk_cut (c_14 a0 a1 a2 (1 : Int32) k0 v8.2 h) ?_
    exact ⟨rfl, rfl, rfl, trivial⟩
/-! FactFlow$Program.improve(ILFactFlow$State;)Z -/
def mf_Pr_improve_37 (b1 : Int32) (b2 : Nat) (b3 : Nat) (g : wm_Sg) : Option (Int32 × wm_Sg) :=
  if (g b3 1) < 0 ∨ sh_n (sh_r b2 0) ≤ ((g b3 1)).toNatClampNeg then none else (mf_Pr_goInstead b3 (g (sh_r (sh_r b2 0) ((g b3 1)).toNatClampNeg) 2) (b1 + (1 : Int32)) g).bind fun v20 => if v20.1 = 0 ∨ v20.1 = 1 then some (v20.1, v20.2) else none
def mf_Pr_improve_118 (b0 : Nat) (b2 : Nat) (b3 : Nat) (g : wm_Sg) : Option (Int32 × wm_Sg) :=
  if (g b3 2) < 0 ∨ sh_n (sh_r b2 0) ≤ ((g b3 2)).toNatClampNeg then none else if (g b3 3) < 0 ∨ sh_n (sh_r b2 0) ≤ ((g b3 3)).toNatClampNeg then none else (mf_Fa_becomeResult (sh_r b0 2) (g b3 0) (sh_r (sh_r b2 0) ((g b3 2)).toNatClampNeg) (sh_r (sh_r b2 0) ((g b3 3)).toNatClampNeg) g).bind fun v23 => (mf_Pr_setInstead b3 (sh_r b0 2) v23).bind fun v24 => if v24.1 = 0 ∨ v24.1 = 1 then some (v24.1, v24.2) else none
def mf_Pr_improve (a0 : Nat) (a1 : Int32) (a2 : Nat) (g : wm_Sg) : Option (Int32 × wm_Sg) :=
  if a1 < 0 ∨ sh_n (sh_r a0 0) ≤ (a1).toNatClampNeg then none else if (g a2 1) = (0 : Int32) then (if (g (sh_r (sh_r a0 0) (a1).toNatClampNeg) 0) = (7 : Int32) then (mf_Pr_improve_37 a1 a2 (sh_r (sh_r a0 0) (a1).toNatClampNeg) g) else (if (g (sh_r (sh_r a0 0) (a1).toNatClampNeg) 0) = (8 : Int32) then (mf_Pr_improve_37 a1 a2 (sh_r (sh_r a0 0) (a1).toNatClampNeg) g) else (if (g (sh_r (sh_r a0 0) (a1).toNatClampNeg) 0) = (1 : Int32) then (if (g (sh_r (sh_r a0 0) (a1).toNatClampNeg) 2) < 0 ∨ sh_n (sh_r a2 0) ≤ ((g (sh_r (sh_r a0 0) (a1).toNatClampNeg) 2)).toNatClampNeg then none else (mf_Pr_setInstead (sh_r (sh_r a0 0) (a1).toNatClampNeg) (sh_r (sh_r a2 0) ((g (sh_r (sh_r a0 0) (a1).toNatClampNeg) 2)).toNatClampNeg) g).bind fun v27 => if v27.1 = 0 ∨ v27.1 = 1 then some (v27.1, v27.2) else none) else ((mf_In_calculates (g (sh_r (sh_r a0 0) (a1).toNatClampNeg) 0) g).bind fun v28 => if v28.1 = (0 : Int32) then (some ((0 : Int32), v28.2)) else (if (v28.2 (sh_r (sh_r a0 0) (a1).toNatClampNeg) 0) = (5 : Int32) then (if (v28.2 (sh_r (sh_r a0 0) (a1).toNatClampNeg) 3) < 0 ∨ sh_n (sh_r a2 0) ≤ ((v28.2 (sh_r (sh_r a0 0) (a1).toNatClampNeg) 3)).toNatClampNeg then none else if ((v28.2 (sh_r (sh_r a2 0) ((v28.2 (sh_r (sh_r a0 0) (a1).toNatClampNeg) 3)).toNatClampNeg) 2) &&& (2 : Int32)) = (0 : Int32) then (mf_Pr_improve_118 a0 a2 (sh_r (sh_r a0 0) (a1).toNatClampNeg) v28.2) else (some ((0 : Int32), v28.2))) else (mf_Pr_improve_118 a0 a2 (sh_r (sh_r a0 0) (a1).toNatClampNeg) v28.2)))))) else ((mf_Pr_stopInstead (sh_r (sh_r a0 0) (a1).toNatClampNeg) g).bind fun v30 => if v30.1 = 0 ∨ v30.1 = 1 then some (v30.1, v30.2) else none)
set_option maxHeartbeats 4000000 in
set_option maxRecDepth 100000 in
theorem mc_Pr_improve {l : Launch} {G : wm_G} (a0 : Nat) (a1 : Int32) (a2 : Nat) (g : wm_Sg) (v : (Int32 × wm_Sg)) (k0 : kd a0 = 1) (k2 : kd a2 = 4) (h : mf_Pr_improve a0 a1 a2 g = some v) : wm_Mi l G y_Pr_improve ws_Pr_improve 4 wm_n (wm_S G) [.ref (G.B + a0), .int a1, .ref (G.B + a2)] g (fun r u => r = v.1 ∧ u = v.2) := by
  refine wm_in_z (cc := c_Pr_improve) (maxL := 4) (by decide) rfl (Nat.le_of_ble_eq_true rfl) (fun X C _ E => ?_)
  have c_37 : ∀ (b1 : Int32) (b2 : Nat) (b3 : Nat) (k2 : kd b2 = 4) (k3 : kd b3 = 2) (g : wm_Sg), mf_Pr_improve_37 b1 b2 b3 g = some v → wm_W G X 4 0 0 wm_n (wm_S G) g 37 [(1, .int b1), (2, .ref (G.B + b2)), (3, .ref (G.B + b3))] [] := by
    intro b1 b2 b3 k2 k3 g h
    unfold mf_Pr_improve_37 at h
    refine wm_aload_n C d_Pr_improve_37 rfl ?_
    refine wm_aload_n C d_Pr_improve_38 rfl ?_
    refine gt_4_0 C k2 (ws_in iw_4) (ws_1 mw_0_116) d_Pr_improve_39 ?_
    refine wm_aload_n C d_Pr_improve_42 rfl ?_
    refine gt_2_1 C k3 (ws_in iw_2) (ws_1 mw_0_62) d_Pr_improve_43 ?_
    refine wk_no h (fun w19 h => ?_)
    refine wk_aald_23 C (kr_4_0 k2) w19 d_Pr_improve_46 ?_
    refine gt_3_2 C (kr_23 (kr_4_0 k2) w19) (ws_in iw_3) (ws_1 mw_0_41) d_Pr_improve_47 ?_
    refine wm_iload_n C d_Pr_improve_50 rfl ?_
    refine wm_iconst (v := (1 : Int32)) C d_Pr_improve_51 (by decide) ?_
    refine wm_iadd C d_Pr_improve_52 ?_
    refine wk_bind h (fun v20 e20 h => wm_cSi (na := 3) C (mc_Pr_goInstead b3 (g (sh_r (sh_r b2 0) ((g b3 1)).toNatClampNeg) 2) (b1 + (1 : Int32)) g v20 k3 e20) (gc_Pr_goInstead mw_1_151) rfl (by decide +kernel) rfl (by decide) (by decide) d_Pr_improve_53 rfl (Nat.le_of_ble_eq_true rfl) (Nat.zero_le _) (Nat.zero_le _) (fun r20 u20 q20 => ?_))
    obtain ⟨rfl, rfl⟩ := q20
    exact wk_yes h (fun q h => E _ _ _ _ d_Pr_improve_56 (wk_nar q) (wk_ret h))
  have c_118 : ∀ (b0 : Nat) (b2 : Nat) (b3 : Nat) (k0 : kd b0 = 1) (k2 : kd b2 = 4) (k3 : kd b3 = 2) (g : wm_Sg), mf_Pr_improve_118 b0 b2 b3 g = some v → wm_W G X 4 0 0 wm_n (wm_S G) g 118 [(0, .ref (G.B + b0)), (2, .ref (G.B + b2)), (3, .ref (G.B + b3))] [] := by
    intro b0 b2 b3 k0 k2 k3 g h
    unfold mf_Pr_improve_118 at h
    refine wm_aload_n C d_Pr_improve_118 rfl ?_
    refine gt_1_2 C k0 (ws_in iw_1) (ws_1 mw_0_91) d_Pr_improve_119 ?_
    refine wm_aload_n C d_Pr_improve_122 rfl ?_
    refine gt_2_0 C k3 (ws_in iw_2) (ws_1 mw_0_58) d_Pr_improve_123 ?_
    refine wm_aload_n C d_Pr_improve_126 rfl ?_
    refine gt_4_0 C k2 (ws_in iw_4) (ws_1 mw_0_116) d_Pr_improve_127 ?_
    refine wm_aload_n C d_Pr_improve_130 rfl ?_
    refine gt_2_2 C k3 (ws_in iw_2) (ws_1 mw_0_67) d_Pr_improve_131 ?_
    refine wk_no h (fun w21 h => ?_)
    refine wk_aald_23 C (kr_4_0 k2) w21 d_Pr_improve_134 ?_
    refine wm_aload_n C d_Pr_improve_135 rfl ?_
    refine gt_4_0 C k2 (ws_in iw_4) (ws_1 mw_0_116) d_Pr_improve_136 ?_
    refine wm_aload_n C d_Pr_improve_139 rfl ?_
    refine gt_2_3 C k3 (ws_in iw_2) (ws_1 mw_0_72) d_Pr_improve_140 ?_
    refine wk_no h (fun w22 h => ?_)
    refine wk_aald_23 C (kr_4_0 k2) w22 d_Pr_improve_143 ?_
    refine wk_bind h (fun v23 e23 h => wm_cVv (ci := 3) (q := (Rn_3, Tn_3, 3)) (na := 3) C (mc_Fa_becomeResult (sh_r b0 2) (g b3 0) (sh_r (sh_r b2 0) ((g b3 2)).toNatClampNeg) (sh_r (sh_r b2 0) ((g b3 3)).toNatClampNeg) g v23 (kr_1_2 k0) (kr_23 (kr_4_0 k2) w21) (kr_23 (kr_4_0 k2) w22) e23) (gc_Fa_becomeResult mw_1_159) (kd_lt (by rw [(kr_1_2 k0)]; decide)) rfl ⟨_, wm_S_3 (kr_1_2 k0) _⟩ rfl rfl (by decide +kernel) rfl (by decide) (by decide) d_Pr_improve_144 rfl (Nat.le_of_ble_eq_true rfl) (Nat.zero_le _) (Nat.zero_le _) (fun u23 q23 => ?_))
    subst u23
    refine wm_aload_n C d_Pr_improve_147 rfl ?_
    refine wm_aload_n C d_Pr_improve_148 rfl ?_
    refine gt_1_2 C k0 (ws_in iw_1) (ws_1 mw_0_91) d_Pr_improve_149 ?_
    refine wk_bind h (fun v24 e24 h => wm_cSi (na := 2) C (mc_Pr_setInstead b3 (sh_r b0 2) v23 v24 k3 (kr_1_2 k0) e24) (gc_Pr_setInstead mw_1_155) rfl (by decide +kernel) rfl (by decide) (by decide) d_Pr_improve_152 rfl (Nat.le_of_ble_eq_true rfl) (Nat.zero_le _) (Nat.zero_le _) (fun r24 u24 q24 => ?_))
    obtain ⟨rfl, rfl⟩ := q24
    exact wk_yes h (fun q h => E _ _ _ _ d_Pr_improve_155 (wk_nar q) (wk_ret h))
  unfold mf_Pr_improve at h
  refine wm_aload_n C d_Pr_improve_0 rfl ?_
  refine gt_1_0 C k0 (ws_in iw_1) (ws_1 mw_0_84) d_Pr_improve_1 ?_
  refine wm_iload_n C d_Pr_improve_4 rfl ?_
  refine wk_no h (fun w25 h => ?_)
  refine wk_aald_22 C (kr_1_0 k0) w25 d_Pr_improve_5 ?_
  refine wm_astore_n C d_Pr_improve_6 (by decide) ?_
  refine wm_aload_n C d_Pr_improve_7 rfl ?_
  refine gt_4_1 C k2 (ws_in iw_4) (ws_1 mw_0_119) d_Pr_improve_8 ?_
  refine wk_if_eq (tgt := 19) C d_Pr_improve_11 rfl h (fun _ h => ?_) (fun _ h => ?_)
  · refine wm_aload_n C d_Pr_improve_19 rfl ?_
    refine gt_2_0 C (kr_22 (kr_1_0 k0) w25) (ws_in iw_2) (ws_1 mw_0_58) d_Pr_improve_20 ?_
    refine wm_bipush (v := (7 : Int32)) C d_Pr_improve_23 (by decide) ?_
    refine wk_icmp_eq (tgt := 37) C d_Pr_improve_25 rfl h (fun _ h => ?_) (fun _ h => ?_)
    · refine wk_cut (c_37 a1 a2 (sh_r (sh_r a0 0) (a1).toNatClampNeg) k2 (kr_22 (kr_1_0 k0) w25) g h) ?_
      exact ⟨rfl, rfl, rfl, trivial⟩
    · refine wm_aload_n C d_Pr_improve_28 rfl ?_
      refine gt_2_0 C (kr_22 (kr_1_0 k0) w25) (ws_in iw_2) (ws_1 mw_0_58) d_Pr_improve_29 ?_
      refine wm_bipush (v := (8 : Int32)) C d_Pr_improve_32 (by decide) ?_
      refine wk_icmp_ne (tgt := 57) C d_Pr_improve_34 rfl h (fun _ h => ?_) (fun _ h => ?_)
      · refine wk_cut (c_37 a1 a2 (sh_r (sh_r a0 0) (a1).toNatClampNeg) k2 (kr_22 (kr_1_0 k0) w25) g h) ?_
        exact ⟨rfl, rfl, rfl, trivial⟩
      · refine wm_aload_n C d_Pr_improve_57 rfl ?_
        refine gt_2_0 C (kr_22 (kr_1_0 k0) w25) (ws_in iw_2) (ws_1 mw_0_58) d_Pr_improve_58 ?_
        refine wm_iconst (v := (1 : Int32)) C d_Pr_improve_61 (by decide) ?_
        refine wk_icmp_ne (tgt := 79) C d_Pr_improve_62 rfl h (fun _ h => ?_) (fun _ h => ?_)
        · refine wm_aload_n C d_Pr_improve_65 rfl ?_
          refine wm_aload_n C d_Pr_improve_66 rfl ?_
          refine gt_4_0 C k2 (ws_in iw_4) (ws_1 mw_0_116) d_Pr_improve_67 ?_
          refine wm_aload_n C d_Pr_improve_70 rfl ?_
          refine gt_2_2 C (kr_22 (kr_1_0 k0) w25) (ws_in iw_2) (ws_1 mw_0_67) d_Pr_improve_71 ?_
          refine wk_no h (fun w26 h => ?_)
          refine wk_aald_23 C (kr_4_0 k2) w26 d_Pr_improve_74 ?_
          refine wk_bind h (fun v27 e27 h => wm_cSi (na := 2) C (mc_Pr_setInstead (sh_r (sh_r a0 0) (a1).toNatClampNeg) (sh_r (sh_r a2 0) ((g (sh_r (sh_r a0 0) (a1).toNatClampNeg) 2)).toNatClampNeg) g v27 (kr_22 (kr_1_0 k0) w25) (kr_23 (kr_4_0 k2) w26) e27) (gc_Pr_setInstead mw_1_155) rfl (by decide +kernel) rfl (by decide) (by decide) d_Pr_improve_75 rfl (Nat.le_of_ble_eq_true rfl) (Nat.zero_le _) (Nat.zero_le _) (fun r27 u27 q27 => ?_))
          obtain ⟨rfl, rfl⟩ := q27
          exact wk_yes h (fun q h => E _ _ _ _ d_Pr_improve_78 (wk_nar q) (wk_ret h))
        · refine wm_aload_n C d_Pr_improve_79 rfl ?_
          refine gt_2_0 C (kr_22 (kr_1_0 k0) w25) (ws_in iw_2) (ws_1 mw_0_58) d_Pr_improve_80 ?_
          refine wk_bind h (fun v28 e28 h => wm_cSi (na := 1) C (mc_In_calculates (g (sh_r (sh_r a0 0) (a1).toNatClampNeg) 0) g v28 e28) (gc_In_calculates mw_1_158) rfl (by decide +kernel) rfl (by decide) (by decide) d_Pr_improve_83 rfl (Nat.le_of_ble_eq_true rfl) (Nat.zero_le _) (Nat.zero_le _) (fun r28 u28 q28 => ?_))
          obtain ⟨rfl, rfl⟩ := q28
          refine wk_if_ne (tgt := 91) C d_Pr_improve_86 rfl h (fun _ h => ?_) (fun _ h => ?_)
          · refine wm_iconst (v := (0 : Int32)) C d_Pr_improve_89 (by decide) ?_
            exact E _ _ _ _ d_Pr_improve_90 rfl (wk_ret h)
          · refine wm_aload_n C d_Pr_improve_91 rfl ?_
            refine gt_2_0 C (kr_22 (kr_1_0 k0) w25) (ws_in iw_2) (ws_1 mw_0_58) d_Pr_improve_92 ?_
            refine wm_iconst (v := (5 : Int32)) C d_Pr_improve_95 (by decide) ?_
            refine wk_icmp_ne (tgt := 118) C d_Pr_improve_96 rfl h (fun _ h => ?_) (fun _ h => ?_)
            · refine wm_aload_n C d_Pr_improve_99 rfl ?_
              refine gt_4_0 C k2 (ws_in iw_4) (ws_1 mw_0_116) d_Pr_improve_100 ?_
              refine wm_aload_n C d_Pr_improve_103 rfl ?_
              refine gt_2_3 C (kr_22 (kr_1_0 k0) w25) (ws_in iw_2) (ws_1 mw_0_72) d_Pr_improve_104 ?_
              refine wk_no h (fun w29 h => ?_)
              refine wk_aald_23 C (kr_4_0 k2) w29 d_Pr_improve_107 ?_
              refine gt_3_2 C (kr_23 (kr_4_0 k2) w29) (ws_in iw_3) (ws_1 mw_0_41) d_Pr_improve_108 ?_
              refine wm_iconst (v := (2 : Int32)) C d_Pr_improve_111 (by decide) ?_
              refine wm_iand C d_Pr_improve_112 ?_
              refine wk_if_eq (tgt := 118) C d_Pr_improve_113 rfl h (fun _ h => ?_) (fun _ h => ?_)
              · refine wk_cut (c_118 a0 a2 (sh_r (sh_r a0 0) (a1).toNatClampNeg) k0 k2 (kr_22 (kr_1_0 k0) w25) v28.2 h) ?_
                exact ⟨rfl, rfl, rfl, trivial⟩
              · refine wm_iconst (v := (0 : Int32)) C d_Pr_improve_116 (by decide) ?_
                exact E _ _ _ _ d_Pr_improve_117 rfl (wk_ret h)
            · refine wk_cut (c_118 a0 a2 (sh_r (sh_r a0 0) (a1).toNatClampNeg) k0 k2 (kr_22 (kr_1_0 k0) w25) v28.2 h) ?_
              exact ⟨rfl, rfl, rfl, trivial⟩
  · refine wm_aload_n C d_Pr_improve_14 rfl ?_
    refine wk_bind h (fun v30 e30 h => wm_cSi (na := 1) C (mc_Pr_stopInstead (sh_r (sh_r a0 0) (a1).toNatClampNeg) g v30 (kr_22 (kr_1_0 k0) w25) e30) (gc_Pr_stopInstead mw_1_147) rfl (by decide +kernel) rfl (by decide) (by decide) d_Pr_improve_15 rfl (Nat.le_of_ble_eq_true rfl) (Nat.zero_le _) (Nat.zero_le _) (fun r30 u30 q30 => ?_))
    obtain ⟨rfl, rfl⟩ := q30
    exact wk_yes h (fun q h => E _ _ _ _ d_Pr_improve_18 (wk_nar q) (wk_ret h))
/-! FactFlow.rewrite()I -/
def mf_Ff_rewrite_49 (K15 : Int32 × Int32 × wm_Sg → Option (Int32 × wm_Sg)) (b0 : Nat) (b1 : Int32) (b2 : Int32) (g : wm_Sg) : Option (Int32 × wm_Sg) :=
  K15 (b1, (b2 + (1 : Int32)), g)
def mf_Ff_rewrite_68 (b1 : Int32) (s0 : Int32) (s1 : Nat) (g : wm_Sg) : Option (Int32 × wm_Sg) :=
  if s0 = 0 ∨ s0 = 1 then ( some (b1, wm_u g s1 1 s0)) else none
def mf_Ff_rewrite_15 (b0 : Nat) (K15 : Int32 × Int32 × wm_Sg → Option (Int32 × wm_Sg)) (a : Int32 × Int32 × wm_Sg) : Option (Int32 × wm_Sg) :=
  if (a.2.2 (sh_r b0 0) 1) ≤ a.2.1 then (if a.1 = (0 : Int32) then (mf_Ff_rewrite_68 a.1 (1 : Int32) (sh_r b0 1) a.2.2) else (mf_Ff_rewrite_68 a.1 (0 : Int32) (sh_r b0 1) a.2.2)) else (if a.2.1 < 0 ∨ sh_n (sh_r (sh_r b0 1) 0) ≤ (a.2.1).toNatClampNeg then none else (mf_Pr_improve (sh_r b0 0) a.2.1 (sh_r (sh_r (sh_r b0 1) 0) (a.2.1).toNatClampNeg) a.2.2).bind fun v10 => if v10.1 = (0 : Int32) then (mf_Ff_rewrite_49 K15 b0 a.1 a.2.1 v10.2) else (mf_Ff_rewrite_49 K15 b0 (a.1 + (1 : Int32)) a.2.1 v10.2))
def mf_Ff_rewrite (a0 : Nat) (g : wm_Sg) : Option (Int32 × wm_Sg) :=
  (mf_So_find (sh_r a0 1) (sh_r a0 0) g).bind fun v11 => lp_it (mf_Ff_rewrite_15 a0) 2100 ((0 : Int32), (0 : Int32), v11)
set_option maxHeartbeats 4000000 in
set_option maxRecDepth 100000 in
theorem mc_Ff_rewrite {l : Launch} {G : wm_G} (a0 : Nat) (g : wm_Sg) (v : (Int32 × wm_Sg)) (k0 : kd a0 = 0) (h : mf_Ff_rewrite a0 g = some v) : wm_Mi l G y_Ff_rewrite ws_Ff_rewrite 6 wm_n (wm_S G) [.ref (G.B + a0)] g (fun r u => r = v.1 ∧ u = v.2) := by
  refine wm_in_i (cc := c_Ff_rewrite) (maxL := 3) (by decide) rfl (Nat.le_of_ble_eq_true rfl) (fun X C _ E => ?_)
  have c_49 : ∀ (b0 : Nat) (b1 : Int32) (b2 : Int32) (k0 : kd b0 = 0) (K15 : Int32 × Int32 × wm_Sg → Option (Int32 × wm_Sg)) (hK15 : ∀ a : Int32 × Int32 × wm_Sg, K15 a = some v → wm_W G X 3 0 0 wm_n (wm_S G) a.2.2 15 [(0, .ref (G.B + b0)), (1, .int a.1), (2, .int a.2.1)] []) (g : wm_Sg), mf_Ff_rewrite_49 K15 b0 b1 b2 g = some v → wm_W G X 3 0 0 wm_n (wm_S G) g 49 [(0, .ref (G.B + b0)), (1, .int b1), (2, .int b2)] [] := by
    intro b0 b1 b2 k0 K15 hK15 g h
    unfold mf_Ff_rewrite_49 at h
    refine wk_iinc C (1 : Int32) d_Ff_rewrite_49 (by decide) rfl (by decide) ?_
    refine wm_goto (tgt := 15) C d_Ff_rewrite_52 rfl ?_
    refine wk_cut (hK15 (b1, (b2 + (1 : Int32)), g) h) ?_
    exact ⟨rfl, rfl, rfl, trivial⟩
  have c_68 : ∀ (b1 : Int32) (s0 : Int32) (s1 : Nat) (ks1 : kd s1 = 5) (g : wm_Sg), mf_Ff_rewrite_68 b1 s0 s1 g = some v → wm_W G X 3 0 0 wm_n (wm_S G) g 68 [(1, .int b1)] [.int s0, .ref (G.B + s1)] := by
    intro b1 s0 s1 ks1 g h
    unfold mf_Ff_rewrite_68 at h
    refine wk_yes h (fun w8 h => ?_)
    refine pt_5_1 C ks1 w8 (ws_in iw_5) (ws_1 mw_0_131) d_Ff_rewrite_68 ?_
    refine wm_iload_n C d_Ff_rewrite_71 rfl ?_
    exact E _ _ _ _ d_Ff_rewrite_72 (wk_ret h)
  have c_15 : ∀ (b0 : Nat) (k0 : kd b0 = 0) (f : Nat) (a : Int32 × Int32 × wm_Sg), lp_it (mf_Ff_rewrite_15 b0) f a = some v → wm_W G X 3 0 0 wm_n (wm_S G) a.2.2 15 [(0, .ref (G.B + b0)), (1, .int a.1), (2, .int a.2.1)] [] := by
    intro b0 k0 f
    induction f with
    | zero => intro a h; cases h
    | succ f hK15 =>
      intro a h
      have h : mf_Ff_rewrite_15 b0 (lp_it (mf_Ff_rewrite_15 b0) f) a = some v := h
      unfold mf_Ff_rewrite_15 at h
      refine wm_iload_n C d_Ff_rewrite_15 rfl ?_
      refine wm_aload_n C d_Ff_rewrite_16 rfl ?_
      refine gt_0_0 C k0 (ws_in iw_0) (ws_1 mw_0_188) d_Ff_rewrite_17 ?_
      refine gt_1_1 C (kr_0_0 k0) (ws_in iw_1) (ws_1 mw_0_89) d_Ff_rewrite_20 ?_
      refine wk_icmp_ge (tgt := 55) C d_Ff_rewrite_23 rfl h (fun _ h => ?_) (fun _ h => ?_)
      · refine wm_aload_n C d_Ff_rewrite_55 rfl ?_
        refine gt_0_1 C k0 (ws_in iw_0) (ws_1 mw_0_189) d_Ff_rewrite_56 ?_
        refine wm_iload_n C d_Ff_rewrite_59 rfl ?_
        refine wk_if_ne (tgt := 67) C d_Ff_rewrite_60 rfl h (fun _ h => ?_) (fun _ h => ?_)
        · refine wm_iconst (v := (1 : Int32)) C d_Ff_rewrite_63 (by decide) ?_
          refine wm_goto (tgt := 68) C d_Ff_rewrite_64 rfl ?_
          refine wk_cut (c_68 a.1 (1 : Int32) (sh_r b0 1) (kr_0_1 k0) a.2.2 h) ?_
          exact ⟨rfl, trivial⟩
        · refine wm_iconst (v := (0 : Int32)) C d_Ff_rewrite_67 (by decide) ?_
          refine wk_cut (c_68 a.1 (0 : Int32) (sh_r b0 1) (kr_0_1 k0) a.2.2 h) ?_
          exact ⟨rfl, trivial⟩
      · refine wm_aload_n C d_Ff_rewrite_26 rfl ?_
        refine gt_0_0 C k0 (ws_in iw_0) (ws_1 mw_0_188) d_Ff_rewrite_27 ?_
        refine wm_iload_n C d_Ff_rewrite_30 rfl ?_
        refine wm_aload_n C d_Ff_rewrite_31 rfl ?_
        refine gt_0_1 C k0 (ws_in iw_0) (ws_1 mw_0_189) d_Ff_rewrite_32 ?_
        refine gt_5_0 C (kr_0_1 k0) (ws_in iw_5) (ws_1 mw_0_129) d_Ff_rewrite_35 ?_
        refine wm_iload_n C d_Ff_rewrite_38 rfl ?_
        refine wk_no h (fun w9 h => ?_)
        refine wk_aald_24 C (kr_5_0 (kr_0_1 k0)) w9 d_Ff_rewrite_39 ?_
        refine wk_bind h (fun v10 e10 h => wm_cVi (ci := 1) (q := (Rn_1, Tn_1, 3)) (na := 2) C (mc_Pr_improve (sh_r b0 0) a.2.1 (sh_r (sh_r (sh_r b0 1) 0) (a.2.1).toNatClampNeg) a.2.2 v10 (kr_0_0 k0) (kr_24 (kr_5_0 (kr_0_1 k0)) w9) e10) (gc_Pr_improve mw_1_143) (kd_lt (by rw [(kr_0_0 k0)]; decide)) rfl ⟨_, wm_S_1 (kr_0_0 k0) _⟩ rfl rfl (by decide +kernel) rfl (by decide) (by decide) d_Ff_rewrite_40 rfl (Nat.le_of_ble_eq_true rfl) (Nat.zero_le _) (Nat.zero_le _) (fun r10 u10 q10 => ?_))
        obtain ⟨rfl, rfl⟩ := q10
        refine wk_if_eq (tgt := 49) C d_Ff_rewrite_43 rfl h (fun _ h => ?_) (fun _ h => ?_)
        · refine wk_cut (c_49 b0 a.1 a.2.1 k0 _ hK15 v10.2 h) ?_
          exact ⟨rfl, rfl, rfl, trivial⟩
        · refine wk_iinc C (1 : Int32) d_Ff_rewrite_46 (by decide) rfl (by decide) ?_
          refine wk_cut (c_49 b0 (a.1 + (1 : Int32)) a.2.1 k0 _ hK15 v10.2 h) ?_
          exact ⟨rfl, rfl, rfl, trivial⟩
  unfold mf_Ff_rewrite at h
  refine wm_aload_n C d_Ff_rewrite_0 rfl ?_
  refine gt_0_1 C k0 (ws_in iw_0) (ws_1 mw_0_189) d_Ff_rewrite_1 ?_
  refine wm_aload_n C d_Ff_rewrite_4 rfl ?_
  refine gt_0_0 C k0 (ws_in iw_0) (ws_1 mw_0_188) d_Ff_rewrite_5 ?_
  refine wk_bind h (fun v11 e11 h => wm_cVv (ci := 5) (q := (Rn_5, Tn_5, 4)) (na := 1) C (mc_So_find (sh_r a0 1) (sh_r a0 0) g v11 (kr_0_1 k0) (kr_0_0 k0) e11) (gc_So_find mw_1_18) (kd_lt (by rw [(kr_0_1 k0)]; decide)) rfl ⟨_, wm_S_5 (kr_0_1 k0) _⟩ rfl rfl (by decide +kernel) rfl (by decide) (by decide) d_Ff_rewrite_8 rfl (Nat.le_of_ble_eq_true rfl) (Nat.zero_le _) (Nat.zero_le _) (fun u11 q11 => ?_))
  subst u11
  refine wm_iconst (v := (0 : Int32)) C d_Ff_rewrite_11 (by decide) ?_
  refine wm_istore_n C d_Ff_rewrite_12 (by decide) ?_
  refine wm_iconst (v := (0 : Int32)) C d_Ff_rewrite_13 (by decide) ?_
  refine wm_istore_n C d_Ff_rewrite_14 (by decide) ?_
  refine wk_cut (c_15 a0 k0 2100 ((0 : Int32), (0 : Int32), v11) h) ?_
  exact ⟨rfl, rfl, rfl, trivial⟩
/-! FactFlow$Inputs.take(I)Z -/
def mf_Ip_take (a0 : Nat) (a1 : Int32) (g : wm_Sg) : Option (Int32 × wm_Sg) :=
  if (g a0 1) = (16 : Int32) then (some ((0 : Int32), g)) else (if (g a0 1) < 0 ∨ sh_n (sh_r a0 0) ≤ ((g a0 1)).toNatClampNeg then none else some ((1 : Int32), wm_u (wm_u g (sh_r a0 0) ((g a0 1)).toNatClampNeg a1) a0 1 (((wm_u g (sh_r a0 0) ((g a0 1)).toNatClampNeg a1) a0 1) + (1 : Int32))))
set_option maxHeartbeats 4000000 in
set_option maxRecDepth 100000 in
theorem mc_Ip_take {l : Launch} {G : wm_G} (a0 : Nat) (a1 : Int32) (g : wm_Sg) (v : (Int32 × wm_Sg)) (k0 : kd a0 = 6) (h : mf_Ip_take a0 a1 g = some v) : wm_Mi l G y_Ip_take ws_Ip_take 0 wm_n (wm_S G) [.ref (G.B + a0), .int a1] g (fun r u => r = v.1 ∧ u = v.2) := by
  refine wm_in_z (cc := c_Ip_take) (maxL := 2) (by decide) rfl (Nat.le_of_ble_eq_true rfl) (fun X C _ E => ?_)
  unfold mf_Ip_take at h
  refine wm_aload_n C d_Ip_take_0 rfl ?_
  refine gt_6_1 C k0 (ws_in iw_6) (ws_1 mw_0_150) d_Ip_take_1 ?_
  refine wm_bipush (v := (16 : Int32)) C d_Ip_take_4 (by decide) ?_
  refine wk_icmp_ne (tgt := 11) C d_Ip_take_6 rfl h (fun _ h => ?_) (fun _ h => ?_)
  · refine wm_iconst (v := (0 : Int32)) C d_Ip_take_9 (by decide) ?_
    exact E _ _ _ _ d_Ip_take_10 rfl (wk_ret h)
  · refine wm_aload_n C d_Ip_take_11 rfl ?_
    refine gt_6_0 C k0 (ws_in iw_6) (ws_1 mw_0_149) d_Ip_take_12 ?_
    refine wm_aload_n C d_Ip_take_15 rfl ?_
    refine gt_6_1 C k0 (ws_in iw_6) (ws_1 mw_0_150) d_Ip_take_16 ?_
    refine wm_iload_n C d_Ip_take_19 rfl ?_
    refine wk_iast C (kr_6_0 k0) d_Ip_take_20 h (fun h => ?_)
    refine wm_aload_n C d_Ip_take_21 rfl ?_
    refine wm_dup C d_Ip_take_22 rfl ?_
    refine gt_6_1 C k0 (ws_in iw_6) (ws_1 mw_0_150) d_Ip_take_23 ?_
    refine wm_iconst (v := (1 : Int32)) C d_Ip_take_26 (by decide) ?_
    refine wm_iadd C d_Ip_take_27 ?_
    refine pt_6_1 C k0 (ws_in iw_6) (ws_1 mw_0_150) d_Ip_take_28 ?_
    refine wm_iconst (v := (1 : Int32)) C d_Ip_take_31 (by decide) ?_
    exact E _ _ _ _ d_Ip_take_32 rfl (wk_ret h)
/-! FactFlow.input(I)Z -/
def mf_Ff_input (a0 : Nat) (a1 : Int32) (g : wm_Sg) : Option (Int32 × wm_Sg) :=
  (mf_Ip_take (sh_r a0 2) a1 g).bind fun v2 => if v2.1 = 0 ∨ v2.1 = 1 then some (v2.1, v2.2) else none
set_option maxHeartbeats 4000000 in
set_option maxRecDepth 100000 in
theorem mc_Ff_input {l : Launch} {G : wm_G} (a0 : Nat) (a1 : Int32) (g : wm_Sg) (v : (Int32 × wm_Sg)) (k0 : kd a0 = 0) (h : mf_Ff_input a0 a1 g = some v) : wm_Mi l G y_Ff_input ws_Ff_input 1 wm_n (wm_S G) [.ref (G.B + a0), .int a1] g (fun r u => r = v.1 ∧ u = v.2) := by
  refine wm_in_z (cc := c_Ff_input) (maxL := 2) (by decide) rfl (Nat.le_of_ble_eq_true rfl) (fun X C _ E => ?_)
  unfold mf_Ff_input at h
  refine wm_aload_n C d_Ff_input_0 rfl ?_
  refine gt_0_2 C k0 (ws_in iw_0) (ws_1 mw_0_190) d_Ff_input_1 ?_
  refine wm_iload_n C d_Ff_input_4 rfl ?_
  refine wk_bind h (fun v2 e2 h => wm_cVi (ci := 6) (q := (Rn_6, Tn_6, 2)) (na := 1) C (mc_Ip_take (sh_r a0 2) a1 g v2 (kr_0_2 k0) e2) (gc_Ip_take mw_1_164) (kd_lt (by rw [(kr_0_2 k0)]; decide)) rfl ⟨_, wm_S_6 (kr_0_2 k0) _⟩ rfl rfl (by decide +kernel) rfl (by decide) (by decide) d_Ff_input_5 rfl (Nat.le_of_ble_eq_true rfl) (Nat.zero_le _) (Nat.zero_le _) (fun r2 u2 q2 => ?_))
  obtain ⟨rfl, rfl⟩ := q2
  exact wk_yes h (fun q h => E _ _ _ _ d_Ff_input_8 (wk_nar q) (wk_ret h))
/-! FactFlow.dry()V -/
def mf_Ff_dry (a0 : Nat) (g : wm_Sg) : Option wm_Sg :=
  some (wm_u g (sh_r a0 2) 1 (0 : Int32))
set_option maxHeartbeats 4000000 in
set_option maxRecDepth 100000 in
theorem mc_Ff_dry {l : Launch} {G : wm_G} (a0 : Nat) (g : wm_Sg) (v : wm_Sg) (k0 : kd a0 = 0) (h : mf_Ff_dry a0 g = some v) : wm_Mv l G y_Ff_dry ws_Ff_dry 0 wm_n (wm_S G) [.ref (G.B + a0)] g (fun u => u = v) := by
  refine wm_in_v (cc := c_Ff_dry) (maxL := 1) (by decide) rfl (Nat.le_of_ble_eq_true rfl) (fun X C _ E => ?_)
  unfold mf_Ff_dry at h
  refine wm_aload_n C d_Ff_dry_0 rfl ?_
  refine gt_0_2 C k0 (ws_in iw_0) (ws_1 mw_0_190) d_Ff_dry_1 ?_
  refine wm_iconst (v := (0 : Int32)) C d_Ff_dry_4 (by decide) ?_
  refine pt_6_1 C (kr_0_2 k0) (ws_in iw_6) (ws_1 mw_0_151) d_Ff_dry_5 ?_
  exact E _ _ _ d_Ff_dry_8 (Option.some.inj h)
/-! FactFlow$Machine.begin()V -/
def mf_Ma_begin_2 (b0 : Nat) (K2 : Int32 × wm_Sg → Option wm_Sg) (a : Int32 × wm_Sg) : Option wm_Sg :=
  if (4 : Int32) ≤ a.1 then (some (wm_u (wm_u (wm_u a.2 b0 2 (0 : Int32)) b0 3 (0 : Int32)) b0 5 (0 : Int32))) else (if a.1 < 0 ∨ sh_n (sh_r b0 0) ≤ (a.1).toNatClampNeg then none else K2 ((a.1 + (1 : Int32)), wm_u a.2 (sh_r b0 0) (a.1).toNatClampNeg (0 : Int32)))
def mf_Ma_begin (a0 : Nat) (g : wm_Sg) : Option wm_Sg :=
  lp_it (mf_Ma_begin_2 a0) 2100 ((0 : Int32), g)
set_option maxHeartbeats 4000000 in
set_option maxRecDepth 100000 in
theorem mc_Ma_begin {l : Launch} {G : wm_G} (a0 : Nat) (g : wm_Sg) (v : wm_Sg) (k0 : kd a0 = 7) (h : mf_Ma_begin a0 g = some v) : wm_Mv l G y_Ma_begin ws_Ma_begin 0 wm_n (wm_S G) [.ref (G.B + a0)] g (fun u => u = v) := by
  refine wm_in_v (cc := c_Ma_begin) (maxL := 2) (by decide) rfl (Nat.le_of_ble_eq_true rfl) (fun X C _ E => ?_)
  have c_2 : ∀ (b0 : Nat) (k0 : kd b0 = 7) (f : Nat) (a : Int32 × wm_Sg), lp_it (mf_Ma_begin_2 b0) f a = some v → wm_W G X 2 0 0 wm_n (wm_S G) a.2 2 [(0, .ref (G.B + b0)), (1, .int a.1)] [] := by
    intro b0 k0 f
    induction f with
    | zero => intro a h; cases h
    | succ f hK2 =>
      intro a h
      have h : mf_Ma_begin_2 b0 (lp_it (mf_Ma_begin_2 b0) f) a = some v := h
      unfold mf_Ma_begin_2 at h
      refine wm_iload_n C d_Ma_begin_2 rfl ?_
      refine wm_iconst (v := (4 : Int32)) C d_Ma_begin_3 (by decide) ?_
      refine wk_icmp_ge (tgt := 20) C d_Ma_begin_4 rfl h (fun _ h => ?_) (fun _ h => ?_)
      · refine wm_aload_n C d_Ma_begin_20 rfl ?_
        refine wm_iconst (v := (0 : Int32)) C d_Ma_begin_21 (by decide) ?_
        refine pt_7_2 C k0 (ws_in iw_7) (ws_1 mw_0_168) d_Ma_begin_22 ?_
        refine wm_aload_n C d_Ma_begin_25 rfl ?_
        refine wm_iconst (v := (0 : Int32)) C d_Ma_begin_26 (by decide) ?_
        refine pt_7_3 C k0 (ws_in iw_7) (ws_1 mw_0_170) d_Ma_begin_27 ?_
        refine wm_aload_n C d_Ma_begin_30 rfl ?_
        refine wm_iconst (v := (0 : Int32)) C d_Ma_begin_31 (by decide) ?_
        refine pt_7_5 C k0 (ws_in iw_7) (ws_1 mw_0_174) d_Ma_begin_32 ?_
        exact E _ _ _ d_Ma_begin_35 (Option.some.inj h)
      · refine wm_aload_n C d_Ma_begin_7 rfl ?_
        refine gt_7_0 C k0 (ws_in iw_7) (ws_1 mw_0_164) d_Ma_begin_8 ?_
        refine wm_iload_n C d_Ma_begin_11 rfl ?_
        refine wm_iconst (v := (0 : Int32)) C d_Ma_begin_12 (by decide) ?_
        refine wk_iast C (kr_7_0 k0) d_Ma_begin_13 h (fun h => ?_)
        refine wk_iinc C (1 : Int32) d_Ma_begin_14 (by decide) rfl (by decide) ?_
        refine wm_goto (tgt := 2) C d_Ma_begin_17 rfl ?_
        refine wk_cut (hK2 ((a.1 + (1 : Int32)), wm_u a.2 (sh_r b0 0) (a.1).toNatClampNeg (0 : Int32)) h) ?_
        exact ⟨rfl, rfl, trivial⟩
  unfold mf_Ma_begin at h
  refine wm_iconst (v := (0 : Int32)) C d_Ma_begin_0 (by decide) ?_
  refine wm_istore_n C d_Ma_begin_1 (by decide) ?_
  refine wk_cut (c_2 a0 k0 2100 ((0 : Int32), g) h) ?_
  exact ⟨rfl, rfl, trivial⟩
/-! FactFlow$Inputs.numberOrZero(I)I -/
def mf_Ip_numberOrZero_18 (s0 : Int32) (g : wm_Sg) : Option (Int32 × wm_Sg) :=
  some (s0, g)
def mf_Ip_numberOrZero (a0 : Nat) (a1 : Int32) (g : wm_Sg) : Option (Int32 × wm_Sg) :=
  if (g a0 1) ≤ a1 then (mf_Ip_numberOrZero_18 (0 : Int32) g) else (if a1 < 0 ∨ sh_n (sh_r a0 0) ≤ (a1).toNatClampNeg then none else mf_Ip_numberOrZero_18 (g (sh_r a0 0) (a1).toNatClampNeg) g)
set_option maxHeartbeats 4000000 in
set_option maxRecDepth 100000 in
theorem mc_Ip_numberOrZero {l : Launch} {G : wm_G} (a0 : Nat) (a1 : Int32) (g : wm_Sg) (v : (Int32 × wm_Sg)) (k0 : kd a0 = 6) (h : mf_Ip_numberOrZero a0 a1 g = some v) : wm_Mi l G y_Ip_numberOrZero ws_Ip_numberOrZero 0 wm_n (wm_S G) [.ref (G.B + a0), .int a1] g (fun r u => r = v.1 ∧ u = v.2) := by
  refine wm_in_i (cc := c_Ip_numberOrZero) (maxL := 2) (by decide) rfl (Nat.le_of_ble_eq_true rfl) (fun X C _ E => ?_)
  have c_18 : ∀ (s0 : Int32) (g : wm_Sg), mf_Ip_numberOrZero_18  s0 g = some v → wm_W G X 2 0 0 wm_n (wm_S G) g 18 [] [.int s0] := by
    intro s0 g h
    unfold mf_Ip_numberOrZero_18 at h
    exact E _ _ _ _ d_Ip_numberOrZero_18 (wk_ret h)
  unfold mf_Ip_numberOrZero at h
  refine wm_iload_n C d_Ip_numberOrZero_0 rfl ?_
  refine wm_aload_n C d_Ip_numberOrZero_1 rfl ?_
  refine gt_6_1 C k0 (ws_in iw_6) (ws_1 mw_0_150) d_Ip_numberOrZero_2 ?_
  refine wk_icmp_ge (tgt := 17) C d_Ip_numberOrZero_5 rfl h (fun _ h => ?_) (fun _ h => ?_)
  · refine wm_iconst (v := (0 : Int32)) C d_Ip_numberOrZero_17 (by decide) ?_
    refine wk_cut (c_18 (0 : Int32) g h) ?_
    exact trivial
  · refine wm_aload_n C d_Ip_numberOrZero_8 rfl ?_
    refine gt_6_0 C k0 (ws_in iw_6) (ws_1 mw_0_149) d_Ip_numberOrZero_9 ?_
    refine wm_iload_n C d_Ip_numberOrZero_12 rfl ?_
    refine wk_iald C (kr_6_0 k0) d_Ip_numberOrZero_13 h (fun h => ?_)
    refine wm_goto (tgt := 18) C d_Ip_numberOrZero_14 rfl ?_
    refine wk_cut (c_18 (g (sh_r a0 0) (a1).toNatClampNeg) g h) ?_
    exact trivial
/-! FactFlow$Machine.print(I)V -/
def mf_Ma_print_19 (b0 : Nat) (g : wm_Sg) : Option wm_Sg :=
  some (wm_u g b0 2 ((g b0 2) + (1 : Int32)))
def mf_Ma_print (a0 : Nat) (a1 : Int32) (g : wm_Sg) : Option wm_Sg :=
  if (40 : Int32) ≤ (g a0 2) then (mf_Ma_print_19 a0 g) else (if (g a0 2) < 0 ∨ sh_n (sh_r a0 1) ≤ ((g a0 2)).toNatClampNeg then none else mf_Ma_print_19 a0 (wm_u g (sh_r a0 1) ((g a0 2)).toNatClampNeg a1))
set_option maxHeartbeats 4000000 in
set_option maxRecDepth 100000 in
theorem mc_Ma_print {l : Launch} {G : wm_G} (a0 : Nat) (a1 : Int32) (g : wm_Sg) (v : wm_Sg) (k0 : kd a0 = 7) (h : mf_Ma_print a0 a1 g = some v) : wm_Mv l G y_Ma_print ws_Ma_print 0 wm_n (wm_S G) [.ref (G.B + a0), .int a1] g (fun u => u = v) := by
  refine wm_in_v (cc := c_Ma_print) (maxL := 2) (by decide) rfl (Nat.le_of_ble_eq_true rfl) (fun X C _ E => ?_)
  have c_19 : ∀ (b0 : Nat) (k0 : kd b0 = 7) (g : wm_Sg), mf_Ma_print_19 b0 g = some v → wm_W G X 2 0 0 wm_n (wm_S G) g 19 [(0, .ref (G.B + b0))] [] := by
    intro b0 k0 g h
    unfold mf_Ma_print_19 at h
    refine wm_aload_n C d_Ma_print_19 rfl ?_
    refine wm_dup C d_Ma_print_20 rfl ?_
    refine gt_7_2 C k0 (ws_in iw_7) (ws_1 mw_0_168) d_Ma_print_21 ?_
    refine wm_iconst (v := (1 : Int32)) C d_Ma_print_24 (by decide) ?_
    refine wm_iadd C d_Ma_print_25 ?_
    refine pt_7_2 C k0 (ws_in iw_7) (ws_1 mw_0_168) d_Ma_print_26 ?_
    exact E _ _ _ d_Ma_print_29 (Option.some.inj h)
  unfold mf_Ma_print at h
  refine wm_aload_n C d_Ma_print_0 rfl ?_
  refine gt_7_2 C k0 (ws_in iw_7) (ws_1 mw_0_168) d_Ma_print_1 ?_
  refine wm_bipush (v := (40 : Int32)) C d_Ma_print_4 (by decide) ?_
  refine wk_icmp_ge (tgt := 19) C d_Ma_print_6 rfl h (fun _ h => ?_) (fun _ h => ?_)
  · refine wk_cut (c_19 a0 k0 g h) ?_
    exact ⟨rfl, trivial⟩
  · refine wm_aload_n C d_Ma_print_9 rfl ?_
    refine gt_7_1 C k0 (ws_in iw_7) (ws_1 mw_0_166) d_Ma_print_10 ?_
    refine wm_aload_n C d_Ma_print_13 rfl ?_
    refine gt_7_2 C k0 (ws_in iw_7) (ws_1 mw_0_168) d_Ma_print_14 ?_
    refine wm_iload_n C d_Ma_print_17 rfl ?_
    refine wk_iast C (kr_7_1 k0) d_Ma_print_18 h (fun h => ?_)
    refine wk_cut (c_19 a0 k0 (wm_u g (sh_r a0 1) ((g a0 2)).toNatClampNeg a1) h) ?_
    exact ⟨rfl, trivial⟩
/-! FactFlow$Machine.change(LFactFlow$Instruction;LFactFlow$Inputs;)V -/
def mf_Ma_change_184  (g : wm_Sg) : Option wm_Sg :=
  some (g)
def mf_Ma_change (a0 : Nat) (a1 : Nat) (a2 : Nat) (g : wm_Sg) : Option wm_Sg :=
  if (g a1 0) = (0 : Int32) then (if (g a1 1) < 0 ∨ sh_n (sh_r a0 0) ≤ ((g a1 1)).toNatClampNeg then none else mf_Ma_change_184 (wm_u g (sh_r a0 0) ((g a1 1)).toNatClampNeg (g a1 3))) else if (g a1 0) = (1 : Int32) then (if (g a1 2) < 0 ∨ sh_n (sh_r a0 0) ≤ ((g a1 2)).toNatClampNeg then none else if (g a1 1) < 0 ∨ sh_n (sh_r a0 0) ≤ ((g a1 1)).toNatClampNeg then none else mf_Ma_change_184 (wm_u g (sh_r a0 0) ((g a1 1)).toNatClampNeg (g (sh_r a0 0) ((g a1 2)).toNatClampNeg))) else if (g a1 0) = (2 : Int32) then (if (g a1 2) < 0 ∨ sh_n (sh_r a0 0) ≤ ((g a1 2)).toNatClampNeg then none else if (g a1 3) < 0 ∨ sh_n (sh_r a0 0) ≤ ((g a1 3)).toNatClampNeg then none else (mf_Ff_calculated (g a1 0) (g (sh_r a0 0) ((g a1 2)).toNatClampNeg) (g (sh_r a0 0) ((g a1 3)).toNatClampNeg) g).bind fun v20 => if (g a1 1) < 0 ∨ sh_n (sh_r a0 0) ≤ ((g a1 1)).toNatClampNeg then none else mf_Ma_change_184 (wm_u v20.2 (sh_r a0 0) ((g a1 1)).toNatClampNeg v20.1)) else if (g a1 0) = (3 : Int32) then (if (g a1 2) < 0 ∨ sh_n (sh_r a0 0) ≤ ((g a1 2)).toNatClampNeg then none else if (g a1 3) < 0 ∨ sh_n (sh_r a0 0) ≤ ((g a1 3)).toNatClampNeg then none else (mf_Ff_calculated (g a1 0) (g (sh_r a0 0) ((g a1 2)).toNatClampNeg) (g (sh_r a0 0) ((g a1 3)).toNatClampNeg) g).bind fun v22 => if (g a1 1) < 0 ∨ sh_n (sh_r a0 0) ≤ ((g a1 1)).toNatClampNeg then none else mf_Ma_change_184 (wm_u v22.2 (sh_r a0 0) ((g a1 1)).toNatClampNeg v22.1)) else if (g a1 0) = (4 : Int32) then (if (g a1 2) < 0 ∨ sh_n (sh_r a0 0) ≤ ((g a1 2)).toNatClampNeg then none else if (g a1 3) < 0 ∨ sh_n (sh_r a0 0) ≤ ((g a1 3)).toNatClampNeg then none else (mf_Ff_calculated (g a1 0) (g (sh_r a0 0) ((g a1 2)).toNatClampNeg) (g (sh_r a0 0) ((g a1 3)).toNatClampNeg) g).bind fun v24 => if (g a1 1) < 0 ∨ sh_n (sh_r a0 0) ≤ ((g a1 1)).toNatClampNeg then none else mf_Ma_change_184 (wm_u v24.2 (sh_r a0 0) ((g a1 1)).toNatClampNeg v24.1)) else if (g a1 0) = (5 : Int32) then (if (g a1 2) < 0 ∨ sh_n (sh_r a0 0) ≤ ((g a1 2)).toNatClampNeg then none else if (g a1 3) < 0 ∨ sh_n (sh_r a0 0) ≤ ((g a1 3)).toNatClampNeg then none else (mf_Ff_calculated (g a1 0) (g (sh_r a0 0) ((g a1 2)).toNatClampNeg) (g (sh_r a0 0) ((g a1 3)).toNatClampNeg) g).bind fun v26 => if (g a1 1) < 0 ∨ sh_n (sh_r a0 0) ≤ ((g a1 1)).toNatClampNeg then none else mf_Ma_change_184 (wm_u v26.2 (sh_r a0 0) ((g a1 1)).toNatClampNeg v26.1)) else if (g a1 0) = (6 : Int32) then ((mf_Ip_numberOrZero a2 (g a0 5) g).bind fun v28 => if (g a1 1) < 0 ∨ sh_n (sh_r a0 0) ≤ ((g a1 1)).toNatClampNeg then none else mf_Ma_change_184 (wm_u (wm_u v28.2 (sh_r a0 0) ((g a1 1)).toNatClampNeg v28.1) a0 5 (((wm_u v28.2 (sh_r a0 0) ((g a1 1)).toNatClampNeg v28.1) a0 5) + (1 : Int32)))) else if (g a1 0) = (7 : Int32) then (mf_Ma_change_184 g) else if (g a1 0) = (8 : Int32) then (mf_Ma_change_184 g) else if (g a1 0) = (9 : Int32) then (mf_Ma_change_184 g) else if (g a1 0) = (10 : Int32) then (if (g a1 1) < 0 ∨ sh_n (sh_r a0 0) ≤ ((g a1 1)).toNatClampNeg then none else (mf_Ma_print a0 (g (sh_r a0 0) ((g a1 1)).toNatClampNeg) g).bind fun v33 => mf_Ma_change_184 v33) else (mf_Ma_change_184 g)
set_option maxHeartbeats 4000000 in
set_option maxRecDepth 100000 in
theorem mc_Ma_change {l : Launch} {G : wm_G} (a0 : Nat) (a1 : Nat) (a2 : Nat) (g : wm_Sg) (v : wm_Sg) (k0 : kd a0 = 7) (k1 : kd a1 = 2) (k2 : kd a2 = 6) (h : mf_Ma_change a0 a1 a2 g = some v) : wm_Mv l G y_Ma_change ws_Ma_change 1 wm_n (wm_S G) [.ref (G.B + a0), .ref (G.B + a1), .ref (G.B + a2)] g (fun u => u = v) := by
  refine wm_in_v (cc := c_Ma_change) (maxL := 3) (by decide) rfl (Nat.le_of_ble_eq_true rfl) (fun X C _ E => ?_)
  have c_184 : ∀ (g : wm_Sg), mf_Ma_change_184  g = some v → wm_W G X 3 0 0 wm_n (wm_S G) g 184 [] [] := by
    intro g h
    unfold mf_Ma_change_184 at h
    exact E _ _ _ d_Ma_change_184 (Option.some.inj h)
  unfold mf_Ma_change at h
  refine wm_aload_n C d_Ma_change_0 rfl ?_
  refine gt_2_0 C k1 (ws_in iw_2) (ws_1 mw_0_57) d_Ma_change_1 ?_
  refine wk_ite h (fun w18 h => ?_) (fun w18 h => ?_)
  · refine wk_tableEq (tgt := 64) C d_Ma_change_4 w18 (by decide) (by decide) rfl rfl ?_
    refine wm_aload_n C d_Ma_change_64 rfl ?_
    refine gt_7_0 C k0 (ws_in iw_7) (ws_1 mw_0_164) d_Ma_change_65 ?_
    refine wm_aload_n C d_Ma_change_68 rfl ?_
    refine gt_2_1 C k1 (ws_in iw_2) (ws_1 mw_0_63) d_Ma_change_69 ?_
    refine wm_aload_n C d_Ma_change_72 rfl ?_
    refine gt_2_3 C k1 (ws_in iw_2) (ws_1 mw_0_71) d_Ma_change_73 ?_
    refine wk_iast C (kr_7_0 k0) d_Ma_change_76 h (fun h => ?_)
    refine wm_goto (tgt := 184) C d_Ma_change_77 rfl ?_
    refine wk_cut (c_184 (wm_u g (sh_r a0 0) ((g a1 1)).toNatClampNeg (g a1 3)) h) ?_
    exact trivial
  · refine wk_ite h (fun w19 h => ?_) (fun w19 h => ?_)
    · refine wk_tableEq (tgt := 80) C d_Ma_change_4 w19 (by decide) (by decide) rfl rfl ?_
      refine wm_aload_n C d_Ma_change_80 rfl ?_
      refine gt_7_0 C k0 (ws_in iw_7) (ws_1 mw_0_164) d_Ma_change_81 ?_
      refine wm_aload_n C d_Ma_change_84 rfl ?_
      refine gt_2_1 C k1 (ws_in iw_2) (ws_1 mw_0_63) d_Ma_change_85 ?_
      refine wm_aload_n C d_Ma_change_88 rfl ?_
      refine gt_7_0 C k0 (ws_in iw_7) (ws_1 mw_0_164) d_Ma_change_89 ?_
      refine wm_aload_n C d_Ma_change_92 rfl ?_
      refine gt_2_2 C k1 (ws_in iw_2) (ws_1 mw_0_68) d_Ma_change_93 ?_
      refine wk_iald C (kr_7_0 k0) d_Ma_change_96 h (fun h => ?_)
      refine wk_iast C (kr_7_0 k0) d_Ma_change_97 h (fun h => ?_)
      refine wm_goto (tgt := 184) C d_Ma_change_98 rfl ?_
      refine wk_cut (c_184 (wm_u g (sh_r a0 0) ((g a1 1)).toNatClampNeg (g (sh_r a0 0) ((g a1 2)).toNatClampNeg)) h) ?_
      exact trivial
    · refine wk_ite h (fun w21 h => ?_) (fun w21 h => ?_)
      · refine wk_tableEq (tgt := 101) C d_Ma_change_4 w21 (by decide) (by decide) rfl rfl ?_
        refine wm_aload_n C d_Ma_change_101 rfl ?_
        refine gt_7_0 C k0 (ws_in iw_7) (ws_1 mw_0_164) d_Ma_change_102 ?_
        refine wm_aload_n C d_Ma_change_105 rfl ?_
        refine gt_2_1 C k1 (ws_in iw_2) (ws_1 mw_0_63) d_Ma_change_106 ?_
        refine wm_aload_n C d_Ma_change_109 rfl ?_
        refine gt_2_0 C k1 (ws_in iw_2) (ws_1 mw_0_57) d_Ma_change_110 ?_
        refine wm_aload_n C d_Ma_change_113 rfl ?_
        refine gt_7_0 C k0 (ws_in iw_7) (ws_1 mw_0_164) d_Ma_change_114 ?_
        refine wm_aload_n C d_Ma_change_117 rfl ?_
        refine gt_2_2 C k1 (ws_in iw_2) (ws_1 mw_0_68) d_Ma_change_118 ?_
        refine wk_iald C (kr_7_0 k0) d_Ma_change_121 h (fun h => ?_)
        refine wm_aload_n C d_Ma_change_122 rfl ?_
        refine gt_7_0 C k0 (ws_in iw_7) (ws_1 mw_0_164) d_Ma_change_123 ?_
        refine wm_aload_n C d_Ma_change_126 rfl ?_
        refine gt_2_3 C k1 (ws_in iw_2) (ws_1 mw_0_71) d_Ma_change_127 ?_
        refine wk_iald C (kr_7_0 k0) d_Ma_change_130 h (fun h => ?_)
        refine wk_bind h (fun v20 e20 h => wm_cNi (na := 3) C (mc_Ff_calculated (g a1 0) (g (sh_r a0 0) ((g a1 2)).toNatClampNeg) (g (sh_r a0 0) ((g a1 3)).toNatClampNeg) g v20 e20) gn_Ff_calculated (List.mem_of_getElem? (i := 7) rfl) (ws_1 mw_1_101) (ws_1 mw_0_1) rfl (by decide +kernel) rfl (by decide) (by decide) d_Ma_change_131 rfl (Nat.le_of_ble_eq_true rfl) (Nat.zero_le _) (Nat.zero_le _) (fun r20 u20 q20 => ?_))
        obtain ⟨rfl, rfl⟩ := q20
        refine wk_iast C (kr_7_0 k0) d_Ma_change_134 h (fun h => ?_)
        refine wm_goto (tgt := 184) C d_Ma_change_135 rfl ?_
        refine wk_cut (c_184 (wm_u v20.2 (sh_r a0 0) ((g a1 1)).toNatClampNeg v20.1) h) ?_
        exact trivial
      · refine wk_ite h (fun w23 h => ?_) (fun w23 h => ?_)
        · refine wk_tableEq (tgt := 101) C d_Ma_change_4 w23 (by decide) (by decide) rfl rfl ?_
          refine wm_aload_n C d_Ma_change_101 rfl ?_
          refine gt_7_0 C k0 (ws_in iw_7) (ws_1 mw_0_164) d_Ma_change_102 ?_
          refine wm_aload_n C d_Ma_change_105 rfl ?_
          refine gt_2_1 C k1 (ws_in iw_2) (ws_1 mw_0_63) d_Ma_change_106 ?_
          refine wm_aload_n C d_Ma_change_109 rfl ?_
          refine gt_2_0 C k1 (ws_in iw_2) (ws_1 mw_0_57) d_Ma_change_110 ?_
          refine wm_aload_n C d_Ma_change_113 rfl ?_
          refine gt_7_0 C k0 (ws_in iw_7) (ws_1 mw_0_164) d_Ma_change_114 ?_
          refine wm_aload_n C d_Ma_change_117 rfl ?_
          refine gt_2_2 C k1 (ws_in iw_2) (ws_1 mw_0_68) d_Ma_change_118 ?_
          refine wk_iald C (kr_7_0 k0) d_Ma_change_121 h (fun h => ?_)
          refine wm_aload_n C d_Ma_change_122 rfl ?_
          refine gt_7_0 C k0 (ws_in iw_7) (ws_1 mw_0_164) d_Ma_change_123 ?_
          refine wm_aload_n C d_Ma_change_126 rfl ?_
          refine gt_2_3 C k1 (ws_in iw_2) (ws_1 mw_0_71) d_Ma_change_127 ?_
          refine wk_iald C (kr_7_0 k0) d_Ma_change_130 h (fun h => ?_)
          refine wk_bind h (fun v22 e22 h => wm_cNi (na := 3) C (mc_Ff_calculated (g a1 0) (g (sh_r a0 0) ((g a1 2)).toNatClampNeg) (g (sh_r a0 0) ((g a1 3)).toNatClampNeg) g v22 e22) gn_Ff_calculated (List.mem_of_getElem? (i := 7) rfl) (ws_1 mw_1_101) (ws_1 mw_0_1) rfl (by decide +kernel) rfl (by decide) (by decide) d_Ma_change_131 rfl (Nat.le_of_ble_eq_true rfl) (Nat.zero_le _) (Nat.zero_le _) (fun r22 u22 q22 => ?_))
          obtain ⟨rfl, rfl⟩ := q22
          refine wk_iast C (kr_7_0 k0) d_Ma_change_134 h (fun h => ?_)
          refine wm_goto (tgt := 184) C d_Ma_change_135 rfl ?_
          refine wk_cut (c_184 (wm_u v22.2 (sh_r a0 0) ((g a1 1)).toNatClampNeg v22.1) h) ?_
          exact trivial
        · refine wk_ite h (fun w25 h => ?_) (fun w25 h => ?_)
          · refine wk_tableEq (tgt := 101) C d_Ma_change_4 w25 (by decide) (by decide) rfl rfl ?_
            refine wm_aload_n C d_Ma_change_101 rfl ?_
            refine gt_7_0 C k0 (ws_in iw_7) (ws_1 mw_0_164) d_Ma_change_102 ?_
            refine wm_aload_n C d_Ma_change_105 rfl ?_
            refine gt_2_1 C k1 (ws_in iw_2) (ws_1 mw_0_63) d_Ma_change_106 ?_
            refine wm_aload_n C d_Ma_change_109 rfl ?_
            refine gt_2_0 C k1 (ws_in iw_2) (ws_1 mw_0_57) d_Ma_change_110 ?_
            refine wm_aload_n C d_Ma_change_113 rfl ?_
            refine gt_7_0 C k0 (ws_in iw_7) (ws_1 mw_0_164) d_Ma_change_114 ?_
            refine wm_aload_n C d_Ma_change_117 rfl ?_
            refine gt_2_2 C k1 (ws_in iw_2) (ws_1 mw_0_68) d_Ma_change_118 ?_
            refine wk_iald C (kr_7_0 k0) d_Ma_change_121 h (fun h => ?_)
            refine wm_aload_n C d_Ma_change_122 rfl ?_
            refine gt_7_0 C k0 (ws_in iw_7) (ws_1 mw_0_164) d_Ma_change_123 ?_
            refine wm_aload_n C d_Ma_change_126 rfl ?_
            refine gt_2_3 C k1 (ws_in iw_2) (ws_1 mw_0_71) d_Ma_change_127 ?_
            refine wk_iald C (kr_7_0 k0) d_Ma_change_130 h (fun h => ?_)
            refine wk_bind h (fun v24 e24 h => wm_cNi (na := 3) C (mc_Ff_calculated (g a1 0) (g (sh_r a0 0) ((g a1 2)).toNatClampNeg) (g (sh_r a0 0) ((g a1 3)).toNatClampNeg) g v24 e24) gn_Ff_calculated (List.mem_of_getElem? (i := 7) rfl) (ws_1 mw_1_101) (ws_1 mw_0_1) rfl (by decide +kernel) rfl (by decide) (by decide) d_Ma_change_131 rfl (Nat.le_of_ble_eq_true rfl) (Nat.zero_le _) (Nat.zero_le _) (fun r24 u24 q24 => ?_))
            obtain ⟨rfl, rfl⟩ := q24
            refine wk_iast C (kr_7_0 k0) d_Ma_change_134 h (fun h => ?_)
            refine wm_goto (tgt := 184) C d_Ma_change_135 rfl ?_
            refine wk_cut (c_184 (wm_u v24.2 (sh_r a0 0) ((g a1 1)).toNatClampNeg v24.1) h) ?_
            exact trivial
          · refine wk_ite h (fun w27 h => ?_) (fun w27 h => ?_)
            · refine wk_tableEq (tgt := 101) C d_Ma_change_4 w27 (by decide) (by decide) rfl rfl ?_
              refine wm_aload_n C d_Ma_change_101 rfl ?_
              refine gt_7_0 C k0 (ws_in iw_7) (ws_1 mw_0_164) d_Ma_change_102 ?_
              refine wm_aload_n C d_Ma_change_105 rfl ?_
              refine gt_2_1 C k1 (ws_in iw_2) (ws_1 mw_0_63) d_Ma_change_106 ?_
              refine wm_aload_n C d_Ma_change_109 rfl ?_
              refine gt_2_0 C k1 (ws_in iw_2) (ws_1 mw_0_57) d_Ma_change_110 ?_
              refine wm_aload_n C d_Ma_change_113 rfl ?_
              refine gt_7_0 C k0 (ws_in iw_7) (ws_1 mw_0_164) d_Ma_change_114 ?_
              refine wm_aload_n C d_Ma_change_117 rfl ?_
              refine gt_2_2 C k1 (ws_in iw_2) (ws_1 mw_0_68) d_Ma_change_118 ?_
              refine wk_iald C (kr_7_0 k0) d_Ma_change_121 h (fun h => ?_)
              refine wm_aload_n C d_Ma_change_122 rfl ?_
              refine gt_7_0 C k0 (ws_in iw_7) (ws_1 mw_0_164) d_Ma_change_123 ?_
              refine wm_aload_n C d_Ma_change_126 rfl ?_
              refine gt_2_3 C k1 (ws_in iw_2) (ws_1 mw_0_71) d_Ma_change_127 ?_
              refine wk_iald C (kr_7_0 k0) d_Ma_change_130 h (fun h => ?_)
              refine wk_bind h (fun v26 e26 h => wm_cNi (na := 3) C (mc_Ff_calculated (g a1 0) (g (sh_r a0 0) ((g a1 2)).toNatClampNeg) (g (sh_r a0 0) ((g a1 3)).toNatClampNeg) g v26 e26) gn_Ff_calculated (List.mem_of_getElem? (i := 7) rfl) (ws_1 mw_1_101) (ws_1 mw_0_1) rfl (by decide +kernel) rfl (by decide) (by decide) d_Ma_change_131 rfl (Nat.le_of_ble_eq_true rfl) (Nat.zero_le _) (Nat.zero_le _) (fun r26 u26 q26 => ?_))
              obtain ⟨rfl, rfl⟩ := q26
              refine wk_iast C (kr_7_0 k0) d_Ma_change_134 h (fun h => ?_)
              refine wm_goto (tgt := 184) C d_Ma_change_135 rfl ?_
              refine wk_cut (c_184 (wm_u v26.2 (sh_r a0 0) ((g a1 1)).toNatClampNeg v26.1) h) ?_
              exact trivial
            · refine wk_ite h (fun w29 h => ?_) (fun w29 h => ?_)
              · refine wk_tableEq (tgt := 138) C d_Ma_change_4 w29 (by decide) (by decide) rfl rfl ?_
                refine wm_aload_n C d_Ma_change_138 rfl ?_
                refine gt_7_0 C k0 (ws_in iw_7) (ws_1 mw_0_164) d_Ma_change_139 ?_
                refine wm_aload_n C d_Ma_change_142 rfl ?_
                refine gt_2_1 C k1 (ws_in iw_2) (ws_1 mw_0_63) d_Ma_change_143 ?_
                refine wm_aload_n C d_Ma_change_146 rfl ?_
                refine wm_aload_n C d_Ma_change_147 rfl ?_
                refine gt_7_5 C k0 (ws_in iw_7) (ws_1 mw_0_174) d_Ma_change_148 ?_
                refine wk_bind h (fun v28 e28 h => wm_cVi (ci := 6) (q := (Rn_6, Tn_6, 2)) (na := 1) C (mc_Ip_numberOrZero a2 (g a0 5) g v28 k2 e28) (gc_Ip_numberOrZero mw_1_190) (kd_lt (by rw [k2]; decide)) rfl ⟨_, wm_S_6 k2 _⟩ rfl rfl (by decide +kernel) rfl (by decide) (by decide) d_Ma_change_151 rfl (Nat.le_of_ble_eq_true rfl) (Nat.zero_le _) (Nat.zero_le _) (fun r28 u28 q28 => ?_))
                obtain ⟨rfl, rfl⟩ := q28
                refine wk_iast C (kr_7_0 k0) d_Ma_change_154 h (fun h => ?_)
                refine wm_aload_n C d_Ma_change_155 rfl ?_
                refine wm_dup C d_Ma_change_156 rfl ?_
                refine gt_7_5 C k0 (ws_in iw_7) (ws_1 mw_0_174) d_Ma_change_157 ?_
                refine wm_iconst (v := (1 : Int32)) C d_Ma_change_160 (by decide) ?_
                refine wm_iadd C d_Ma_change_161 ?_
                refine pt_7_5 C k0 (ws_in iw_7) (ws_1 mw_0_174) d_Ma_change_162 ?_
                refine wm_goto (tgt := 184) C d_Ma_change_165 rfl ?_
                refine wk_cut (c_184 (wm_u (wm_u v28.2 (sh_r a0 0) ((g a1 1)).toNatClampNeg v28.1) a0 5 (((wm_u v28.2 (sh_r a0 0) ((g a1 1)).toNatClampNeg v28.1) a0 5) + (1 : Int32))) h) ?_
                exact trivial
              · refine wk_ite h (fun w30 h => ?_) (fun w30 h => ?_)
                · refine wk_tableEq (tgt := 184) C d_Ma_change_4 w30 (by decide) (by decide) rfl rfl ?_
                  refine wk_cut (c_184 g h) ?_
                  exact trivial
                · refine wk_ite h (fun w31 h => ?_) (fun w31 h => ?_)
                  · refine wk_tableEq (tgt := 184) C d_Ma_change_4 w31 (by decide) (by decide) rfl rfl ?_
                    refine wk_cut (c_184 g h) ?_
                    exact trivial
                  · refine wk_ite h (fun w32 h => ?_) (fun w32 h => ?_)
                    · refine wk_tableEq (tgt := 184) C d_Ma_change_4 w32 (by decide) (by decide) rfl rfl ?_
                      refine wk_cut (c_184 g h) ?_
                      exact trivial
                    · refine wk_ite h (fun w34 h => ?_) (fun w34 h => ?_)
                      · refine wk_tableEq (tgt := 168) C d_Ma_change_4 w34 (by decide) (by decide) rfl rfl ?_
                        refine wm_aload_n C d_Ma_change_168 rfl ?_
                        refine wm_aload_n C d_Ma_change_169 rfl ?_
                        refine gt_7_0 C k0 (ws_in iw_7) (ws_1 mw_0_164) d_Ma_change_170 ?_
                        refine wm_aload_n C d_Ma_change_173 rfl ?_
                        refine gt_2_1 C k1 (ws_in iw_2) (ws_1 mw_0_63) d_Ma_change_174 ?_
                        refine wk_iald C (kr_7_0 k0) d_Ma_change_177 h (fun h => ?_)
                        refine wk_bind h (fun v33 e33 h => wm_cVv (ci := 7) (q := (Rn_7, Tn_7, 6)) (na := 1) C (mc_Ma_print a0 (g (sh_r a0 0) ((g a1 1)).toNatClampNeg) g v33 k0 e33) (gc_Ma_print mw_1_194) (kd_lt (by rw [k0]; decide)) rfl ⟨_, wm_S_7 k0 _⟩ rfl rfl (by decide +kernel) rfl (by decide) (by decide) d_Ma_change_178 rfl (Nat.le_of_ble_eq_true rfl) (Nat.zero_le _) (Nat.zero_le _) (fun u33 q33 => ?_))
                        subst u33
                        refine wm_goto (tgt := 184) C d_Ma_change_181 rfl ?_
                        refine wk_cut (c_184 v33 h) ?_
                        exact trivial
                      · have w18 := wk_nt (z := 0) w18 (by decide)
                        have w19 := wk_nt (z := 1) w19 (by decide)
                        have w21 := wk_nt (z := 2) w21 (by decide)
                        have w23 := wk_nt (z := 3) w23 (by decide)
                        have w25 := wk_nt (z := 4) w25 (by decide)
                        have w27 := wk_nt (z := 5) w27 (by decide)
                        have w29 := wk_nt (z := 6) w29 (by decide)
                        have w30 := wk_nt (z := 7) w30 (by decide)
                        have w31 := wk_nt (z := 8) w31 (by decide)
                        have w32 := wk_nt (z := 9) w32 (by decide)
                        have w34 := wk_nt (z := 10) w34 (by decide)
                        refine wm_tableOut (tgt := 184) C d_Ma_change_4 (by omega) rfl ?_
                        refine wk_cut (c_184 g h) ?_
                        exact trivial
