/-! FactFlow$Fact.becomeSame(LFactFlow$Fact;)V -/
def mf_Fa_becomeSame (a0 : Nat) (a1 : Nat) (g : wm_Sg) : Option wm_Sg :=
  some (wm_u (wm_u (wm_u g a0 0 (g a1 0)) a0 1 ((wm_u g a0 0 (g a1 0)) a1 1)) a0 2 ((wm_u (wm_u g a0 0 (g a1 0)) a0 1 ((wm_u g a0 0 (g a1 0)) a1 1)) a1 2))
set_option maxHeartbeats 4000000 in
set_option maxRecDepth 100000 in
theorem mc_Fa_becomeSame {l : Launch} {G : wm_G} (a0 : Nat) (a1 : Nat) (g : wm_Sg) (v : wm_Sg) (k0 : kd a0 = 3) (k1 : kd a1 = 3) (h : mf_Fa_becomeSame a0 a1 g = some v) : wm_Mv l G y_Fa_becomeSame ws_Fa_becomeSame 0 wm_n (wm_S G) [.ref (G.B + a0), .ref (G.B + a1)] g (fun u => u = v) := by
  refine wm_in_v (cc := c_Fa_becomeSame) (maxL := 2) (by decide) rfl (Nat.le_of_ble_eq_true rfl) (fun X C _ E => ?_)
  unfold mf_Fa_becomeSame at h
  refine wm_aload_n C d_Fa_becomeSame_0 rfl ?_
  refine wm_aload_n C d_Fa_becomeSame_1 rfl ?_
  refine gt_3_0 C k1 (ws_in iw_3) (ws_1 mw_0_34) d_Fa_becomeSame_2 ?_
  refine pt_3_0 C k0 (ws_in iw_3) (ws_1 mw_0_34) d_Fa_becomeSame_5 ?_
  refine wm_aload_n C d_Fa_becomeSame_8 rfl ?_
  refine wm_aload_n C d_Fa_becomeSame_9 rfl ?_
  refine gt_3_1 C k1 (ws_in iw_3) (ws_1 mw_0_37) d_Fa_becomeSame_10 ?_
  refine pt_3_1 C k0 (ws_in iw_3) (ws_1 mw_0_37) d_Fa_becomeSame_13 ?_
  refine wm_aload_n C d_Fa_becomeSame_16 rfl ?_
  refine wm_aload_n C d_Fa_becomeSame_17 rfl ?_
  refine gt_3_2 C k1 (ws_in iw_3) (ws_1 mw_0_40) d_Fa_becomeSame_18 ?_
  refine pt_3_2 C k0 (ws_in iw_3) (ws_1 mw_0_40) d_Fa_becomeSame_21 ?_
  exact E _ _ _ d_Fa_becomeSame_24 (Option.some.inj h)
/-! FactFlow$State.becomeSame(LFactFlow$State;)V -/
def mf_St_becomeSame_10 (b0 : Nat) (b1 : Nat) (K10 : Int32 × wm_Sg → Option wm_Sg) (a : Int32 × wm_Sg) : Option wm_Sg :=
  if (4 : Int32) ≤ a.1 then (some (a.2)) else (if a.1 < 0 ∨ sh_n (sh_r b0 0) ≤ (a.1).toNatClampNeg then none else if a.1 < 0 ∨ sh_n (sh_r b1 0) ≤ (a.1).toNatClampNeg then none else (mf_Fa_becomeSame (sh_r (sh_r b0 0) (a.1).toNatClampNeg) (sh_r (sh_r b1 0) (a.1).toNatClampNeg) a.2).bind fun v10 => K10 ((a.1 + (1 : Int32)), v10))
def mf_St_becomeSame (a0 : Nat) (a1 : Nat) (g : wm_Sg) : Option wm_Sg :=
  if (g a1 1) = 0 ∨ (g a1 1) = 1 then ( lp_it (mf_St_becomeSame_10 a0 a1) 2100 ((0 : Int32), wm_u g a0 1 (g a1 1))) else none
set_option maxHeartbeats 4000000 in
set_option maxRecDepth 100000 in
theorem mc_St_becomeSame {l : Launch} {G : wm_G} (a0 : Nat) (a1 : Nat) (g : wm_Sg) (v : wm_Sg) (k0 : kd a0 = 4) (k1 : kd a1 = 4) (h : mf_St_becomeSame a0 a1 g = some v) : wm_Mv l G y_St_becomeSame ws_St_becomeSame 1 wm_n (wm_S G) [.ref (G.B + a0), .ref (G.B + a1)] g (fun u => u = v) := by
  refine wm_in_v (cc := c_St_becomeSame) (maxL := 3) (by decide) rfl (Nat.le_of_ble_eq_true rfl) (fun X C _ E => ?_)
  have c_10 : ∀ (b0 : Nat) (b1 : Nat) (k0 : kd b0 = 4) (k1 : kd b1 = 4) (f : Nat) (a : Int32 × wm_Sg), lp_it (mf_St_becomeSame_10 b0 b1) f a = some v → wm_W G X 3 0 0 wm_n (wm_S G) a.2 10 [(0, .ref (G.B + b0)), (1, .ref (G.B + b1)), (2, .int a.1)] [] := by
    intro b0 b1 k0 k1 f
    induction f with
    | zero => intro a h; cases h
    | succ f hK10 =>
      intro a h
      have h : mf_St_becomeSame_10 b0 b1 (lp_it (mf_St_becomeSame_10 b0 b1) f) a = some v := h
      unfold mf_St_becomeSame_10 at h
      refine wm_iload_n C d_St_becomeSame_10 rfl ?_
      refine wm_iconst (v := (4 : Int32)) C d_St_becomeSame_11 (by decide) ?_
      refine wk_icmp_ge (tgt := 36) C d_St_becomeSame_12 rfl h (fun _ h => ?_) (fun _ h => ?_)
      · exact E _ _ _ d_St_becomeSame_36 (Option.some.inj h)
      · refine wm_aload_n C d_St_becomeSame_15 rfl ?_
        refine gt_4_0 C k0 (ws_in iw_4) (ws_1 mw_0_115) d_St_becomeSame_16 ?_
        refine wm_iload_n C d_St_becomeSame_19 rfl ?_
        refine wk_no h (fun w8 h => ?_)
        refine wk_aald_23 C (kr_4_0 k0) w8 d_St_becomeSame_20 ?_
        refine wm_aload_n C d_St_becomeSame_21 rfl ?_
        refine gt_4_0 C k1 (ws_in iw_4) (ws_1 mw_0_115) d_St_becomeSame_22 ?_
        refine wm_iload_n C d_St_becomeSame_25 rfl ?_
        refine wk_no h (fun w9 h => ?_)
        refine wk_aald_23 C (kr_4_0 k1) w9 d_St_becomeSame_26 ?_
        refine wk_bind h (fun v10 e10 h => wm_cVv (ci := 3) (q := (Rn_3, Tn_3, 3)) (na := 1) C (mc_Fa_becomeSame (sh_r (sh_r b0 0) (a.1).toNatClampNeg) (sh_r (sh_r b1 0) (a.1).toNatClampNeg) a.2 v10 (kr_23 (kr_4_0 k0) w8) (kr_23 (kr_4_0 k1) w9) e10) (gc_Fa_becomeSame mw_1_46) (kd_lt (by rw [(kr_23 (kr_4_0 k0) w8)]; decide)) rfl ⟨_, wm_S_3 (kr_23 (kr_4_0 k0) w8) _⟩ rfl rfl (by decide +kernel) rfl (by decide) (by decide) d_St_becomeSame_27 rfl (Nat.le_of_ble_eq_true rfl) (Nat.zero_le _) (Nat.zero_le _) (fun u10 q10 => ?_))
        subst u10
        refine wk_iinc C (1 : Int32) d_St_becomeSame_30 (by decide) rfl (by decide) ?_
        refine wm_goto (tgt := 10) C d_St_becomeSame_33 rfl ?_
        refine wk_cut (hK10 ((a.1 + (1 : Int32)), v10) h) ?_
        exact ⟨rfl, rfl, rfl, trivial⟩
  unfold mf_St_becomeSame at h
  refine wm_aload_n C d_St_becomeSame_0 rfl ?_
  refine wm_aload_n C d_St_becomeSame_1 rfl ?_
  refine gt_4_1 C k1 (ws_in iw_4) (ws_1 mw_0_118) d_St_becomeSame_2 ?_
  refine wk_yes h (fun w11 h => ?_)
  refine pt_4_1 C k0 w11 (ws_in iw_4) (ws_1 mw_0_118) d_St_becomeSame_5 ?_
  refine wm_iconst (v := (0 : Int32)) C d_St_becomeSame_8 (by decide) ?_
  refine wm_istore_n C d_St_becomeSame_9 (by decide) ?_
  refine wk_cut (c_10 a0 a1 k0 k1 2100 ((0 : Int32), wm_u g a0 1 (g a1 1)) h) ?_
  exact ⟨rfl, rfl, rfl, trivial⟩
/-! FactFlow$Instruction.jumpSigns()I -/
def mf_In_jumpSigns_14 (s0 : Int32) (g : wm_Sg) : Option (Int32 × wm_Sg) :=
  some (s0, g)
def mf_In_jumpSigns (a0 : Nat) (g : wm_Sg) : Option (Int32 × wm_Sg) :=
  if (g a0 0) = (7 : Int32) then (mf_In_jumpSigns_14 (2 : Int32) g) else (mf_In_jumpSigns_14 (1 : Int32) g)
set_option maxHeartbeats 4000000 in
set_option maxRecDepth 100000 in
theorem mc_In_jumpSigns {l : Launch} {G : wm_G} (a0 : Nat) (g : wm_Sg) (v : (Int32 × wm_Sg)) (k0 : kd a0 = 2) (h : mf_In_jumpSigns a0 g = some v) : wm_Mi l G y_In_jumpSigns ws_In_jumpSigns 0 wm_n (wm_S G) [.ref (G.B + a0)] g (fun r u => r = v.1 ∧ u = v.2) := by
  refine wm_in_i (cc := c_In_jumpSigns) (maxL := 1) (by decide) rfl (Nat.le_of_ble_eq_true rfl) (fun X C _ E => ?_)
  have c_14 : ∀ (s0 : Int32) (g : wm_Sg), mf_In_jumpSigns_14  s0 g = some v → wm_W G X 1 0 0 wm_n (wm_S G) g 14 [] [.int s0] := by
    intro s0 g h
    unfold mf_In_jumpSigns_14 at h
    exact E _ _ _ _ d_In_jumpSigns_14 (wk_ret h)
  unfold mf_In_jumpSigns at h
  refine wm_aload_n C d_In_jumpSigns_0 rfl ?_
  refine gt_2_0 C k0 (ws_in iw_2) (ws_1 mw_0_56) d_In_jumpSigns_1 ?_
  refine wm_bipush (v := (7 : Int32)) C d_In_jumpSigns_4 (by decide) ?_
  refine wk_icmp_ne (tgt := 13) C d_In_jumpSigns_6 rfl h (fun _ h => ?_) (fun _ h => ?_)
  · refine wm_iconst (v := (2 : Int32)) C d_In_jumpSigns_9 (by decide) ?_
    refine wm_goto (tgt := 14) C d_In_jumpSigns_10 rfl ?_
    refine wk_cut (c_14 (2 : Int32) g h) ?_
    exact trivial
  · refine wm_iconst (v := (1 : Int32)) C d_In_jumpSigns_13 (by decide) ?_
    refine wk_cut (c_14 (1 : Int32) g h) ?_
    exact trivial
/-! FactFlow$Fact.keepSigns(I)V -/
def mf_Fa_keepSigns (a0 : Nat) (a1 : Int32) (g : wm_Sg) : Option wm_Sg :=
  (mf_Fa_reduce a0 (wm_u g a0 2 ((g a0 2) &&& a1))).bind fun v2 => some (v2)
set_option maxHeartbeats 4000000 in
set_option maxRecDepth 100000 in
theorem mc_Fa_keepSigns {l : Launch} {G : wm_G} (a0 : Nat) (a1 : Int32) (g : wm_Sg) (v : wm_Sg) (k0 : kd a0 = 3) (h : mf_Fa_keepSigns a0 a1 g = some v) : wm_Mv l G y_Fa_keepSigns ws_Fa_keepSigns 1 wm_n (wm_S G) [.ref (G.B + a0), .int a1] g (fun u => u = v) := by
  refine wm_in_v (cc := c_Fa_keepSigns) (maxL := 2) (by decide) rfl (Nat.le_of_ble_eq_true rfl) (fun X C _ E => ?_)
  unfold mf_Fa_keepSigns at h
  refine wm_aload_n C d_Fa_keepSigns_0 rfl ?_
  refine wm_dup C d_Fa_keepSigns_1 rfl ?_
  refine gt_3_2 C k0 (ws_in iw_3) (ws_1 mw_0_40) d_Fa_keepSigns_2 ?_
  refine wm_iload_n C d_Fa_keepSigns_5 rfl ?_
  refine wm_iand C d_Fa_keepSigns_6 ?_
  refine pt_3_2 C k0 (ws_in iw_3) (ws_1 mw_0_40) d_Fa_keepSigns_7 ?_
  refine wm_aload_n C d_Fa_keepSigns_10 rfl ?_
  refine wk_bind h (fun v2 e2 h => wm_cVv (ci := 3) (q := (Rn_3, Tn_3, 3)) (na := 0) C (mc_Fa_reduce a0 (wm_u g a0 2 ((g a0 2) &&& a1)) v2 k0 e2) (gc_Fa_reduce mw_1_34) (kd_lt (by rw [k0]; decide)) rfl ⟨_, wm_S_3 k0 _⟩ rfl rfl (by decide +kernel) rfl (by decide) (by decide) d_Fa_keepSigns_11 rfl (Nat.le_of_ble_eq_true rfl) (Nat.zero_le _) (Nat.zero_le _) (fun u2 q2 => ?_))
  subst u2
  exact E _ _ _ d_Fa_keepSigns_14 (Option.some.inj h)
/-! FactFlow$State.keepSigns(II)V -/
def mf_St_keepSigns_27  (g : wm_Sg) : Option wm_Sg :=
  some (g)
def mf_St_keepSigns (a0 : Nat) (a1 : Int32) (a2 : Int32) (g : wm_Sg) : Option wm_Sg :=
  if a1 < 0 ∨ sh_n (sh_r a0 0) ≤ (a1).toNatClampNeg then none else (mf_Fa_keepSigns (sh_r (sh_r a0 0) (a1).toNatClampNeg) a2 g).bind fun v5 => if a1 < 0 ∨ sh_n (sh_r a0 0) ≤ (a1).toNatClampNeg then none else if (v5 (sh_r (sh_r a0 0) (a1).toNatClampNeg) 2) = (0 : Int32) then (mf_St_keepSigns_27 (wm_u v5 a0 1 (1 : Int32))) else (mf_St_keepSigns_27 v5)
set_option maxHeartbeats 4000000 in
set_option maxRecDepth 100000 in
theorem mc_St_keepSigns {l : Launch} {G : wm_G} (a0 : Nat) (a1 : Int32) (a2 : Int32) (g : wm_Sg) (v : wm_Sg) (k0 : kd a0 = 4) (h : mf_St_keepSigns a0 a1 a2 g = some v) : wm_Mv l G y_St_keepSigns ws_St_keepSigns 2 wm_n (wm_S G) [.ref (G.B + a0), .int a1, .int a2] g (fun u => u = v) := by
  refine wm_in_v (cc := c_St_keepSigns) (maxL := 3) (by decide) rfl (Nat.le_of_ble_eq_true rfl) (fun X C _ E => ?_)
  have c_27 : ∀ (g : wm_Sg), mf_St_keepSigns_27  g = some v → wm_W G X 3 0 0 wm_n (wm_S G) g 27 [] [] := by
    intro g h
    unfold mf_St_keepSigns_27 at h
    exact E _ _ _ d_St_keepSigns_27 (Option.some.inj h)
  unfold mf_St_keepSigns at h
  refine wm_aload_n C d_St_keepSigns_0 rfl ?_
  refine gt_4_0 C k0 (ws_in iw_4) (ws_1 mw_0_115) d_St_keepSigns_1 ?_
  refine wm_iload_n C d_St_keepSigns_4 rfl ?_
  refine wk_no h (fun w4 h => ?_)
  refine wk_aald_23 C (kr_4_0 k0) w4 d_St_keepSigns_5 ?_
  refine wm_iload_n C d_St_keepSigns_6 rfl ?_
  refine wk_bind h (fun v5 e5 h => wm_cVv (ci := 3) (q := (Rn_3, Tn_3, 3)) (na := 1) C (mc_Fa_keepSigns (sh_r (sh_r a0 0) (a1).toNatClampNeg) a2 g v5 (kr_23 (kr_4_0 k0) w4) e5) (gc_Fa_keepSigns mw_1_82) (kd_lt (by rw [(kr_23 (kr_4_0 k0) w4)]; decide)) rfl ⟨_, wm_S_3 (kr_23 (kr_4_0 k0) w4) _⟩ rfl rfl (by decide +kernel) rfl (by decide) (by decide) d_St_keepSigns_7 rfl (Nat.le_of_ble_eq_true rfl) (Nat.zero_le _) (Nat.zero_le _) (fun u5 q5 => ?_))
  subst u5
  refine wm_aload_n C d_St_keepSigns_10 rfl ?_
  refine gt_4_0 C k0 (ws_in iw_4) (ws_1 mw_0_115) d_St_keepSigns_11 ?_
  refine wm_iload_n C d_St_keepSigns_14 rfl ?_
  refine wk_no h (fun w6 h => ?_)
  refine wk_aald_23 C (kr_4_0 k0) w6 d_St_keepSigns_15 ?_
  refine gt_3_2 C (kr_23 (kr_4_0 k0) w6) (ws_in iw_3) (ws_1 mw_0_42) d_St_keepSigns_16 ?_
  refine wk_if_ne (tgt := 27) C d_St_keepSigns_19 rfl h (fun _ h => ?_) (fun _ h => ?_)
  · refine wm_aload_n C d_St_keepSigns_22 rfl ?_
    refine wm_iconst (v := (1 : Int32)) C d_St_keepSigns_23 (by decide) ?_
    refine pt_4_1 C k0 (Or.inr rfl) (ws_in iw_4) (ws_1 mw_0_118) d_St_keepSigns_24 ?_
    refine wk_cut (c_27 (wm_u v5 a0 1 (1 : Int32)) h) ?_
    exact trivial
  · refine wk_cut (c_27 v5 h) ?_
    exact trivial
/-! java/lang/Integer.numberOfTrailingZeros(I)I -/
def mf_Ig_numberOfTrailingZeros_74 (b0 : Int32) (b1 : Int32) (g : wm_Sg) : Option (Int32 × wm_Sg) :=
  some ((b1 + ((b0).toUInt32 >>> (Int32.toUInt32 (1 : Int32) &&& Int32.toUInt32 31)).toInt32), g)
def mf_Ig_numberOfTrailingZeros_62 (b0 : Int32) (b1 : Int32) (g : wm_Sg) : Option (Int32 × wm_Sg) :=
  if b0 ≤ (4 : Int32) then (mf_Ig_numberOfTrailingZeros_74 b0 b1 g) else (mf_Ig_numberOfTrailingZeros_74 (((b0).toUInt32 >>> (Int32.toUInt32 (2 : Int32) &&& Int32.toUInt32 31)).toInt32) (b1 + (2 : Int32)) g)
def mf_Ig_numberOfTrailingZeros_49 (b0 : Int32) (b1 : Int32) (g : wm_Sg) : Option (Int32 × wm_Sg) :=
  if b0 ≤ (16 : Int32) then (mf_Ig_numberOfTrailingZeros_62 b0 b1 g) else (mf_Ig_numberOfTrailingZeros_62 (((b0).toUInt32 >>> (Int32.toUInt32 (4 : Int32) &&& Int32.toUInt32 31)).toInt32) (b1 + (4 : Int32)) g)
def mf_Ig_numberOfTrailingZeros_34 (b0 : Int32) (b1 : Int32) (g : wm_Sg) : Option (Int32 × wm_Sg) :=
  if b0 ≤ (256 : Int32) then (mf_Ig_numberOfTrailingZeros_49 b0 b1 g) else (mf_Ig_numberOfTrailingZeros_49 (((b0).toUInt32 >>> (Int32.toUInt32 (8 : Int32) &&& Int32.toUInt32 31)).toInt32) (b1 + (8 : Int32)) g)
def mf_Ig_numberOfTrailingZeros (a0 : Int32) (g : wm_Sg) : Option (Int32 × wm_Sg) :=
  if (0 : Int32) < ((a0 ^^^ (-1 : Int32)) &&& (a0 - (1 : Int32))) then (if ((a0 ^^^ (-1 : Int32)) &&& (a0 - (1 : Int32))) ≤ (65536 : Int32) then (mf_Ig_numberOfTrailingZeros_34 ((a0 ^^^ (-1 : Int32)) &&& (a0 - (1 : Int32))) (1 : Int32) g) else (mf_Ig_numberOfTrailingZeros_34 (((((a0 ^^^ (-1 : Int32)) &&& (a0 - (1 : Int32)))).toUInt32 >>> (Int32.toUInt32 (16 : Int32) &&& Int32.toUInt32 31)).toInt32) ((1 : Int32) + (16 : Int32)) g)) else (some ((((a0 ^^^ (-1 : Int32)) &&& (a0 - (1 : Int32))) &&& (32 : Int32)), g))
set_option maxHeartbeats 4000000 in
set_option maxRecDepth 100000 in
theorem mc_Ig_numberOfTrailingZeros {l : Launch} {G : wm_G} (a0 : Int32) (g : wm_Sg) (v : (Int32 × wm_Sg)) (h : mf_Ig_numberOfTrailingZeros a0 g = some v) : wm_Mi l G y_Ig_numberOfTrailingZeros ws_Ig_numberOfTrailingZeros 0 wm_n (wm_S G) [.int a0] g (fun r u => r = v.1 ∧ u = v.2) := by
  refine wm_in_i (cc := c_Ig_numberOfTrailingZeros) (maxL := 2) (by decide) rfl (Nat.le_of_ble_eq_true rfl) (fun X C _ E => ?_)
  have c_74 : ∀ (b0 : Int32) (b1 : Int32) (g : wm_Sg), mf_Ig_numberOfTrailingZeros_74 b0 b1 g = some v → wm_W G X 2 0 0 wm_n (wm_S G) g 74 [(0, .int b0), (1, .int b1)] [] := by
    intro b0 b1 g h
    unfold mf_Ig_numberOfTrailingZeros_74 at h
    refine wm_iload_n C d_Ig_numberOfTrailingZeros_74 rfl ?_
    refine wm_iload_n C d_Ig_numberOfTrailingZeros_75 rfl ?_
    refine wm_iconst (v := (1 : Int32)) C d_Ig_numberOfTrailingZeros_76 (by decide) ?_
    refine wm_iushr C d_Ig_numberOfTrailingZeros_77 rfl ?_
    refine wm_iadd C d_Ig_numberOfTrailingZeros_78 ?_
    exact E _ _ _ _ d_Ig_numberOfTrailingZeros_79 (wk_ret h)
  have c_62 : ∀ (b0 : Int32) (b1 : Int32) (g : wm_Sg), mf_Ig_numberOfTrailingZeros_62 b0 b1 g = some v → wm_W G X 2 0 0 wm_n (wm_S G) g 62 [(0, .int b0), (1, .int b1)] [] := by
    intro b0 b1 g h
    unfold mf_Ig_numberOfTrailingZeros_62 at h
    refine wm_iload_n C d_Ig_numberOfTrailingZeros_62 rfl ?_
    refine wm_iconst (v := (4 : Int32)) C d_Ig_numberOfTrailingZeros_63 (by decide) ?_
    refine wk_icmp_le (tgt := 74) C d_Ig_numberOfTrailingZeros_64 rfl h (fun _ h => ?_) (fun _ h => ?_)
    · refine wk_cut (c_74 b0 b1 g h) ?_
      exact ⟨rfl, rfl, trivial⟩
    · refine wk_iinc C (2 : Int32) d_Ig_numberOfTrailingZeros_67 (by decide) rfl (by decide) ?_
      refine wm_iload_n C d_Ig_numberOfTrailingZeros_70 rfl ?_
      refine wm_iconst (v := (2 : Int32)) C d_Ig_numberOfTrailingZeros_71 (by decide) ?_
      refine wm_iushr C d_Ig_numberOfTrailingZeros_72 rfl ?_
      refine wm_istore_n C d_Ig_numberOfTrailingZeros_73 (by decide) ?_
      refine wk_cut (c_74 (((b0).toUInt32 >>> (Int32.toUInt32 (2 : Int32) &&& Int32.toUInt32 31)).toInt32) (b1 + (2 : Int32)) g h) ?_
      exact ⟨rfl, rfl, trivial⟩
  have c_49 : ∀ (b0 : Int32) (b1 : Int32) (g : wm_Sg), mf_Ig_numberOfTrailingZeros_49 b0 b1 g = some v → wm_W G X 2 0 0 wm_n (wm_S G) g 49 [(0, .int b0), (1, .int b1)] [] := by
    intro b0 b1 g h
    unfold mf_Ig_numberOfTrailingZeros_49 at h
    refine wm_iload_n C d_Ig_numberOfTrailingZeros_49 rfl ?_
    refine wm_bipush (v := (16 : Int32)) C d_Ig_numberOfTrailingZeros_50 (by decide) ?_
    refine wk_icmp_le (tgt := 62) C d_Ig_numberOfTrailingZeros_52 rfl h (fun _ h => ?_) (fun _ h => ?_)
    · refine wk_cut (c_62 b0 b1 g h) ?_
      exact ⟨rfl, rfl, trivial⟩
    · refine wk_iinc C (4 : Int32) d_Ig_numberOfTrailingZeros_55 (by decide) rfl (by decide) ?_
      refine wm_iload_n C d_Ig_numberOfTrailingZeros_58 rfl ?_
      refine wm_iconst (v := (4 : Int32)) C d_Ig_numberOfTrailingZeros_59 (by decide) ?_
      refine wm_iushr C d_Ig_numberOfTrailingZeros_60 rfl ?_
      refine wm_istore_n C d_Ig_numberOfTrailingZeros_61 (by decide) ?_
      refine wk_cut (c_62 (((b0).toUInt32 >>> (Int32.toUInt32 (4 : Int32) &&& Int32.toUInt32 31)).toInt32) (b1 + (4 : Int32)) g h) ?_
      exact ⟨rfl, rfl, trivial⟩
  have c_34 : ∀ (b0 : Int32) (b1 : Int32) (g : wm_Sg), mf_Ig_numberOfTrailingZeros_34 b0 b1 g = some v → wm_W G X 2 0 0 wm_n (wm_S G) g 34 [(0, .int b0), (1, .int b1)] [] := by
    intro b0 b1 g h
    unfold mf_Ig_numberOfTrailingZeros_34 at h
    refine wm_iload_n C d_Ig_numberOfTrailingZeros_34 rfl ?_
    refine wm_sipush (v := (256 : Int32)) C d_Ig_numberOfTrailingZeros_35 (by decide) ?_
    refine wk_icmp_le (tgt := 49) C d_Ig_numberOfTrailingZeros_38 rfl h (fun _ h => ?_) (fun _ h => ?_)
    · refine wk_cut (c_49 b0 b1 g h) ?_
      exact ⟨rfl, rfl, trivial⟩
    · refine wk_iinc C (8 : Int32) d_Ig_numberOfTrailingZeros_41 (by decide) rfl (by decide) ?_
      refine wm_iload_n C d_Ig_numberOfTrailingZeros_44 rfl ?_
      refine wm_bipush (v := (8 : Int32)) C d_Ig_numberOfTrailingZeros_45 (by decide) ?_
      refine wm_iushr C d_Ig_numberOfTrailingZeros_47 rfl ?_
      refine wm_istore_n C d_Ig_numberOfTrailingZeros_48 (by decide) ?_
      refine wk_cut (c_49 (((b0).toUInt32 >>> (Int32.toUInt32 (8 : Int32) &&& Int32.toUInt32 31)).toInt32) (b1 + (8 : Int32)) g h) ?_
      exact ⟨rfl, rfl, trivial⟩
  unfold mf_Ig_numberOfTrailingZeros at h
  refine wm_iload_n C d_Ig_numberOfTrailingZeros_0 rfl ?_
  refine wm_iconst (v := (-1 : Int32)) C d_Ig_numberOfTrailingZeros_1 (by decide) ?_
  refine wm_ixor C d_Ig_numberOfTrailingZeros_2 ?_
  refine wm_iload_n C d_Ig_numberOfTrailingZeros_3 rfl ?_
  refine wm_iconst (v := (1 : Int32)) C d_Ig_numberOfTrailingZeros_4 (by decide) ?_
  refine wm_isub C d_Ig_numberOfTrailingZeros_5 ?_
  refine wm_iand C d_Ig_numberOfTrailingZeros_6 ?_
  refine wm_istore_n C d_Ig_numberOfTrailingZeros_7 (by decide) ?_
  refine wm_iload_n C d_Ig_numberOfTrailingZeros_8 rfl ?_
  refine wk_if_gt (tgt := 17) C d_Ig_numberOfTrailingZeros_9 rfl h (fun _ h => ?_) (fun _ h => ?_)
  · refine wm_iconst (v := (1 : Int32)) C d_Ig_numberOfTrailingZeros_17 (by decide) ?_
    refine wm_istore_n C d_Ig_numberOfTrailingZeros_18 (by decide) ?_
    refine wm_iload_n C d_Ig_numberOfTrailingZeros_19 rfl ?_
    refine wm_ldc_w (v := (65536 : Int32)) C d_Ig_numberOfTrailingZeros_20 (ws_1 mw_1_70) ?_
    refine wk_icmp_le (tgt := 34) C d_Ig_numberOfTrailingZeros_23 rfl h (fun _ h => ?_) (fun _ h => ?_)
    · refine wk_cut (c_34 ((a0 ^^^ (-1 : Int32)) &&& (a0 - (1 : Int32))) (1 : Int32) g h) ?_
      exact ⟨rfl, rfl, trivial⟩
    · refine wk_iinc C (16 : Int32) d_Ig_numberOfTrailingZeros_26 (by decide) rfl (by decide) ?_
      refine wm_iload_n C d_Ig_numberOfTrailingZeros_29 rfl ?_
      refine wm_bipush (v := (16 : Int32)) C d_Ig_numberOfTrailingZeros_30 (by decide) ?_
      refine wm_iushr C d_Ig_numberOfTrailingZeros_32 rfl ?_
      refine wm_istore_n C d_Ig_numberOfTrailingZeros_33 (by decide) ?_
      refine wk_cut (c_34 (((((a0 ^^^ (-1 : Int32)) &&& (a0 - (1 : Int32)))).toUInt32 >>> (Int32.toUInt32 (16 : Int32) &&& Int32.toUInt32 31)).toInt32) ((1 : Int32) + (16 : Int32)) g h) ?_
      exact ⟨rfl, rfl, trivial⟩
  · refine wm_iload_n C d_Ig_numberOfTrailingZeros_12 rfl ?_
    refine wm_bipush (v := (32 : Int32)) C d_Ig_numberOfTrailingZeros_13 (by decide) ?_
    refine wm_iand C d_Ig_numberOfTrailingZeros_15 ?_
    exact E _ _ _ _ d_Ig_numberOfTrailingZeros_16 (wk_ret h)
/-! FactFlow$Fact.lastBits(II)I -/
def mf_Fa_lastBits_17 (s0 : Int32) (g : wm_Sg) : Option (Int32 × wm_Sg) :=
  some (s0, g)
def mf_Fa_lastBits (a0 : Int32) (a1 : Int32) (g : wm_Sg) : Option (Int32 × wm_Sg) :=
  if a1 = (32 : Int32) then (mf_Fa_lastBits_17 a0 g) else (mf_Fa_lastBits_17 (a0 &&& (((1 : Int32) <<< (a1 &&& 31)) - (1 : Int32))) g)
set_option maxHeartbeats 4000000 in
set_option maxRecDepth 100000 in
theorem mc_Fa_lastBits {l : Launch} {G : wm_G} (a0 : Int32) (a1 : Int32) (g : wm_Sg) (v : (Int32 × wm_Sg)) (h : mf_Fa_lastBits a0 a1 g = some v) : wm_Mi l G y_Fa_lastBits ws_Fa_lastBits 0 wm_n (wm_S G) [.int a0, .int a1] g (fun r u => r = v.1 ∧ u = v.2) := by
  refine wm_in_i (cc := c_Fa_lastBits) (maxL := 2) (by decide) rfl (Nat.le_of_ble_eq_true rfl) (fun X C _ E => ?_)
  have c_17 : ∀ (s0 : Int32) (g : wm_Sg), mf_Fa_lastBits_17  s0 g = some v → wm_W G X 2 0 0 wm_n (wm_S G) g 17 [] [.int s0] := by
    intro s0 g h
    unfold mf_Fa_lastBits_17 at h
    exact E _ _ _ _ d_Fa_lastBits_17 (wk_ret h)
  unfold mf_Fa_lastBits at h
  refine wm_iload_n C d_Fa_lastBits_0 rfl ?_
  refine wm_bipush (v := (32 : Int32)) C d_Fa_lastBits_1 (by decide) ?_
  refine wk_icmp_ne (tgt := 10) C d_Fa_lastBits_3 rfl h (fun _ h => ?_) (fun _ h => ?_)
  · refine wm_iload_n C d_Fa_lastBits_6 rfl ?_
    refine wm_goto (tgt := 17) C d_Fa_lastBits_7 rfl ?_
    refine wk_cut (c_17 a0 g h) ?_
    exact trivial
  · refine wm_iload_n C d_Fa_lastBits_10 rfl ?_
    refine wm_iconst (v := (1 : Int32)) C d_Fa_lastBits_11 (by decide) ?_
    refine wm_iload_n C d_Fa_lastBits_12 rfl ?_
    refine wm_ishl C d_Fa_lastBits_13 ?_
    refine wm_iconst (v := (1 : Int32)) C d_Fa_lastBits_14 (by decide) ?_
    refine wm_isub C d_Fa_lastBits_15 ?_
    refine wm_iand C d_Fa_lastBits_16 ?_
    refine wk_cut (c_17 (a0 &&& (((1 : Int32) <<< (a1 &&& 31)) - (1 : Int32))) g h) ?_
    exact trivial
/-! FactFlow$Fact.joinWith(LFactFlow$Fact;)Z -/
def mf_Fa_joinWith_83 (b0 : Nat) (b3 : Int32) (b4 : Int32) (s0 : Int32) (g : wm_Sg) : Option (Int32 × wm_Sg) :=
  (mf_Fa_lastBits ((wm_u g b0 0 b3) b0 1) b3 (wm_u g b0 0 b3)).bind fun v5 => if s0 = 0 ∨ s0 = 1 then some (s0, wm_u (wm_u v5.2 b0 1 v5.1) b0 2 b4) else none
def mf_Fa_joinWith_78 (b0 : Nat) (b3 : Int32) (b4 : Int32) (g : wm_Sg) : Option (Int32 × wm_Sg) :=
  mf_Fa_joinWith_83 b0 b3 b4 (1 : Int32) g
def mf_Fa_joinWith_50 (b0 : Nat) (b1 : Nat) (b3 : Int32) (g : wm_Sg) : Option (Int32 × wm_Sg) :=
  if b3 = (g b0 0) then (if ((g b0 2) ||| (g b1 2)) = (g b0 2) then (mf_Fa_joinWith_83 b0 b3 ((g b0 2) ||| (g b1 2)) (0 : Int32) g) else (mf_Fa_joinWith_78 b0 b3 ((g b0 2) ||| (g b1 2)) g)) else (mf_Fa_joinWith_78 b0 b3 ((g b0 2) ||| (g b1 2)) g)
def mf_Fa_joinWith_32 (b0 : Nat) (b1 : Nat) (b2 : Int32) (b3 : Int32) (g : wm_Sg) : Option (Int32 × wm_Sg) :=
  (mf_Ig_numberOfTrailingZeros b2 g).bind fun v6 => mf_Fa_joinWith_50 b0 b1 (fc_min (16 : Int32) (fc_min b3 v6.1)) v6.2
def mf_Fa_joinWith (a0 : Nat) (a1 : Nat) (g : wm_Sg) : Option (Int32 × wm_Sg) :=
  if (fc_min (g a0 0) (g a1 0)) = (32 : Int32) then (if ((g a0 1) ^^^ (g a1 1)) = (0 : Int32) then (mf_Fa_joinWith_50 a0 a1 (fc_min (g a0 0) (g a1 0)) g) else (mf_Fa_joinWith_32 a0 a1 ((g a0 1) ^^^ (g a1 1)) (fc_min (g a0 0) (g a1 0)) g)) else (mf_Fa_joinWith_32 a0 a1 ((g a0 1) ^^^ (g a1 1)) (fc_min (g a0 0) (g a1 0)) g)
set_option maxHeartbeats 4000000 in
set_option maxRecDepth 100000 in
theorem mc_Fa_joinWith {l : Launch} {G : wm_G} (a0 : Nat) (a1 : Nat) (g : wm_Sg) (v : (Int32 × wm_Sg)) (k0 : kd a0 = 3) (k1 : kd a1 = 3) (h : mf_Fa_joinWith a0 a1 g = some v) : wm_Mi l G y_Fa_joinWith ws_Fa_joinWith 1 wm_n (wm_S G) [.ref (G.B + a0), .ref (G.B + a1)] g (fun r u => r = v.1 ∧ u = v.2) := by
  refine wm_in_z (cc := c_Fa_joinWith) (maxL := 6) (by decide) rfl (Nat.le_of_ble_eq_true rfl) (fun X C _ E => ?_)
  have c_83 : ∀ (b0 : Nat) (b3 : Int32) (b4 : Int32) (s0 : Int32) (k0 : kd b0 = 3) (g : wm_Sg), mf_Fa_joinWith_83 b0 b3 b4 s0 g = some v → wm_W G X 6 0 0 wm_n (wm_S G) g 83 [(0, .ref (G.B + b0)), (3, .int b3), (4, .int b4)] [.int s0] := by
    intro b0 b3 b4 s0 k0 g h
    unfold mf_Fa_joinWith_83 at h
    refine wm_istore C d_Fa_joinWith_83 (by decide) ?_
    refine wm_aload_n C d_Fa_joinWith_85 rfl ?_
    refine wm_iload_n C d_Fa_joinWith_86 rfl ?_
    refine pt_3_0 C k0 (ws_in iw_3) (ws_1 mw_0_34) d_Fa_joinWith_87 ?_
    refine wm_aload_n C d_Fa_joinWith_90 rfl ?_
    refine wm_aload_n C d_Fa_joinWith_91 rfl ?_
    refine gt_3_1 C k0 (ws_in iw_3) (ws_1 mw_0_37) d_Fa_joinWith_92 ?_
    refine wm_iload_n C d_Fa_joinWith_95 rfl ?_
    refine wk_bind h (fun v5 e5 h => wm_cSi (na := 2) C (mc_Fa_lastBits ((wm_u g b0 0 b3) b0 1) b3 (wm_u g b0 0 b3) v5 e5) (gc_Fa_lastBits mw_1_71) rfl (by decide +kernel) rfl (by decide) (by decide) d_Fa_joinWith_96 rfl (Nat.le_of_ble_eq_true rfl) (Nat.zero_le _) (Nat.zero_le _) (fun r5 u5 q5 => ?_))
    obtain ⟨rfl, rfl⟩ := q5
    refine pt_3_1 C k0 (ws_in iw_3) (ws_1 mw_0_37) d_Fa_joinWith_99 ?_
    refine wm_aload_n C d_Fa_joinWith_102 rfl ?_
    refine wm_iload C d_Fa_joinWith_103 rfl ?_
    refine pt_3_2 C k0 (ws_in iw_3) (ws_1 mw_0_40) d_Fa_joinWith_105 ?_
    refine wm_iload C d_Fa_joinWith_108 rfl ?_
    exact wk_yes h (fun q h => E _ _ _ _ d_Fa_joinWith_110 (wk_nar q) (wk_ret h))
  have c_78 : ∀ (b0 : Nat) (b3 : Int32) (b4 : Int32) (k0 : kd b0 = 3) (g : wm_Sg), mf_Fa_joinWith_78 b0 b3 b4 g = some v → wm_W G X 6 0 0 wm_n (wm_S G) g 78 [(0, .ref (G.B + b0)), (3, .int b3), (4, .int b4)] [] := by
    intro b0 b3 b4 k0 g h
    unfold mf_Fa_joinWith_78 at h
    refine wm_iconst (v := (1 : Int32)) C d_Fa_joinWith_78 (by decide) ?_
    refine wm_goto (tgt := 83) C d_Fa_joinWith_79 rfl ?_
    refine wk_cut (c_83 b0 b3 b4 (1 : Int32) k0 g h) ?_
    exact ⟨rfl, rfl, rfl, trivial⟩
  have c_50 : ∀ (b0 : Nat) (b1 : Nat) (b3 : Int32) (k0 : kd b0 = 3) (k1 : kd b1 = 3) (g : wm_Sg), mf_Fa_joinWith_50 b0 b1 b3 g = some v → wm_W G X 6 0 0 wm_n (wm_S G) g 50 [(0, .ref (G.B + b0)), (1, .ref (G.B + b1)), (3, .int b3)] [] := by
    intro b0 b1 b3 k0 k1 g h
    unfold mf_Fa_joinWith_50 at h
    refine wm_aload_n C d_Fa_joinWith_50 rfl ?_
    refine gt_3_2 C k0 (ws_in iw_3) (ws_1 mw_0_40) d_Fa_joinWith_51 ?_
    refine wm_aload_n C d_Fa_joinWith_54 rfl ?_
    refine gt_3_2 C k1 (ws_in iw_3) (ws_1 mw_0_40) d_Fa_joinWith_55 ?_
    refine wm_ior C d_Fa_joinWith_58 ?_
    refine wm_istore C d_Fa_joinWith_59 (by decide) ?_
    refine wm_iload_n C d_Fa_joinWith_61 rfl ?_
    refine wm_aload_n C d_Fa_joinWith_62 rfl ?_
    refine gt_3_0 C k0 (ws_in iw_3) (ws_1 mw_0_34) d_Fa_joinWith_63 ?_
    refine wk_icmp_ne (tgt := 78) C d_Fa_joinWith_66 rfl h (fun _ h => ?_) (fun _ h => ?_)
    · refine wm_iload C d_Fa_joinWith_69 rfl ?_
      refine wm_aload_n C d_Fa_joinWith_71 rfl ?_
      refine gt_3_2 C k0 (ws_in iw_3) (ws_1 mw_0_40) d_Fa_joinWith_72 ?_
      refine wk_icmp_eq (tgt := 82) C d_Fa_joinWith_75 rfl h (fun _ h => ?_) (fun _ h => ?_)
      · refine wm_iconst (v := (0 : Int32)) C d_Fa_joinWith_82 (by decide) ?_
        refine wk_cut (c_83 b0 b3 ((g b0 2) ||| (g b1 2)) (0 : Int32) k0 g h) ?_
        exact ⟨rfl, rfl, rfl, trivial⟩
      · refine wk_cut (c_78 b0 b3 ((g b0 2) ||| (g b1 2)) k0 g h) ?_
        exact ⟨rfl, rfl, rfl, trivial⟩
    · refine wk_cut (c_78 b0 b3 ((g b0 2) ||| (g b1 2)) k0 g h) ?_
      exact ⟨rfl, rfl, rfl, trivial⟩
  have c_32 : ∀ (b0 : Nat) (b1 : Nat) (b2 : Int32) (b3 : Int32) (k0 : kd b0 = 3) (k1 : kd b1 = 3) (g : wm_Sg), mf_Fa_joinWith_32 b0 b1 b2 b3 g = some v → wm_W G X 6 0 0 wm_n (wm_S G) g 32 [(0, .ref (G.B + b0)), (1, .ref (G.B + b1)), (2, .int b2), (3, .int b3)] [] := by
    intro b0 b1 b2 b3 k0 k1 g h
    unfold mf_Fa_joinWith_32 at h
    refine wm_iload_n C d_Fa_joinWith_32 rfl ?_
    refine wk_bind h (fun v6 e6 h => wm_cSi (na := 1) C (mc_Ig_numberOfTrailingZeros b2 g v6 e6) (gc_Ig_numberOfTrailingZeros mw_1_67) rfl (by decide +kernel) rfl (by decide) (by decide) d_Fa_joinWith_33 rfl (Nat.le_of_ble_eq_true rfl) (Nat.zero_le _) (Nat.zero_le _) (fun r6 u6 q6 => ?_))
    obtain ⟨rfl, rfl⟩ := q6
    refine wm_istore C d_Fa_joinWith_36 (by decide) ?_
    refine wm_bipush (v := (16 : Int32)) C d_Fa_joinWith_38 (by decide) ?_
    refine wm_iload_n C d_Fa_joinWith_40 rfl ?_
    refine wm_iload C d_Fa_joinWith_41 rfl ?_
    refine wk_mmin C d_Fa_joinWith_43 (ws_1 mw_1_64) (ws_1 mw_1_65) (ws_1 mw_0_10) (ws_1 mw_1_66) (by decide) (Nat.le_of_ble_eq_true rfl) (Nat.zero_le _) (Nat.zero_le _) ?_
    refine wk_mmin C d_Fa_joinWith_46 (ws_1 mw_1_64) (ws_1 mw_1_65) (ws_1 mw_0_10) (ws_1 mw_1_66) (by decide) (Nat.le_of_ble_eq_true rfl) (Nat.zero_le _) (Nat.zero_le _) ?_
    refine wm_istore_n C d_Fa_joinWith_49 (by decide) ?_
    refine wk_cut (c_50 b0 b1 (fc_min (16 : Int32) (fc_min b3 v6.1)) k0 k1 v6.2 h) ?_
    exact ⟨rfl, rfl, rfl, trivial⟩
  unfold mf_Fa_joinWith at h
  refine wm_aload_n C d_Fa_joinWith_0 rfl ?_
  refine gt_3_1 C k0 (ws_in iw_3) (ws_1 mw_0_37) d_Fa_joinWith_1 ?_
  refine wm_aload_n C d_Fa_joinWith_4 rfl ?_
  refine gt_3_1 C k1 (ws_in iw_3) (ws_1 mw_0_37) d_Fa_joinWith_5 ?_
  refine wm_ixor C d_Fa_joinWith_8 ?_
  refine wm_istore_n C d_Fa_joinWith_9 (by decide) ?_
  refine wm_aload_n C d_Fa_joinWith_10 rfl ?_
  refine gt_3_0 C k0 (ws_in iw_3) (ws_1 mw_0_34) d_Fa_joinWith_11 ?_
  refine wm_aload_n C d_Fa_joinWith_14 rfl ?_
  refine gt_3_0 C k1 (ws_in iw_3) (ws_1 mw_0_34) d_Fa_joinWith_15 ?_
  refine wk_mmin C d_Fa_joinWith_18 (ws_1 mw_1_64) (ws_1 mw_1_65) (ws_1 mw_0_10) (ws_1 mw_1_66) (by decide) (Nat.le_of_ble_eq_true rfl) (Nat.zero_le _) (Nat.zero_le _) ?_
  refine wm_istore_n C d_Fa_joinWith_21 (by decide) ?_
  refine wm_iload_n C d_Fa_joinWith_22 rfl ?_
  refine wm_bipush (v := (32 : Int32)) C d_Fa_joinWith_23 (by decide) ?_
  refine wk_icmp_ne (tgt := 32) C d_Fa_joinWith_25 rfl h (fun _ h => ?_) (fun _ h => ?_)
  · refine wm_iload_n C d_Fa_joinWith_28 rfl ?_
    refine wk_if_eq (tgt := 50) C d_Fa_joinWith_29 rfl h (fun _ h => ?_) (fun _ h => ?_)
    · refine wk_cut (c_50 a0 a1 (fc_min (g a0 0) (g a1 0)) k0 k1 g h) ?_
      exact ⟨rfl, rfl, rfl, trivial⟩
    · refine wk_cut (c_32 a0 a1 ((g a0 1) ^^^ (g a1 1)) (fc_min (g a0 0) (g a1 0)) k0 k1 g h) ?_
      exact ⟨rfl, rfl, rfl, rfl, trivial⟩
  · refine wk_cut (c_32 a0 a1 ((g a0 1) ^^^ (g a1 1)) (fc_min (g a0 0) (g a1 0)) k0 k1 g h) ?_
    exact ⟨rfl, rfl, rfl, rfl, trivial⟩
/-! FactFlow$State.joinWith(LFactFlow$State;)Z -/
def mf_St_joinWith_52 (K27 : Int32 × Int32 × wm_Sg → Option (Int32 × wm_Sg)) (b0 : Nat) (b1 : Nat) (b2 : Int32) (b3 : Int32) (g : wm_Sg) : Option (Int32 × wm_Sg) :=
  K27 (b2, (b3 + (1 : Int32)), g)
def mf_St_joinWith_27 (b0 : Nat) (b1 : Nat) (K27 : Int32 × Int32 × wm_Sg → Option (Int32 × wm_Sg)) (a : Int32 × Int32 × wm_Sg) : Option (Int32 × wm_Sg) :=
  if (4 : Int32) ≤ a.2.1 then (if a.1 = 0 ∨ a.1 = 1 then some (a.1, a.2.2) else none) else (if a.2.1 < 0 ∨ sh_n (sh_r b0 0) ≤ (a.2.1).toNatClampNeg then none else if a.2.1 < 0 ∨ sh_n (sh_r b1 0) ≤ (a.2.1).toNatClampNeg then none else (mf_Fa_joinWith (sh_r (sh_r b0 0) (a.2.1).toNatClampNeg) (sh_r (sh_r b1 0) (a.2.1).toNatClampNeg) a.2.2).bind fun v10 => if v10.1 = (0 : Int32) then (mf_St_joinWith_52 K27 b0 b1 a.1 a.2.1 v10.2) else (mf_St_joinWith_52 K27 b0 b1 (1 : Int32) a.2.1 v10.2))
def mf_St_joinWith (a0 : Nat) (a1 : Nat) (g : wm_Sg) : Option (Int32 × wm_Sg) :=
  if (g a1 1) = (0 : Int32) then (if (g a0 1) = (0 : Int32) then (lp_it (mf_St_joinWith_27 a0 a1) 2100 ((0 : Int32), (0 : Int32), g)) else ((mf_St_becomeSame a0 a1 g).bind fun v11 => some ((1 : Int32), v11))) else (some ((0 : Int32), g))
set_option maxHeartbeats 4000000 in
set_option maxRecDepth 100000 in
theorem mc_St_joinWith {l : Launch} {G : wm_G} (a0 : Nat) (a1 : Nat) (g : wm_Sg) (v : (Int32 × wm_Sg)) (k0 : kd a0 = 4) (k1 : kd a1 = 4) (h : mf_St_joinWith a0 a1 g = some v) : wm_Mi l G y_St_joinWith ws_St_joinWith 2 wm_n (wm_S G) [.ref (G.B + a0), .ref (G.B + a1)] g (fun r u => r = v.1 ∧ u = v.2) := by
  refine wm_in_z (cc := c_St_joinWith) (maxL := 4) (by decide) rfl (Nat.le_of_ble_eq_true rfl) (fun X C _ E => ?_)
  have c_52 : ∀ (b0 : Nat) (b1 : Nat) (b2 : Int32) (b3 : Int32) (k0 : kd b0 = 4) (k1 : kd b1 = 4) (K27 : Int32 × Int32 × wm_Sg → Option (Int32 × wm_Sg)) (hK27 : ∀ a : Int32 × Int32 × wm_Sg, K27 a = some v → wm_W G X 4 0 0 wm_n (wm_S G) a.2.2 27 [(0, .ref (G.B + b0)), (1, .ref (G.B + b1)), (2, .int a.1), (3, .int a.2.1)] []) (g : wm_Sg), mf_St_joinWith_52 K27 b0 b1 b2 b3 g = some v → wm_W G X 4 0 0 wm_n (wm_S G) g 52 [(0, .ref (G.B + b0)), (1, .ref (G.B + b1)), (2, .int b2), (3, .int b3)] [] := by
    intro b0 b1 b2 b3 k0 k1 K27 hK27 g h
    unfold mf_St_joinWith_52 at h
    refine wk_iinc C (1 : Int32) d_St_joinWith_52 (by decide) rfl (by decide) ?_
    refine wm_goto (tgt := 27) C d_St_joinWith_55 rfl ?_
    refine wk_cut (hK27 (b2, (b3 + (1 : Int32)), g) h) ?_
    exact ⟨rfl, rfl, rfl, rfl, trivial⟩
  have c_27 : ∀ (b0 : Nat) (b1 : Nat) (k0 : kd b0 = 4) (k1 : kd b1 = 4) (f : Nat) (a : Int32 × Int32 × wm_Sg), lp_it (mf_St_joinWith_27 b0 b1) f a = some v → wm_W G X 4 0 0 wm_n (wm_S G) a.2.2 27 [(0, .ref (G.B + b0)), (1, .ref (G.B + b1)), (2, .int a.1), (3, .int a.2.1)] [] := by
    intro b0 b1 k0 k1 f
    induction f with
    | zero => intro a h; cases h
    | succ f hK27 =>
      intro a h
      have h : mf_St_joinWith_27 b0 b1 (lp_it (mf_St_joinWith_27 b0 b1) f) a = some v := h
      unfold mf_St_joinWith_27 at h
      refine wm_iload_n C d_St_joinWith_27 rfl ?_
      refine wm_iconst (v := (4 : Int32)) C d_St_joinWith_28 (by decide) ?_
      refine wk_icmp_ge (tgt := 58) C d_St_joinWith_29 rfl h (fun _ h => ?_) (fun _ h => ?_)
      · refine wm_iload_n C d_St_joinWith_58 rfl ?_
        exact wk_yes h (fun q h => E _ _ _ _ d_St_joinWith_59 (wk_nar q) (wk_ret h))
      · refine wm_aload_n C d_St_joinWith_32 rfl ?_
        refine gt_4_0 C k0 (ws_in iw_4) (ws_1 mw_0_115) d_St_joinWith_33 ?_
        refine wm_iload_n C d_St_joinWith_36 rfl ?_
        refine wk_no h (fun w8 h => ?_)
        refine wk_aald_23 C (kr_4_0 k0) w8 d_St_joinWith_37 ?_
        refine wm_aload_n C d_St_joinWith_38 rfl ?_
        refine gt_4_0 C k1 (ws_in iw_4) (ws_1 mw_0_115) d_St_joinWith_39 ?_
        refine wm_iload_n C d_St_joinWith_42 rfl ?_
        refine wk_no h (fun w9 h => ?_)
        refine wk_aald_23 C (kr_4_0 k1) w9 d_St_joinWith_43 ?_
        refine wk_bind h (fun v10 e10 h => wm_cVi (ci := 3) (q := (Rn_3, Tn_3, 3)) (na := 1) C (mc_Fa_joinWith (sh_r (sh_r b0 0) (a.2.1).toNatClampNeg) (sh_r (sh_r b1 0) (a.2.1).toNatClampNeg) a.2.2 v10 (kr_23 (kr_4_0 k0) w8) (kr_23 (kr_4_0 k1) w9) e10) (gc_Fa_joinWith mw_1_60) (kd_lt (by rw [(kr_23 (kr_4_0 k0) w8)]; decide)) rfl ⟨_, wm_S_3 (kr_23 (kr_4_0 k0) w8) _⟩ rfl rfl (by decide +kernel) rfl (by decide) (by decide) d_St_joinWith_44 rfl (Nat.le_of_ble_eq_true rfl) (Nat.zero_le _) (Nat.zero_le _) (fun r10 u10 q10 => ?_))
        obtain ⟨rfl, rfl⟩ := q10
        refine wk_if_eq (tgt := 52) C d_St_joinWith_47 rfl h (fun _ h => ?_) (fun _ h => ?_)
        · refine wk_cut (c_52 b0 b1 a.1 a.2.1 k0 k1 _ hK27 v10.2 h) ?_
          exact ⟨rfl, rfl, rfl, rfl, trivial⟩
        · refine wm_iconst (v := (1 : Int32)) C d_St_joinWith_50 (by decide) ?_
          refine wm_istore_n C d_St_joinWith_51 (by decide) ?_
          refine wk_cut (c_52 b0 b1 (1 : Int32) a.2.1 k0 k1 _ hK27 v10.2 h) ?_
          exact ⟨rfl, rfl, rfl, rfl, trivial⟩
  unfold mf_St_joinWith at h
  refine wm_aload_n C d_St_joinWith_0 rfl ?_
  refine gt_4_1 C k1 (ws_in iw_4) (ws_1 mw_0_118) d_St_joinWith_1 ?_
  refine wk_if_eq (tgt := 9) C d_St_joinWith_4 rfl h (fun _ h => ?_) (fun _ h => ?_)
  · refine wm_aload_n C d_St_joinWith_9 rfl ?_
    refine gt_4_1 C k0 (ws_in iw_4) (ws_1 mw_0_118) d_St_joinWith_10 ?_
    refine wk_if_eq (tgt := 23) C d_St_joinWith_13 rfl h (fun _ h => ?_) (fun _ h => ?_)
    · refine wm_iconst (v := (0 : Int32)) C d_St_joinWith_23 (by decide) ?_
      refine wm_istore_n C d_St_joinWith_24 (by decide) ?_
      refine wm_iconst (v := (0 : Int32)) C d_St_joinWith_25 (by decide) ?_
      refine wm_istore_n C d_St_joinWith_26 (by decide) ?_
      refine wk_cut (c_27 a0 a1 k0 k1 2100 ((0 : Int32), (0 : Int32), g) h) ?_
      exact ⟨rfl, rfl, rfl, rfl, trivial⟩
    · refine wm_aload_n C d_St_joinWith_16 rfl ?_
      refine wm_aload_n C d_St_joinWith_17 rfl ?_
      refine wk_bind h (fun v11 e11 h => wm_cVv (ci := 4) (q := (Rn_4, Tn_4, 2)) (na := 1) C (mc_St_becomeSame a0 a1 g v11 k0 k1 e11) (gc_St_becomeSame mw_1_59) (kd_lt (by rw [k0]; decide)) rfl ⟨_, wm_S_4 k0 _⟩ rfl rfl (by decide +kernel) rfl (by decide) (by decide) d_St_joinWith_18 rfl (Nat.le_of_ble_eq_true rfl) (Nat.zero_le _) (Nat.zero_le _) (fun u11 q11 => ?_))
      subst u11
      refine wm_iconst (v := (1 : Int32)) C d_St_joinWith_21 (by decide) ?_
      exact E _ _ _ _ d_St_joinWith_22 rfl (wk_ret h)
  · refine wm_iconst (v := (0 : Int32)) C d_St_joinWith_7 (by decide) ?_
    exact E _ _ _ _ d_St_joinWith_8 rfl (wk_ret h)
/-! FactFlow$Solution.arrive(LFactFlow$Program;I)V -/
def mf_So_arrive_31  (g : wm_Sg) : Option wm_Sg :=
  some (g)
def mf_So_arrive (a0 : Nat) (a1 : Nat) (a2 : Int32) (g : wm_Sg) : Option wm_Sg :=
  (mf_Pr_has a1 a2 g).bind fun v4 => if v4.1 = (0 : Int32) then (mf_So_arrive_31 v4.2) else (if a2 < 0 ∨ sh_n (sh_r a0 0) ≤ (a2).toNatClampNeg then none else (mf_St_joinWith (sh_r (sh_r a0 0) (a2).toNatClampNeg) (sh_r a0 3) v4.2).bind fun v6 => if v6.1 = (0 : Int32) then (mf_So_arrive_31 v6.2) else (if a2 < 0 ∨ sh_n (sh_r a0 2) ≤ (a2).toNatClampNeg then none else mf_So_arrive_31 (wm_u v6.2 (sh_r a0 2) (a2).toNatClampNeg (1 : Int32))))
set_option maxHeartbeats 4000000 in
set_option maxRecDepth 100000 in
theorem mc_So_arrive {l : Launch} {G : wm_G} (a0 : Nat) (a1 : Nat) (a2 : Int32) (g : wm_Sg) (v : wm_Sg) (k0 : kd a0 = 5) (k1 : kd a1 = 1) (h : mf_So_arrive a0 a1 a2 g = some v) : wm_Mv l G y_So_arrive ws_So_arrive 3 wm_n (wm_S G) [.ref (G.B + a0), .ref (G.B + a1), .int a2] g (fun u => u = v) := by
  refine wm_in_v (cc := c_So_arrive) (maxL := 3) (by decide) rfl (Nat.le_of_ble_eq_true rfl) (fun X C _ E => ?_)
  have c_31 : ∀ (g : wm_Sg), mf_So_arrive_31  g = some v → wm_W G X 3 0 0 wm_n (wm_S G) g 31 [] [] := by
    intro g h
    unfold mf_So_arrive_31 at h
    exact E _ _ _ d_So_arrive_31 (Option.some.inj h)
  unfold mf_So_arrive at h
  refine wm_aload_n C d_So_arrive_0 rfl ?_
  refine wm_iload_n C d_So_arrive_1 rfl ?_
  refine wk_bind h (fun v4 e4 h => wm_cVi (ci := 1) (q := (Rn_1, Tn_1, 3)) (na := 1) C (mc_Pr_has a1 a2 g v4 k1 e4) (gc_Pr_has mw_1_54) (kd_lt (by rw [k1]; decide)) rfl ⟨_, wm_S_1 k1 _⟩ rfl rfl (by decide +kernel) rfl (by decide) (by decide) d_So_arrive_2 rfl (Nat.le_of_ble_eq_true rfl) (Nat.zero_le _) (Nat.zero_le _) (fun r4 u4 q4 => ?_))
  obtain ⟨rfl, rfl⟩ := q4
  refine wk_if_eq (tgt := 31) C d_So_arrive_5 rfl h (fun _ h => ?_) (fun _ h => ?_)
  · refine wk_cut (c_31 v4.2 h) ?_
    exact trivial
  · refine wm_aload_n C d_So_arrive_8 rfl ?_
    refine gt_5_0 C k0 (ws_in iw_5) (ws_1 mw_0_128) d_So_arrive_9 ?_
    refine wm_iload_n C d_So_arrive_12 rfl ?_
    refine wk_no h (fun w5 h => ?_)
    refine wk_aald_24 C (kr_5_0 k0) w5 d_So_arrive_13 ?_
    refine wm_aload_n C d_So_arrive_14 rfl ?_
    refine gt_5_3 C k0 (ws_in iw_5) (ws_1 mw_0_133) d_So_arrive_15 ?_
    refine wk_bind h (fun v6 e6 h => wm_cVi (ci := 4) (q := (Rn_4, Tn_4, 2)) (na := 1) C (mc_St_joinWith (sh_r (sh_r a0 0) (a2).toNatClampNeg) (sh_r a0 3) v4.2 v6 (kr_24 (kr_5_0 k0) w5) (kr_5_3 k0) e6) (gc_St_joinWith mw_1_55) (kd_lt (by rw [(kr_24 (kr_5_0 k0) w5)]; decide)) rfl ⟨_, wm_S_4 (kr_24 (kr_5_0 k0) w5) _⟩ rfl rfl (by decide +kernel) rfl (by decide) (by decide) d_So_arrive_18 rfl (Nat.le_of_ble_eq_true rfl) (Nat.zero_le _) (Nat.zero_le _) (fun r6 u6 q6 => ?_))
    obtain ⟨rfl, rfl⟩ := q6
    refine wk_if_eq (tgt := 31) C d_So_arrive_21 rfl h (fun _ h => ?_) (fun _ h => ?_)
    · refine wk_cut (c_31 v6.2 h) ?_
      exact trivial
    · refine wm_aload_n C d_So_arrive_24 rfl ?_
      refine gt_5_2 C k0 (ws_in iw_5) (ws_1 mw_0_132) d_So_arrive_25 ?_
      refine wm_iload_n C d_So_arrive_28 rfl ?_
      refine wm_iconst (v := (1 : Int32)) C d_So_arrive_29 (by decide) ?_
      refine wk_zast C (kr_5_2 k0) rfl d_So_arrive_30 h (fun h => ?_)
      refine wk_cut (c_31 (wm_u v6.2 (sh_r a0 2) (a2).toNatClampNeg (1 : Int32)) h) ?_
      exact trivial
/-! FactFlow$Fact.productBits(LFactFlow$Fact;LFactFlow$Fact;)I -/
def mf_Fa_productBits_64 (s0 : Int32) (g : wm_Sg) : Option (Int32 × wm_Sg) :=
  some (s0, g)
def mf_Fa_productBits (a0 : Nat) (a1 : Nat) (g : wm_Sg) : Option (Int32 × wm_Sg) :=
  (mf_Ig_numberOfTrailingZeros (g a1 1) g).bind fun v3 => (mf_Ig_numberOfTrailingZeros (v3.2 a0 1) v3.2).bind fun v4 => if (fc_min ((v4.2 a0 0) + (v4.2 a1 0)) (fc_min ((g a0 0) + v3.1) ((v3.2 a1 0) + v4.1))) < (32 : Int32) then (mf_Fa_productBits_64 (fc_min (16 : Int32) (fc_min ((v4.2 a0 0) + (v4.2 a1 0)) (fc_min ((g a0 0) + v3.1) ((v3.2 a1 0) + v4.1)))) v4.2) else (mf_Fa_productBits_64 (32 : Int32) v4.2)
set_option maxHeartbeats 4000000 in
set_option maxRecDepth 100000 in
theorem mc_Fa_productBits {l : Launch} {G : wm_G} (a0 : Nat) (a1 : Nat) (g : wm_Sg) (v : (Int32 × wm_Sg)) (k0 : kd a0 = 3) (k1 : kd a1 = 3) (h : mf_Fa_productBits a0 a1 g = some v) : wm_Mi l G y_Fa_productBits ws_Fa_productBits 1 wm_n (wm_S G) [.ref (G.B + a0), .ref (G.B + a1)] g (fun r u => r = v.1 ∧ u = v.2) := by
  refine wm_in_i (cc := c_Fa_productBits) (maxL := 5) (by decide) rfl (Nat.le_of_ble_eq_true rfl) (fun X C _ E => ?_)
  have c_64 : ∀ (s0 : Int32) (g : wm_Sg), mf_Fa_productBits_64  s0 g = some v → wm_W G X 5 0 0 wm_n (wm_S G) g 64 [] [.int s0] := by
    intro s0 g h
    unfold mf_Fa_productBits_64 at h
    exact E _ _ _ _ d_Fa_productBits_64 (wk_ret h)
  unfold mf_Fa_productBits at h
  refine wm_aload_n C d_Fa_productBits_0 rfl ?_
  refine gt_3_0 C k0 (ws_in iw_3) (ws_1 mw_0_34) d_Fa_productBits_1 ?_
  refine wm_aload_n C d_Fa_productBits_4 rfl ?_
  refine gt_3_1 C k1 (ws_in iw_3) (ws_1 mw_0_37) d_Fa_productBits_5 ?_
  refine wk_bind h (fun v3 e3 h => wm_cSi (na := 1) C (mc_Ig_numberOfTrailingZeros (g a1 1) g v3 e3) (gc_Ig_numberOfTrailingZeros mw_1_67) rfl (by decide +kernel) rfl (by decide) (by decide) d_Fa_productBits_8 rfl (Nat.le_of_ble_eq_true rfl) (Nat.zero_le _) (Nat.zero_le _) (fun r3 u3 q3 => ?_))
  obtain ⟨rfl, rfl⟩ := q3
  refine wm_iadd C d_Fa_productBits_11 ?_
  refine wm_istore_n C d_Fa_productBits_12 (by decide) ?_
  refine wm_aload_n C d_Fa_productBits_13 rfl ?_
  refine gt_3_0 C k1 (ws_in iw_3) (ws_1 mw_0_34) d_Fa_productBits_14 ?_
  refine wm_aload_n C d_Fa_productBits_17 rfl ?_
  refine gt_3_1 C k0 (ws_in iw_3) (ws_1 mw_0_37) d_Fa_productBits_18 ?_
  refine wk_bind h (fun v4 e4 h => wm_cSi (na := 1) C (mc_Ig_numberOfTrailingZeros (v3.2 a0 1) v3.2 v4 e4) (gc_Ig_numberOfTrailingZeros mw_1_67) rfl (by decide +kernel) rfl (by decide) (by decide) d_Fa_productBits_21 rfl (Nat.le_of_ble_eq_true rfl) (Nat.zero_le _) (Nat.zero_le _) (fun r4 u4 q4 => ?_))
  obtain ⟨rfl, rfl⟩ := q4
  refine wm_iadd C d_Fa_productBits_24 ?_
  refine wm_istore_n C d_Fa_productBits_25 (by decide) ?_
  refine wm_aload_n C d_Fa_productBits_26 rfl ?_
  refine gt_3_0 C k0 (ws_in iw_3) (ws_1 mw_0_34) d_Fa_productBits_27 ?_
  refine wm_aload_n C d_Fa_productBits_30 rfl ?_
  refine gt_3_0 C k1 (ws_in iw_3) (ws_1 mw_0_34) d_Fa_productBits_31 ?_
  refine wm_iadd C d_Fa_productBits_34 ?_
  refine wm_iload_n C d_Fa_productBits_35 rfl ?_
  refine wm_iload_n C d_Fa_productBits_36 rfl ?_
  refine wk_mmin C d_Fa_productBits_37 (ws_1 mw_1_64) (ws_1 mw_1_65) (ws_1 mw_0_10) (ws_1 mw_1_66) (by decide) (Nat.le_of_ble_eq_true rfl) (Nat.zero_le _) (Nat.zero_le _) ?_
  refine wk_mmin C d_Fa_productBits_40 (ws_1 mw_1_64) (ws_1 mw_1_65) (ws_1 mw_0_10) (ws_1 mw_1_66) (by decide) (Nat.le_of_ble_eq_true rfl) (Nat.zero_le _) (Nat.zero_le _) ?_
  refine wm_istore C d_Fa_productBits_43 (by decide) ?_
  refine wm_iload C d_Fa_productBits_45 rfl ?_
  refine wm_bipush (v := (32 : Int32)) C d_Fa_productBits_47 (by decide) ?_
  refine wk_icmp_lt (tgt := 57) C d_Fa_productBits_49 rfl h (fun _ h => ?_) (fun _ h => ?_)
  · refine wm_bipush (v := (16 : Int32)) C d_Fa_productBits_57 (by decide) ?_
    refine wm_iload C d_Fa_productBits_59 rfl ?_
    refine wk_mmin C d_Fa_productBits_61 (ws_1 mw_1_64) (ws_1 mw_1_65) (ws_1 mw_0_10) (ws_1 mw_1_66) (by decide) (Nat.le_of_ble_eq_true rfl) (Nat.zero_le _) (Nat.zero_le _) ?_
    refine wk_cut (c_64 (fc_min (16 : Int32) (fc_min ((v4.2 a0 0) + (v4.2 a1 0)) (fc_min ((g a0 0) + v3.1) ((v3.2 a1 0) + v4.1)))) v4.2 h) ?_
    exact trivial
  · refine wm_bipush (v := (32 : Int32)) C d_Fa_productBits_52 (by decide) ?_
    refine wm_goto (tgt := 64) C d_Fa_productBits_54 rfl ?_
    refine wk_cut (c_64 (32 : Int32) v4.2 h) ?_
    exact trivial
/-! FactFlow$Fact.otherBits(ILFactFlow$Fact;LFactFlow$Fact;)I -/
def mf_Fa_otherBits_28 (s0 : Int32) (g : wm_Sg) : Option (Int32 × wm_Sg) :=
  some (s0, g)
def mf_Fa_otherBits_27 (b3 : Int32) (g : wm_Sg) : Option (Int32 × wm_Sg) :=
  mf_Fa_otherBits_28 b3 g
def mf_Fa_otherBits (a0 : Int32) (a1 : Nat) (a2 : Nat) (g : wm_Sg) : Option (Int32 × wm_Sg) :=
  if a0 = (5 : Int32) then (if (fc_min (g a1 0) (g a2 0)) = (32 : Int32) then (mf_Fa_otherBits_27 (fc_min (g a1 0) (g a2 0)) g) else (mf_Fa_otherBits_28 (0 : Int32) g)) else (mf_Fa_otherBits_27 (fc_min (g a1 0) (g a2 0)) g)
set_option maxHeartbeats 4000000 in
set_option maxRecDepth 100000 in
theorem mc_Fa_otherBits {l : Launch} {G : wm_G} (a0 : Int32) (a1 : Nat) (a2 : Nat) (g : wm_Sg) (v : (Int32 × wm_Sg)) (k1 : kd a1 = 3) (k2 : kd a2 = 3) (h : mf_Fa_otherBits a0 a1 a2 g = some v) : wm_Mi l G y_Fa_otherBits ws_Fa_otherBits 1 wm_n (wm_S G) [.int a0, .ref (G.B + a1), .ref (G.B + a2)] g (fun r u => r = v.1 ∧ u = v.2) := by
  refine wm_in_i (cc := c_Fa_otherBits) (maxL := 4) (by decide) rfl (Nat.le_of_ble_eq_true rfl) (fun X C _ E => ?_)
  have c_28 : ∀ (s0 : Int32) (g : wm_Sg), mf_Fa_otherBits_28  s0 g = some v → wm_W G X 4 0 0 wm_n (wm_S G) g 28 [] [.int s0] := by
    intro s0 g h
    unfold mf_Fa_otherBits_28 at h
    exact E _ _ _ _ d_Fa_otherBits_28 (wk_ret h)
  have c_27 : ∀ (b3 : Int32) (g : wm_Sg), mf_Fa_otherBits_27 b3 g = some v → wm_W G X 4 0 0 wm_n (wm_S G) g 27 [(3, .int b3)] [] := by
    intro b3 g h
    unfold mf_Fa_otherBits_27 at h
    refine wm_iload_n C d_Fa_otherBits_27 rfl ?_
    refine wk_cut (c_28 b3 g h) ?_
    exact trivial
  unfold mf_Fa_otherBits at h
  refine wm_aload_n C d_Fa_otherBits_0 rfl ?_
  refine gt_3_0 C k1 (ws_in iw_3) (ws_1 mw_0_34) d_Fa_otherBits_1 ?_
  refine wm_aload_n C d_Fa_otherBits_4 rfl ?_
  refine gt_3_0 C k2 (ws_in iw_3) (ws_1 mw_0_34) d_Fa_otherBits_5 ?_
  refine wk_mmin C d_Fa_otherBits_8 (ws_1 mw_1_64) (ws_1 mw_1_65) (ws_1 mw_0_10) (ws_1 mw_1_66) (by decide) (Nat.le_of_ble_eq_true rfl) (Nat.zero_le _) (Nat.zero_le _) ?_
  refine wm_istore_n C d_Fa_otherBits_11 (by decide) ?_
  refine wm_iload_n C d_Fa_otherBits_12 rfl ?_
  refine wm_iconst (v := (5 : Int32)) C d_Fa_otherBits_13 (by decide) ?_
  refine wk_icmp_ne (tgt := 27) C d_Fa_otherBits_14 rfl h (fun _ h => ?_) (fun _ h => ?_)
  · refine wm_iload_n C d_Fa_otherBits_17 rfl ?_
    refine wm_bipush (v := (32 : Int32)) C d_Fa_otherBits_18 (by decide) ?_
    refine wk_icmp_eq (tgt := 27) C d_Fa_otherBits_20 rfl h (fun _ h => ?_) (fun _ h => ?_)
    · refine wk_cut (c_27 (fc_min (g a1 0) (g a2 0)) g h) ?_
      exact ⟨rfl, trivial⟩
    · refine wm_iconst (v := (0 : Int32)) C d_Fa_otherBits_23 (by decide) ?_
      refine wm_goto (tgt := 28) C d_Fa_otherBits_24 rfl ?_
      refine wk_cut (c_28 (0 : Int32) g h) ?_
      exact trivial
  · refine wk_cut (c_27 (fc_min (g a1 0) (g a2 0)) g h) ?_
    exact ⟨rfl, trivial⟩
/-! FactFlow.calculated(III)I -/
def mf_Ff_calculated_51 (s0 : Int32) (g : wm_Sg) : Option (Int32 × wm_Sg) :=
  some (s0, g)
def mf_Ff_calculated (a0 : Int32) (a1 : Int32) (a2 : Int32) (g : wm_Sg) : Option (Int32 × wm_Sg) :=
  if a0 = (2 : Int32) then (some ((a1 + a2), g)) else if a0 = (3 : Int32) then (some ((a1 - a2), g)) else if a0 = (4 : Int32) then (some ((a1 * a2), g)) else (if a2 = (0 : Int32) then (mf_Ff_calculated_51 (0 : Int32) g) else (if a2 = (0 : Int32) then none else mf_Ff_calculated_51 (a1 / a2) g))
set_option maxHeartbeats 4000000 in
set_option maxRecDepth 100000 in
theorem mc_Ff_calculated {l : Launch} {G : wm_G} (a0 : Int32) (a1 : Int32) (a2 : Int32) (g : wm_Sg) (v : (Int32 × wm_Sg)) (h : mf_Ff_calculated a0 a1 a2 g = some v) : wm_Mi l G y_Ff_calculated ws_Ff_calculated 0 wm_n (wm_S G) [.int a0, .int a1, .int a2] g (fun r u => r = v.1 ∧ u = v.2) := by
  refine wm_in_i (cc := c_Ff_calculated) (maxL := 3) (by decide) rfl (Nat.le_of_ble_eq_true rfl) (fun X C _ E => ?_)
  have c_51 : ∀ (s0 : Int32) (g : wm_Sg), mf_Ff_calculated_51  s0 g = some v → wm_W G X 3 0 0 wm_n (wm_S G) g 51 [] [.int s0] := by
    intro s0 g h
    unfold mf_Ff_calculated_51 at h
    exact E _ _ _ _ d_Ff_calculated_51 (wk_ret h)
  unfold mf_Ff_calculated at h
  refine wm_iload_n C d_Ff_calculated_0 rfl ?_
  refine wk_ite h (fun w4 h => ?_) (fun w4 h => ?_)
  · refine wk_tableEq (tgt := 28) C d_Ff_calculated_1 w4 (by decide) (by decide) rfl rfl ?_
    refine wm_iload_n C d_Ff_calculated_28 rfl ?_
    refine wm_iload_n C d_Ff_calculated_29 rfl ?_
    refine wm_iadd C d_Ff_calculated_30 ?_
    exact E _ _ _ _ d_Ff_calculated_31 (wk_ret h)
  · refine wk_ite h (fun w5 h => ?_) (fun w5 h => ?_)
    · refine wk_tableEq (tgt := 32) C d_Ff_calculated_1 w5 (by decide) (by decide) rfl rfl ?_
      refine wm_iload_n C d_Ff_calculated_32 rfl ?_
      refine wm_iload_n C d_Ff_calculated_33 rfl ?_
      refine wm_isub C d_Ff_calculated_34 ?_
      exact E _ _ _ _ d_Ff_calculated_35 (wk_ret h)
    · refine wk_ite h (fun w6 h => ?_) (fun w6 h => ?_)
      · refine wk_tableEq (tgt := 36) C d_Ff_calculated_1 w6 (by decide) (by decide) rfl rfl ?_
        refine wm_iload_n C d_Ff_calculated_36 rfl ?_
        refine wm_iload_n C d_Ff_calculated_37 rfl ?_
        refine wm_imul C d_Ff_calculated_38 ?_
        exact E _ _ _ _ d_Ff_calculated_39 (wk_ret h)
      · have w4 := wk_nt (z := 2) w4 (by decide)
        have w5 := wk_nt (z := 3) w5 (by decide)
        have w6 := wk_nt (z := 4) w6 (by decide)
        refine wm_tableOut (tgt := 40) C d_Ff_calculated_1 (by omega) rfl ?_
        refine wm_iload_n C d_Ff_calculated_40 rfl ?_
        refine wk_if_ne (tgt := 48) C d_Ff_calculated_41 rfl h (fun _ h => ?_) (fun _ h => ?_)
        · refine wm_iconst (v := (0 : Int32)) C d_Ff_calculated_44 (by decide) ?_
          refine wm_goto (tgt := 51) C d_Ff_calculated_45 rfl ?_
          refine wk_cut (c_51 (0 : Int32) g h) ?_
          exact trivial
        · refine wm_iload_n C d_Ff_calculated_48 rfl ?_
          refine wm_iload_n C d_Ff_calculated_49 rfl ?_
          refine wk_idiv C d_Ff_calculated_50 h (fun h => ?_)
          refine wk_cut (c_51 (a1 / a2) g h) ?_
          exact trivial
/-! FactFlow$Fact.signTable(I)[I -/
def mf_Fa_signTable (a0 : Int32) (g : wm_Sg) : Option (Nat × wm_Sg) :=
  if a0 = (2 : Int32) then (some (0, g)) else if a0 = (3 : Int32) then (some (1, g)) else if a0 = (4 : Int32) then (some (2, g)) else (some (3, g))
set_option maxHeartbeats 4000000 in
set_option maxRecDepth 100000 in
theorem mc_Fa_signTable {l : Launch} {G : wm_G} (a0 : Int32) (g : wm_Sg) (v : (Nat × wm_Sg)) (h : mf_Fa_signTable a0 g = some v) : wm_Mr l G y_Fa_signTable ws_Fa_signTable 0 wm_n (wm_S G) [.int a0] g (fun r u => r = G.2.2.2 v.1 ∧ u = v.2) := by
  refine wm_in_r (cc := c_Fa_signTable) (maxL := 1) (rt := .array .int) (Or.inr ⟨_, rfl⟩) (by decide) rfl (Nat.le_of_ble_eq_true rfl) (fun X C _ E => ?_)
  unfold mf_Fa_signTable at h
  refine wm_iload_n C d_Fa_signTable_0 rfl ?_
  refine wk_ite h (fun w4 h => ?_) (fun w4 h => ?_)
  · refine wk_tableEq (tgt := 28) C d_Fa_signTable_1 w4 (by decide) (by decide) rfl rfl ?_
    refine wm_gets C 0 (by decide) d_Fa_signTable_28 rfl (ws_1 mw_1_106) ?_
    exact E _ _ _ _ d_Fa_signTable_31 (wk_retr h)
  · refine wk_ite h (fun w5 h => ?_) (fun w5 h => ?_)
    · refine wk_tableEq (tgt := 32) C d_Fa_signTable_1 w5 (by decide) (by decide) rfl rfl ?_
      refine wm_gets C 1 (by decide) d_Fa_signTable_32 rfl (ws_1 mw_1_108) ?_
      exact E _ _ _ _ d_Fa_signTable_35 (wk_retr h)
    · refine wk_ite h (fun w6 h => ?_) (fun w6 h => ?_)
      · refine wk_tableEq (tgt := 36) C d_Fa_signTable_1 w6 (by decide) (by decide) rfl rfl ?_
        refine wm_gets C 2 (by decide) d_Fa_signTable_36 rfl (ws_1 mw_1_110) ?_
        exact E _ _ _ _ d_Fa_signTable_39 (wk_retr h)
      · have w4 := wk_nt (z := 2) w4 (by decide)
        have w5 := wk_nt (z := 3) w5 (by decide)
        have w6 := wk_nt (z := 4) w6 (by decide)
        refine wm_tableOut (tgt := 40) C d_Fa_signTable_1 (by omega) rfl ?_
        refine wm_gets C 3 (by decide) d_Fa_signTable_40 rfl (ws_1 mw_1_112) ?_
        exact E _ _ _ _ d_Fa_signTable_43 (wk_retr h)
/-! FactFlow$Fact.resultSigns([III)I -/
def mf_Fa_resultSigns_46 (K5 : Int32 × Int32 × wm_Sg → Option (Int32 × wm_Sg)) (K14 : Int32 × Int32 × wm_Sg → Option (Int32 × wm_Sg)) (b0 : Nat) (b1 : Int32) (b2 : Int32) (b3 : Int32) (b4 : Int32) (b5 : Int32) (g : wm_Sg) : Option (Int32 × wm_Sg) :=
  K14 (b3, (b5 + (1 : Int32)), g)
def mf_Fa_resultSigns_14 (K5 : Int32 × Int32 × wm_Sg → Option (Int32 × wm_Sg)) (b0 : Nat) (b1 : Int32) (b2 : Int32) (b4 : Int32) (K14 : Int32 × Int32 × wm_Sg → Option (Int32 × wm_Sg)) (a : Int32 × Int32 × wm_Sg) : Option (Int32 × wm_Sg) :=
  if (3 : Int32) ≤ a.2.1 then (K5 (a.1, (b4 + (1 : Int32)), a.2.2)) else (if (((b1 >>> (b4 &&& 31)) &&& (b2 >>> (a.2.1 &&& 31))) &&& (1 : Int32)) = (0 : Int32) then (mf_Fa_resultSigns_46 K5 K14 b0 b1 b2 a.1 b4 a.2.1 a.2.2) else (if (((3 : Int32) * b4) + a.2.1) < 0 ∨ 9 ≤ ((((3 : Int32) * b4) + a.2.1)).toNatClampNeg then none else mf_Fa_resultSigns_46 K5 K14 b0 b1 b2 (a.1 ||| (fc_tab b0 ((((3 : Int32) * b4) + a.2.1)).toNatClampNeg)) b4 a.2.1 a.2.2))
def mf_Fa_resultSigns_5 (b0 : Nat) (b1 : Int32) (b2 : Int32) (K5 : Int32 × Int32 × wm_Sg → Option (Int32 × wm_Sg)) (a : Int32 × Int32 × wm_Sg) : Option (Int32 × wm_Sg) :=
  if (3 : Int32) ≤ a.2.1 then (some (a.1, a.2.2)) else (lp_it (mf_Fa_resultSigns_14 K5 b0 b1 b2 a.2.1) 2100 (a.1, (0 : Int32), a.2.2))
def mf_Fa_resultSigns (a0 : Nat) (a1 : Int32) (a2 : Int32) (g : wm_Sg) : Option (Int32 × wm_Sg) :=
  lp_it (mf_Fa_resultSigns_5 a0 a1 a2) 2100 ((0 : Int32), (0 : Int32), g)
set_option maxHeartbeats 4000000 in
set_option maxRecDepth 100000 in
theorem mc_Fa_resultSigns {l : Launch} {G : wm_G} (a0 : Nat) (a1 : Int32) (a2 : Int32) (g : wm_Sg) (v : (Int32 × wm_Sg)) (k0 : a0 < 4) (h : mf_Fa_resultSigns a0 a1 a2 g = some v) : wm_Mi l G y_Fa_resultSigns ws_Fa_resultSigns 0 wm_n (wm_S G) [.ref (G.2.2.2 a0), .int a1, .int a2] g (fun r u => r = v.1 ∧ u = v.2) := by
  refine wm_in_i (cc := c_Fa_resultSigns) (maxL := 6) (by decide) rfl (Nat.le_of_ble_eq_true rfl) (fun X C _ E => ?_)
  have c_46 : ∀ (b0 : Nat) (b1 : Int32) (b2 : Int32) (b3 : Int32) (b4 : Int32) (b5 : Int32) (k0 : b0 < 4) (K5 : Int32 × Int32 × wm_Sg → Option (Int32 × wm_Sg)) (hK5 : ∀ a : Int32 × Int32 × wm_Sg, K5 a = some v → wm_W G X 6 0 0 wm_n (wm_S G) a.2.2 5 [(0, .ref (G.2.2.2 b0)), (1, .int b1), (2, .int b2), (3, .int a.1), (4, .int a.2.1)] []) (K14 : Int32 × Int32 × wm_Sg → Option (Int32 × wm_Sg)) (hK14 : ∀ a : Int32 × Int32 × wm_Sg, K14 a = some v → wm_W G X 6 0 0 wm_n (wm_S G) a.2.2 14 [(0, .ref (G.2.2.2 b0)), (1, .int b1), (2, .int b2), (3, .int a.1), (4, .int b4), (5, .int a.2.1)] []) (g : wm_Sg), mf_Fa_resultSigns_46 K5 K14 b0 b1 b2 b3 b4 b5 g = some v → wm_W G X 6 0 0 wm_n (wm_S G) g 46 [(0, .ref (G.2.2.2 b0)), (1, .int b1), (2, .int b2), (3, .int b3), (4, .int b4), (5, .int b5)] [] := by
    intro b0 b1 b2 b3 b4 b5 k0 K5 hK5 K14 hK14 g h
    unfold mf_Fa_resultSigns_46 at h
    refine wk_iinc C (1 : Int32) d_Fa_resultSigns_46 (by decide) rfl (by decide) ?_
    refine wm_goto (tgt := 14) C d_Fa_resultSigns_49 rfl ?_
    refine wk_cut (hK14 (b3, (b5 + (1 : Int32)), g) h) ?_
    exact ⟨rfl, rfl, rfl, rfl, rfl, rfl, trivial⟩
  have c_14 : ∀ (b0 : Nat) (b1 : Int32) (b2 : Int32) (b4 : Int32) (k0 : b0 < 4) (K5 : Int32 × Int32 × wm_Sg → Option (Int32 × wm_Sg)) (hK5 : ∀ a : Int32 × Int32 × wm_Sg, K5 a = some v → wm_W G X 6 0 0 wm_n (wm_S G) a.2.2 5 [(0, .ref (G.2.2.2 b0)), (1, .int b1), (2, .int b2), (3, .int a.1), (4, .int a.2.1)] []) (f : Nat) (a : Int32 × Int32 × wm_Sg), lp_it (mf_Fa_resultSigns_14 K5 b0 b1 b2 b4) f a = some v → wm_W G X 6 0 0 wm_n (wm_S G) a.2.2 14 [(0, .ref (G.2.2.2 b0)), (1, .int b1), (2, .int b2), (3, .int a.1), (4, .int b4), (5, .int a.2.1)] [] := by
    intro b0 b1 b2 b4 k0 K5 hK5 f
    induction f with
    | zero => intro a h; cases h
    | succ f hK14 =>
      intro a h
      have h : mf_Fa_resultSigns_14 K5 b0 b1 b2 b4 (lp_it (mf_Fa_resultSigns_14 K5 b0 b1 b2 b4) f) a = some v := h
      unfold mf_Fa_resultSigns_14 at h
      refine wm_iload C d_Fa_resultSigns_14 rfl ?_
      refine wm_iconst (v := (3 : Int32)) C d_Fa_resultSigns_16 (by decide) ?_
      refine wk_icmp_ge (tgt := 52) C d_Fa_resultSigns_17 rfl h (fun _ h => ?_) (fun _ h => ?_)
      · refine wk_iinc C (1 : Int32) d_Fa_resultSigns_52 (by decide) rfl (by decide) ?_
        refine wm_goto (tgt := 5) C d_Fa_resultSigns_55 rfl ?_
        refine wk_cut (hK5 (a.1, (b4 + (1 : Int32)), a.2.2) h) ?_
        exact ⟨rfl, rfl, rfl, rfl, rfl, trivial⟩
      · refine wm_iload_n C d_Fa_resultSigns_20 rfl ?_
        refine wm_iload C d_Fa_resultSigns_21 rfl ?_
        refine wm_ishr C d_Fa_resultSigns_23 ?_
        refine wm_iload_n C d_Fa_resultSigns_24 rfl ?_
        refine wm_iload C d_Fa_resultSigns_25 rfl ?_
        refine wm_ishr C d_Fa_resultSigns_27 ?_
        refine wm_iand C d_Fa_resultSigns_28 ?_
        refine wm_iconst (v := (1 : Int32)) C d_Fa_resultSigns_29 (by decide) ?_
        refine wm_iand C d_Fa_resultSigns_30 ?_
        refine wk_if_eq (tgt := 46) C d_Fa_resultSigns_31 rfl h (fun _ h => ?_) (fun _ h => ?_)
        · refine wk_cut (c_46 b0 b1 b2 a.1 b4 a.2.1 k0 K5 hK5 _ hK14 a.2.2 h) ?_
          exact ⟨rfl, rfl, rfl, rfl, rfl, rfl, trivial⟩
        · refine wm_iload_n C d_Fa_resultSigns_34 rfl ?_
          refine wm_aload_n C d_Fa_resultSigns_35 rfl ?_
          refine wm_iconst (v := (3 : Int32)) C d_Fa_resultSigns_36 (by decide) ?_
          refine wm_iload C d_Fa_resultSigns_37 rfl ?_
          refine wm_imul C d_Fa_resultSigns_39 ?_
          refine wm_iload C d_Fa_resultSigns_40 rfl ?_
          refine wm_iadd C d_Fa_resultSigns_42 ?_
          refine wk_tab C k0 d_Fa_resultSigns_43 h (fun h => ?_)
          refine wm_ior C d_Fa_resultSigns_44 ?_
          refine wm_istore_n C d_Fa_resultSigns_45 (by decide) ?_
          refine wk_cut (c_46 b0 b1 b2 (a.1 ||| (fc_tab b0 ((((3 : Int32) * b4) + a.2.1)).toNatClampNeg)) b4 a.2.1 k0 K5 hK5 _ hK14 a.2.2 h) ?_
          exact ⟨rfl, rfl, rfl, rfl, rfl, rfl, trivial⟩
  have c_5 : ∀ (b0 : Nat) (b1 : Int32) (b2 : Int32) (k0 : b0 < 4) (f : Nat) (a : Int32 × Int32 × wm_Sg), lp_it (mf_Fa_resultSigns_5 b0 b1 b2) f a = some v → wm_W G X 6 0 0 wm_n (wm_S G) a.2.2 5 [(0, .ref (G.2.2.2 b0)), (1, .int b1), (2, .int b2), (3, .int a.1), (4, .int a.2.1)] [] := by
    intro b0 b1 b2 k0 f
    induction f with
    | zero => intro a h; cases h
    | succ f hK5 =>
      intro a h
      have h : mf_Fa_resultSigns_5 b0 b1 b2 (lp_it (mf_Fa_resultSigns_5 b0 b1 b2) f) a = some v := h
      unfold mf_Fa_resultSigns_5 at h
      refine wm_iload C d_Fa_resultSigns_5 rfl ?_
      refine wm_iconst (v := (3 : Int32)) C d_Fa_resultSigns_7 (by decide) ?_
      refine wk_icmp_ge (tgt := 58) C d_Fa_resultSigns_8 rfl h (fun _ h => ?_) (fun _ h => ?_)
      · refine wm_iload_n C d_Fa_resultSigns_58 rfl ?_
        exact E _ _ _ _ d_Fa_resultSigns_59 (wk_ret h)
      · refine wm_iconst (v := (0 : Int32)) C d_Fa_resultSigns_11 (by decide) ?_
        refine wm_istore C d_Fa_resultSigns_12 (by decide) ?_
        refine wk_cut (c_14 b0 b1 b2 a.2.1 k0 _ hK5 2100 (a.1, (0 : Int32), a.2.2) h) ?_
        exact ⟨rfl, rfl, rfl, rfl, rfl, rfl, trivial⟩
  unfold mf_Fa_resultSigns at h
  refine wm_iconst (v := (0 : Int32)) C d_Fa_resultSigns_0 (by decide) ?_
  refine wm_istore_n C d_Fa_resultSigns_1 (by decide) ?_
  refine wm_iconst (v := (0 : Int32)) C d_Fa_resultSigns_2 (by decide) ?_
  refine wm_istore C d_Fa_resultSigns_3 (by decide) ?_
  refine wk_cut (c_5 a0 a1 a2 k0 2100 ((0 : Int32), (0 : Int32), g) h) ?_
  exact ⟨rfl, rfl, rfl, rfl, rfl, trivial⟩
/-! FactFlow$Fact.becomeResult(ILFactFlow$Fact;LFactFlow$Fact;)V -/
def mf_Fa_becomeResult_42 (b0 : Nat) (b1 : Int32) (b2 : Nat) (b3 : Nat) (b4 : Int32) (s0 : Int32) (g : wm_Sg) : Option wm_Sg :=
  (mf_Fa_signTable b1 g).bind fun v15 => if 4 ≤ v15.1 then none else (mf_Fa_resultSigns v15.1 (v15.2 b2 2) (v15.2 b3 2) v15.2).bind fun v17 => (mf_Fa_lastBits s0 b4 (wm_u v17.2 b0 0 b4)).bind fun v18 => (mf_Fa_reduce b0 (wm_u (wm_u v18.2 b0 1 v18.1) b0 2 v17.1)).bind fun v19 => some (v19)
def mf_Fa_becomeResult_19 (b0 : Nat) (b1 : Int32) (b2 : Nat) (b3 : Nat) (s0 : Int32) (g : wm_Sg) : Option wm_Sg :=
  if s0 = (0 : Int32) then (mf_Fa_becomeResult_42 b0 b1 b2 b3 s0 (0 : Int32) g) else ((mf_Ff_calculated b1 (g b2 1) (g b3 1) g).bind fun v20 => mf_Fa_becomeResult_42 b0 b1 b2 b3 s0 v20.1 v20.2)
def mf_Fa_becomeResult (a0 : Nat) (a1 : Int32) (a2 : Nat) (a3 : Nat) (g : wm_Sg) : Option wm_Sg :=
  if a1 = (4 : Int32) then ((mf_Fa_productBits a2 a3 g).bind fun v21 => mf_Fa_becomeResult_19 a0 a1 a2 a3 v21.1 v21.2) else ((mf_Fa_otherBits a1 a2 a3 g).bind fun v22 => mf_Fa_becomeResult_19 a0 a1 a2 a3 v22.1 v22.2)
set_option maxHeartbeats 4000000 in
set_option maxRecDepth 100000 in
theorem mc_Fa_becomeResult {l : Launch} {G : wm_G} (a0 : Nat) (a1 : Int32) (a2 : Nat) (a3 : Nat) (g : wm_Sg) (v : wm_Sg) (k0 : kd a0 = 3) (k2 : kd a2 = 3) (k3 : kd a3 = 3) (h : mf_Fa_becomeResult a0 a1 a2 a3 g = some v) : wm_Mv l G y_Fa_becomeResult ws_Fa_becomeResult 2 wm_n (wm_S G) [.ref (G.B + a0), .int a1, .ref (G.B + a2), .ref (G.B + a3)] g (fun u => u = v) := by
  refine wm_in_v (cc := c_Fa_becomeResult) (maxL := 7) (by decide) rfl (Nat.le_of_ble_eq_true rfl) (fun X C _ E => ?_)
  have c_42 : ∀ (b0 : Nat) (b1 : Int32) (b2 : Nat) (b3 : Nat) (b4 : Int32) (s0 : Int32) (k0 : kd b0 = 3) (k2 : kd b2 = 3) (k3 : kd b3 = 3) (g : wm_Sg), mf_Fa_becomeResult_42 b0 b1 b2 b3 b4 s0 g = some v → wm_W G X 7 0 0 wm_n (wm_S G) g 42 [(0, .ref (G.B + b0)), (1, .int b1), (2, .ref (G.B + b2)), (3, .ref (G.B + b3)), (4, .int b4)] [.int s0] := by
    intro b0 b1 b2 b3 b4 s0 k0 k2 k3 g h
    unfold mf_Fa_becomeResult_42 at h
    refine wm_istore C d_Fa_becomeResult_42 (by decide) ?_
    refine wm_iload_n C d_Fa_becomeResult_44 rfl ?_
    refine wk_bind h (fun v15 e15 h => wm_cSr (na := 1) C (mc_Fa_signTable b1 g v15 e15) (gc_Fa_signTable mw_1_103) rfl (by decide +kernel) rfl (by decide) (by decide) d_Fa_becomeResult_45 rfl (Nat.le_of_ble_eq_true rfl) (Nat.zero_le _) (Nat.zero_le _) (fun r15 u15 q15 => ?_))
    obtain ⟨rfl, rfl⟩ := q15
    refine wk_no h (fun w16 h => ?_)
    refine wm_aload_n C d_Fa_becomeResult_48 rfl ?_
    refine gt_3_2 C k2 (ws_in iw_3) (ws_1 mw_0_40) d_Fa_becomeResult_49 ?_
    refine wm_aload_n C d_Fa_becomeResult_52 rfl ?_
    refine gt_3_2 C k3 (ws_in iw_3) (ws_1 mw_0_40) d_Fa_becomeResult_53 ?_
    refine wk_bind h (fun v17 e17 h => wm_cSi (na := 3) C (mc_Fa_resultSigns v15.1 (v15.2 b2 2) (v15.2 b3 2) v15.2 v17 (Nat.lt_of_not_le w16) e17) (gc_Fa_resultSigns mw_1_114) rfl (by decide +kernel) rfl (by decide) (by decide) d_Fa_becomeResult_56 rfl (Nat.le_of_ble_eq_true rfl) (Nat.zero_le _) (Nat.zero_le _) (fun r17 u17 q17 => ?_))
    obtain ⟨rfl, rfl⟩ := q17
    refine wm_istore C d_Fa_becomeResult_59 (by decide) ?_
    refine wm_aload_n C d_Fa_becomeResult_61 rfl ?_
    refine wm_iload C d_Fa_becomeResult_62 rfl ?_
    refine pt_3_0 C k0 (ws_in iw_3) (ws_1 mw_0_34) d_Fa_becomeResult_64 ?_
    refine wm_aload_n C d_Fa_becomeResult_67 rfl ?_
    refine wm_iload C d_Fa_becomeResult_68 rfl ?_
    refine wm_iload C d_Fa_becomeResult_70 rfl ?_
    refine wk_bind h (fun v18 e18 h => wm_cSi (na := 2) C (mc_Fa_lastBits s0 b4 (wm_u v17.2 b0 0 b4) v18 e18) (gc_Fa_lastBits mw_1_71) rfl (by decide +kernel) rfl (by decide) (by decide) d_Fa_becomeResult_72 rfl (Nat.le_of_ble_eq_true rfl) (Nat.zero_le _) (Nat.zero_le _) (fun r18 u18 q18 => ?_))
    obtain ⟨rfl, rfl⟩ := q18
    refine pt_3_1 C k0 (ws_in iw_3) (ws_1 mw_0_37) d_Fa_becomeResult_75 ?_
    refine wm_aload_n C d_Fa_becomeResult_78 rfl ?_
    refine wm_iload C d_Fa_becomeResult_79 rfl ?_
    refine pt_3_2 C k0 (ws_in iw_3) (ws_1 mw_0_40) d_Fa_becomeResult_81 ?_
    refine wm_aload_n C d_Fa_becomeResult_84 rfl ?_
    refine wk_bind h (fun v19 e19 h => wm_cVv (ci := 3) (q := (Rn_3, Tn_3, 3)) (na := 0) C (mc_Fa_reduce b0 (wm_u (wm_u v18.2 b0 1 v18.1) b0 2 v17.1) v19 k0 e19) (gc_Fa_reduce mw_1_34) (kd_lt (by rw [k0]; decide)) rfl ⟨_, wm_S_3 k0 _⟩ rfl rfl (by decide +kernel) rfl (by decide) (by decide) d_Fa_becomeResult_85 rfl (Nat.le_of_ble_eq_true rfl) (Nat.zero_le _) (Nat.zero_le _) (fun u19 q19 => ?_))
    subst u19
    exact E _ _ _ d_Fa_becomeResult_88 (Option.some.inj h)
  have c_19 : ∀ (b0 : Nat) (b1 : Int32) (b2 : Nat) (b3 : Nat) (s0 : Int32) (k0 : kd b0 = 3) (k2 : kd b2 = 3) (k3 : kd b3 = 3) (g : wm_Sg), mf_Fa_becomeResult_19 b0 b1 b2 b3 s0 g = some v → wm_W G X 7 0 0 wm_n (wm_S G) g 19 [(0, .ref (G.B + b0)), (1, .int b1), (2, .ref (G.B + b2)), (3, .ref (G.B + b3))] [.int s0] := by
    intro b0 b1 b2 b3 s0 k0 k2 k3 g h
    unfold mf_Fa_becomeResult_19 at h
    refine wm_istore C d_Fa_becomeResult_19 (by decide) ?_
    refine wm_iload C d_Fa_becomeResult_21 rfl ?_
    refine wk_if_ne (tgt := 30) C d_Fa_becomeResult_23 rfl h (fun _ h => ?_) (fun _ h => ?_)
    · refine wm_iconst (v := (0 : Int32)) C d_Fa_becomeResult_26 (by decide) ?_
      refine wm_goto (tgt := 42) C d_Fa_becomeResult_27 rfl ?_
      refine wk_cut (c_42 b0 b1 b2 b3 s0 (0 : Int32) k0 k2 k3 g h) ?_
      exact ⟨rfl, rfl, rfl, rfl, rfl, trivial⟩
    · refine wm_iload_n C d_Fa_becomeResult_30 rfl ?_
      refine wm_aload_n C d_Fa_becomeResult_31 rfl ?_
      refine gt_3_1 C k2 (ws_in iw_3) (ws_1 mw_0_37) d_Fa_becomeResult_32 ?_
      refine wm_aload_n C d_Fa_becomeResult_35 rfl ?_
      refine gt_3_1 C k3 (ws_in iw_3) (ws_1 mw_0_37) d_Fa_becomeResult_36 ?_
      refine wk_bind h (fun v20 e20 h => wm_cNi (na := 3) C (mc_Ff_calculated b1 (g b2 1) (g b3 1) g v20 e20) gn_Ff_calculated (List.mem_of_getElem? (i := 6) rfl) (ws_1 mw_1_101) (ws_1 mw_0_1) rfl (by decide +kernel) rfl (by decide) (by decide) d_Fa_becomeResult_39 rfl (Nat.le_of_ble_eq_true rfl) (Nat.zero_le _) (Nat.zero_le _) (fun r20 u20 q20 => ?_))
      obtain ⟨rfl, rfl⟩ := q20
      refine wk_cut (c_42 b0 b1 b2 b3 s0 v20.1 k0 k2 k3 v20.2 h) ?_
      exact ⟨rfl, rfl, rfl, rfl, rfl, trivial⟩
  unfold mf_Fa_becomeResult at h
  refine wm_iload_n C d_Fa_becomeResult_0 rfl ?_
  refine wm_iconst (v := (4 : Int32)) C d_Fa_becomeResult_1 (by decide) ?_
  refine wk_icmp_ne (tgt := 13) C d_Fa_becomeResult_2 rfl h (fun _ h => ?_) (fun _ h => ?_)
  · refine wm_aload_n C d_Fa_becomeResult_5 rfl ?_
    refine wm_aload_n C d_Fa_becomeResult_6 rfl ?_
    refine wk_bind h (fun v21 e21 h => wm_cSi (na := 2) C (mc_Fa_productBits a2 a3 g v21 k2 k3 e21) (gc_Fa_productBits mw_1_94) rfl (by decide +kernel) rfl (by decide) (by decide) d_Fa_becomeResult_7 rfl (Nat.le_of_ble_eq_true rfl) (Nat.zero_le _) (Nat.zero_le _) (fun r21 u21 q21 => ?_))
    obtain ⟨rfl, rfl⟩ := q21
    refine wm_goto (tgt := 19) C d_Fa_becomeResult_10 rfl ?_
    refine wk_cut (c_19 a0 a1 a2 a3 v21.1 k0 k2 k3 v21.2 h) ?_
    exact ⟨rfl, rfl, rfl, rfl, trivial⟩
  · refine wm_iload_n C d_Fa_becomeResult_13 rfl ?_
    refine wm_aload_n C d_Fa_becomeResult_14 rfl ?_
    refine wm_aload_n C d_Fa_becomeResult_15 rfl ?_
    refine wk_bind h (fun v22 e22 h => wm_cSi (na := 3) C (mc_Fa_otherBits a1 a2 a3 g v22 k2 k3 e22) (gc_Fa_otherBits mw_1_97) rfl (by decide +kernel) rfl (by decide) (by decide) d_Fa_becomeResult_16 rfl (Nat.le_of_ble_eq_true rfl) (Nat.zero_le _) (Nat.zero_le _) (fun r22 u22 q22 => ?_))
    obtain ⟨rfl, rfl⟩ := q22
    refine wk_cut (c_19 a0 a1 a2 a3 v22.1 k0 k2 k3 v22.2 h) ?_
    exact ⟨rfl, rfl, rfl, rfl, trivial⟩
