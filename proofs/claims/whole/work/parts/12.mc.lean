/-! FactFlow$Fact.becomeAnything()V -/
def mf_Fa_becomeAnything (a0 : Nat) (g : wm_Sg) : Option wm_Sg :=
  some (wm_u (wm_u (wm_u g a0 0 (0 : Int32)) a0 1 (0 : Int32)) a0 2 (7 : Int32))
set_option maxHeartbeats 4000000 in
set_option maxRecDepth 100000 in
theorem mc_Fa_becomeAnything {l : Launch} {G : wm_G} (a0 : Nat) (g : wm_Sg) (v : wm_Sg) (k0 : kd a0 = 3) (h : mf_Fa_becomeAnything a0 g = some v) : wm_Mv l G y_Fa_becomeAnything ws_Fa_becomeAnything 0 wm_n (wm_S G) [.ref (G.B + a0)] g (fun u => u = v) := by
  refine wm_in_v (cc := c_Fa_becomeAnything) (maxL := 1) (by decide) rfl (Nat.le_of_ble_eq_true rfl) (fun X C _ E => ?_)
  unfold mf_Fa_becomeAnything at h
  refine wm_aload_n C d_Fa_becomeAnything_0 rfl ?_
  refine wm_iconst (v := (0 : Int32)) C d_Fa_becomeAnything_1 (by decide) ?_
  refine pt_3_0 C k0 (ws_in iw_3) (ws_1 mw_0_34) d_Fa_becomeAnything_2 ?_
  refine wm_aload_n C d_Fa_becomeAnything_5 rfl ?_
  refine wm_iconst (v := (0 : Int32)) C d_Fa_becomeAnything_6 (by decide) ?_
  refine pt_3_1 C k0 (ws_in iw_3) (ws_1 mw_0_37) d_Fa_becomeAnything_7 ?_
  refine wm_aload_n C d_Fa_becomeAnything_10 rfl ?_
  refine wm_bipush (v := (7 : Int32)) C d_Fa_becomeAnything_11 (by decide) ?_
  refine pt_3_2 C k0 (ws_in iw_3) (ws_1 mw_0_40) d_Fa_becomeAnything_13 ?_
  exact E _ _ _ d_Fa_becomeAnything_16 (Option.some.inj h)
/-! FactFlow$State.goThrough(LFactFlow$Instruction;)V -/
def mf_St_goThrough_193  (g : wm_Sg) : Option wm_Sg :=
  some (g)
def mf_St_goThrough (a0 : Nat) (a1 : Nat) (g : wm_Sg) : Option wm_Sg :=
  if (g a1 0) = (0 : Int32) then (if (g a1 1) < 0 ∨ sh_n (sh_r a0 0) ≤ ((g a1 1)).toNatClampNeg then none else (mf_Fa_becomeNumber (sh_r (sh_r a0 0) ((g a1 1)).toNatClampNeg) (g a1 3) g).bind fun v33 => mf_St_goThrough_193 v33) else if (g a1 0) = (1 : Int32) then (if (g a1 1) < 0 ∨ sh_n (sh_r a0 0) ≤ ((g a1 1)).toNatClampNeg then none else if (g a1 2) < 0 ∨ sh_n (sh_r a0 0) ≤ ((g a1 2)).toNatClampNeg then none else (mf_Fa_becomeSame (sh_r (sh_r a0 0) ((g a1 1)).toNatClampNeg) (sh_r (sh_r a0 0) ((g a1 2)).toNatClampNeg) g).bind fun v37 => mf_St_goThrough_193 v37) else if (g a1 0) = (2 : Int32) then (if (g a1 1) < 0 ∨ sh_n (sh_r a0 0) ≤ ((g a1 1)).toNatClampNeg then none else if (g a1 2) < 0 ∨ sh_n (sh_r a0 0) ≤ ((g a1 2)).toNatClampNeg then none else if (g a1 3) < 0 ∨ sh_n (sh_r a0 0) ≤ ((g a1 3)).toNatClampNeg then none else (mf_Fa_becomeResult (sh_r (sh_r a0 0) ((g a1 1)).toNatClampNeg) (g a1 0) (sh_r (sh_r a0 0) ((g a1 2)).toNatClampNeg) (sh_r (sh_r a0 0) ((g a1 3)).toNatClampNeg) g).bind fun v42 => mf_St_goThrough_193 v42) else if (g a1 0) = (3 : Int32) then (if (g a1 1) < 0 ∨ sh_n (sh_r a0 0) ≤ ((g a1 1)).toNatClampNeg then none else if (g a1 2) < 0 ∨ sh_n (sh_r a0 0) ≤ ((g a1 2)).toNatClampNeg then none else if (g a1 3) < 0 ∨ sh_n (sh_r a0 0) ≤ ((g a1 3)).toNatClampNeg then none else (mf_Fa_becomeResult (sh_r (sh_r a0 0) ((g a1 1)).toNatClampNeg) (g a1 0) (sh_r (sh_r a0 0) ((g a1 2)).toNatClampNeg) (sh_r (sh_r a0 0) ((g a1 3)).toNatClampNeg) g).bind fun v47 => mf_St_goThrough_193 v47) else if (g a1 0) = (4 : Int32) then (if (g a1 1) < 0 ∨ sh_n (sh_r a0 0) ≤ ((g a1 1)).toNatClampNeg then none else if (g a1 2) < 0 ∨ sh_n (sh_r a0 0) ≤ ((g a1 2)).toNatClampNeg then none else if (g a1 3) < 0 ∨ sh_n (sh_r a0 0) ≤ ((g a1 3)).toNatClampNeg then none else (mf_Fa_becomeResult (sh_r (sh_r a0 0) ((g a1 1)).toNatClampNeg) (g a1 0) (sh_r (sh_r a0 0) ((g a1 2)).toNatClampNeg) (sh_r (sh_r a0 0) ((g a1 3)).toNatClampNeg) g).bind fun v52 => mf_St_goThrough_193 v52) else if (g a1 0) = (5 : Int32) then ((mf_St_keepSigns a0 (g a1 3) (5 : Int32) g).bind fun v54 => if (v54 a0 1) = (0 : Int32) then (if (v54 a1 1) < 0 ∨ sh_n (sh_r a0 0) ≤ ((v54 a1 1)).toNatClampNeg then none else if (v54 a1 2) < 0 ∨ sh_n (sh_r a0 0) ≤ ((v54 a1 2)).toNatClampNeg then none else if (v54 a1 3) < 0 ∨ sh_n (sh_r a0 0) ≤ ((v54 a1 3)).toNatClampNeg then none else (mf_Fa_becomeResult (sh_r (sh_r a0 0) ((v54 a1 1)).toNatClampNeg) (5 : Int32) (sh_r (sh_r a0 0) ((v54 a1 2)).toNatClampNeg) (sh_r (sh_r a0 0) ((v54 a1 3)).toNatClampNeg) v54).bind fun v58 => mf_St_goThrough_193 v58) else (mf_St_goThrough_193 v54)) else if (g a1 0) = (6 : Int32) then (if (g a1 1) < 0 ∨ sh_n (sh_r a0 0) ≤ ((g a1 1)).toNatClampNeg then none else (mf_Fa_becomeAnything (sh_r (sh_r a0 0) ((g a1 1)).toNatClampNeg) g).bind fun v61 => mf_St_goThrough_193 v61) else (mf_St_goThrough_193 g)
set_option maxHeartbeats 4000000 in
set_option maxRecDepth 100000 in
theorem mc_St_goThrough {l : Launch} {G : wm_G} (a0 : Nat) (a1 : Nat) (g : wm_Sg) (v : wm_Sg) (k0 : kd a0 = 4) (k1 : kd a1 = 2) (h : mf_St_goThrough a0 a1 g = some v) : wm_Mv l G y_St_goThrough ws_St_goThrough 3 wm_n (wm_S G) [.ref (G.B + a0), .ref (G.B + a1)] g (fun u => u = v) := by
  refine wm_in_v (cc := c_St_goThrough) (maxL := 2) (by decide) rfl (Nat.le_of_ble_eq_true rfl) (fun X C _ E => ?_)
  have c_193 : ∀ (g : wm_Sg), mf_St_goThrough_193  g = some v → wm_W G X 2 0 0 wm_n (wm_S G) g 193 [] [] := by
    intro g h
    unfold mf_St_goThrough_193 at h
    exact E _ _ _ d_St_goThrough_193 (Option.some.inj h)
  unfold mf_St_goThrough at h
  refine wm_aload_n C d_St_goThrough_0 rfl ?_
  refine gt_2_0 C k1 (ws_in iw_2) (ws_1 mw_0_60) d_St_goThrough_1 ?_
  refine wk_ite h (fun w34 h => ?_) (fun w34 h => ?_)
  · refine wk_tableEq (tgt := 48) C d_St_goThrough_4 w34 (by decide) (by decide) rfl rfl ?_
    refine wm_aload_n C d_St_goThrough_48 rfl ?_
    refine gt_4_0 C k0 (ws_in iw_4) (ws_1 mw_0_115) d_St_goThrough_49 ?_
    refine wm_aload_n C d_St_goThrough_52 rfl ?_
    refine gt_2_1 C k1 (ws_in iw_2) (ws_1 mw_0_65) d_St_goThrough_53 ?_
    refine wk_no h (fun w32 h => ?_)
    refine wk_aald_23 C (kr_4_0 k0) w32 d_St_goThrough_56 ?_
    refine wm_aload_n C d_St_goThrough_57 rfl ?_
    refine gt_2_3 C k1 (ws_in iw_2) (ws_1 mw_0_74) d_St_goThrough_58 ?_
    refine wk_bind h (fun v33 e33 h => wm_cVv (ci := 3) (q := (Rn_3, Tn_3, 3)) (na := 1) C (mc_Fa_becomeNumber (sh_r (sh_r a0 0) ((g a1 1)).toNatClampNeg) (g a1 3) g v33 (kr_23 (kr_4_0 k0) w32) e33) (gc_Fa_becomeNumber mw_1_30) (kd_lt (by rw [(kr_23 (kr_4_0 k0) w32)]; decide)) rfl ⟨_, wm_S_3 (kr_23 (kr_4_0 k0) w32) _⟩ rfl rfl (by decide +kernel) rfl (by decide) (by decide) d_St_goThrough_61 rfl (Nat.le_of_ble_eq_true rfl) (Nat.zero_le _) (Nat.zero_le _) (fun u33 q33 => ?_))
    subst u33
    refine wm_goto (tgt := 193) C d_St_goThrough_64 rfl ?_
    refine wk_cut (c_193 v33 h) ?_
    exact trivial
  · refine wk_ite h (fun w38 h => ?_) (fun w38 h => ?_)
    · refine wk_tableEq (tgt := 67) C d_St_goThrough_4 w38 (by decide) (by decide) rfl rfl ?_
      refine wm_aload_n C d_St_goThrough_67 rfl ?_
      refine gt_4_0 C k0 (ws_in iw_4) (ws_1 mw_0_115) d_St_goThrough_68 ?_
      refine wm_aload_n C d_St_goThrough_71 rfl ?_
      refine gt_2_1 C k1 (ws_in iw_2) (ws_1 mw_0_65) d_St_goThrough_72 ?_
      refine wk_no h (fun w35 h => ?_)
      refine wk_aald_23 C (kr_4_0 k0) w35 d_St_goThrough_75 ?_
      refine wm_aload_n C d_St_goThrough_76 rfl ?_
      refine gt_4_0 C k0 (ws_in iw_4) (ws_1 mw_0_115) d_St_goThrough_77 ?_
      refine wm_aload_n C d_St_goThrough_80 rfl ?_
      refine gt_2_2 C k1 (ws_in iw_2) (ws_1 mw_0_69) d_St_goThrough_81 ?_
      refine wk_no h (fun w36 h => ?_)
      refine wk_aald_23 C (kr_4_0 k0) w36 d_St_goThrough_84 ?_
      refine wk_bind h (fun v37 e37 h => wm_cVv (ci := 3) (q := (Rn_3, Tn_3, 3)) (na := 1) C (mc_Fa_becomeSame (sh_r (sh_r a0 0) ((g a1 1)).toNatClampNeg) (sh_r (sh_r a0 0) ((g a1 2)).toNatClampNeg) g v37 (kr_23 (kr_4_0 k0) w35) (kr_23 (kr_4_0 k0) w36) e37) (gc_Fa_becomeSame mw_1_46) (kd_lt (by rw [(kr_23 (kr_4_0 k0) w35)]; decide)) rfl ⟨_, wm_S_3 (kr_23 (kr_4_0 k0) w35) _⟩ rfl rfl (by decide +kernel) rfl (by decide) (by decide) d_St_goThrough_85 rfl (Nat.le_of_ble_eq_true rfl) (Nat.zero_le _) (Nat.zero_le _) (fun u37 q37 => ?_))
      subst u37
      refine wm_goto (tgt := 193) C d_St_goThrough_88 rfl ?_
      refine wk_cut (c_193 v37 h) ?_
      exact trivial
    · refine wk_ite h (fun w43 h => ?_) (fun w43 h => ?_)
      · refine wk_tableEq (tgt := 91) C d_St_goThrough_4 w43 (by decide) (by decide) rfl rfl ?_
        refine wm_aload_n C d_St_goThrough_91 rfl ?_
        refine gt_4_0 C k0 (ws_in iw_4) (ws_1 mw_0_115) d_St_goThrough_92 ?_
        refine wm_aload_n C d_St_goThrough_95 rfl ?_
        refine gt_2_1 C k1 (ws_in iw_2) (ws_1 mw_0_65) d_St_goThrough_96 ?_
        refine wk_no h (fun w39 h => ?_)
        refine wk_aald_23 C (kr_4_0 k0) w39 d_St_goThrough_99 ?_
        refine wm_aload_n C d_St_goThrough_100 rfl ?_
        refine gt_2_0 C k1 (ws_in iw_2) (ws_1 mw_0_60) d_St_goThrough_101 ?_
        refine wm_aload_n C d_St_goThrough_104 rfl ?_
        refine gt_4_0 C k0 (ws_in iw_4) (ws_1 mw_0_115) d_St_goThrough_105 ?_
        refine wm_aload_n C d_St_goThrough_108 rfl ?_
        refine gt_2_2 C k1 (ws_in iw_2) (ws_1 mw_0_69) d_St_goThrough_109 ?_
        refine wk_no h (fun w40 h => ?_)
        refine wk_aald_23 C (kr_4_0 k0) w40 d_St_goThrough_112 ?_
        refine wm_aload_n C d_St_goThrough_113 rfl ?_
        refine gt_4_0 C k0 (ws_in iw_4) (ws_1 mw_0_115) d_St_goThrough_114 ?_
        refine wm_aload_n C d_St_goThrough_117 rfl ?_
        refine gt_2_3 C k1 (ws_in iw_2) (ws_1 mw_0_74) d_St_goThrough_118 ?_
        refine wk_no h (fun w41 h => ?_)
        refine wk_aald_23 C (kr_4_0 k0) w41 d_St_goThrough_121 ?_
        refine wk_bind h (fun v42 e42 h => wm_cVv (ci := 3) (q := (Rn_3, Tn_3, 3)) (na := 3) C (mc_Fa_becomeResult (sh_r (sh_r a0 0) ((g a1 1)).toNatClampNeg) (g a1 0) (sh_r (sh_r a0 0) ((g a1 2)).toNatClampNeg) (sh_r (sh_r a0 0) ((g a1 3)).toNatClampNeg) g v42 (kr_23 (kr_4_0 k0) w39) (kr_23 (kr_4_0 k0) w40) (kr_23 (kr_4_0 k0) w41) e42) (gc_Fa_becomeResult mw_1_90) (kd_lt (by rw [(kr_23 (kr_4_0 k0) w39)]; decide)) rfl ⟨_, wm_S_3 (kr_23 (kr_4_0 k0) w39) _⟩ rfl rfl (by decide +kernel) rfl (by decide) (by decide) d_St_goThrough_122 rfl (Nat.le_of_ble_eq_true rfl) (Nat.zero_le _) (Nat.zero_le _) (fun u42 q42 => ?_))
        subst u42
        refine wm_goto (tgt := 193) C d_St_goThrough_125 rfl ?_
        refine wk_cut (c_193 v42 h) ?_
        exact trivial
      · refine wk_ite h (fun w48 h => ?_) (fun w48 h => ?_)
        · refine wk_tableEq (tgt := 91) C d_St_goThrough_4 w48 (by decide) (by decide) rfl rfl ?_
          refine wm_aload_n C d_St_goThrough_91 rfl ?_
          refine gt_4_0 C k0 (ws_in iw_4) (ws_1 mw_0_115) d_St_goThrough_92 ?_
          refine wm_aload_n C d_St_goThrough_95 rfl ?_
          refine gt_2_1 C k1 (ws_in iw_2) (ws_1 mw_0_65) d_St_goThrough_96 ?_
          refine wk_no h (fun w44 h => ?_)
          refine wk_aald_23 C (kr_4_0 k0) w44 d_St_goThrough_99 ?_
          refine wm_aload_n C d_St_goThrough_100 rfl ?_
          refine gt_2_0 C k1 (ws_in iw_2) (ws_1 mw_0_60) d_St_goThrough_101 ?_
          refine wm_aload_n C d_St_goThrough_104 rfl ?_
          refine gt_4_0 C k0 (ws_in iw_4) (ws_1 mw_0_115) d_St_goThrough_105 ?_
          refine wm_aload_n C d_St_goThrough_108 rfl ?_
          refine gt_2_2 C k1 (ws_in iw_2) (ws_1 mw_0_69) d_St_goThrough_109 ?_
          refine wk_no h (fun w45 h => ?_)
          refine wk_aald_23 C (kr_4_0 k0) w45 d_St_goThrough_112 ?_
          refine wm_aload_n C d_St_goThrough_113 rfl ?_
          refine gt_4_0 C k0 (ws_in iw_4) (ws_1 mw_0_115) d_St_goThrough_114 ?_
          refine wm_aload_n C d_St_goThrough_117 rfl ?_
          refine gt_2_3 C k1 (ws_in iw_2) (ws_1 mw_0_74) d_St_goThrough_118 ?_
          refine wk_no h (fun w46 h => ?_)
          refine wk_aald_23 C (kr_4_0 k0) w46 d_St_goThrough_121 ?_
          refine wk_bind h (fun v47 e47 h => wm_cVv (ci := 3) (q := (Rn_3, Tn_3, 3)) (na := 3) C (mc_Fa_becomeResult (sh_r (sh_r a0 0) ((g a1 1)).toNatClampNeg) (g a1 0) (sh_r (sh_r a0 0) ((g a1 2)).toNatClampNeg) (sh_r (sh_r a0 0) ((g a1 3)).toNatClampNeg) g v47 (kr_23 (kr_4_0 k0) w44) (kr_23 (kr_4_0 k0) w45) (kr_23 (kr_4_0 k0) w46) e47) (gc_Fa_becomeResult mw_1_90) (kd_lt (by rw [(kr_23 (kr_4_0 k0) w44)]; decide)) rfl ⟨_, wm_S_3 (kr_23 (kr_4_0 k0) w44) _⟩ rfl rfl (by decide +kernel) rfl (by decide) (by decide) d_St_goThrough_122 rfl (Nat.le_of_ble_eq_true rfl) (Nat.zero_le _) (Nat.zero_le _) (fun u47 q47 => ?_))
          subst u47
          refine wm_goto (tgt := 193) C d_St_goThrough_125 rfl ?_
          refine wk_cut (c_193 v47 h) ?_
          exact trivial
        · refine wk_ite h (fun w53 h => ?_) (fun w53 h => ?_)
          · refine wk_tableEq (tgt := 91) C d_St_goThrough_4 w53 (by decide) (by decide) rfl rfl ?_
            refine wm_aload_n C d_St_goThrough_91 rfl ?_
            refine gt_4_0 C k0 (ws_in iw_4) (ws_1 mw_0_115) d_St_goThrough_92 ?_
            refine wm_aload_n C d_St_goThrough_95 rfl ?_
            refine gt_2_1 C k1 (ws_in iw_2) (ws_1 mw_0_65) d_St_goThrough_96 ?_
            refine wk_no h (fun w49 h => ?_)
            refine wk_aald_23 C (kr_4_0 k0) w49 d_St_goThrough_99 ?_
            refine wm_aload_n C d_St_goThrough_100 rfl ?_
            refine gt_2_0 C k1 (ws_in iw_2) (ws_1 mw_0_60) d_St_goThrough_101 ?_
            refine wm_aload_n C d_St_goThrough_104 rfl ?_
            refine gt_4_0 C k0 (ws_in iw_4) (ws_1 mw_0_115) d_St_goThrough_105 ?_
            refine wm_aload_n C d_St_goThrough_108 rfl ?_
            refine gt_2_2 C k1 (ws_in iw_2) (ws_1 mw_0_69) d_St_goThrough_109 ?_
            refine wk_no h (fun w50 h => ?_)
            refine wk_aald_23 C (kr_4_0 k0) w50 d_St_goThrough_112 ?_
            refine wm_aload_n C d_St_goThrough_113 rfl ?_
            refine gt_4_0 C k0 (ws_in iw_4) (ws_1 mw_0_115) d_St_goThrough_114 ?_
            refine wm_aload_n C d_St_goThrough_117 rfl ?_
            refine gt_2_3 C k1 (ws_in iw_2) (ws_1 mw_0_74) d_St_goThrough_118 ?_
            refine wk_no h (fun w51 h => ?_)
            refine wk_aald_23 C (kr_4_0 k0) w51 d_St_goThrough_121 ?_
            refine wk_bind h (fun v52 e52 h => wm_cVv (ci := 3) (q := (Rn_3, Tn_3, 3)) (na := 3) C (mc_Fa_becomeResult (sh_r (sh_r a0 0) ((g a1 1)).toNatClampNeg) (g a1 0) (sh_r (sh_r a0 0) ((g a1 2)).toNatClampNeg) (sh_r (sh_r a0 0) ((g a1 3)).toNatClampNeg) g v52 (kr_23 (kr_4_0 k0) w49) (kr_23 (kr_4_0 k0) w50) (kr_23 (kr_4_0 k0) w51) e52) (gc_Fa_becomeResult mw_1_90) (kd_lt (by rw [(kr_23 (kr_4_0 k0) w49)]; decide)) rfl ⟨_, wm_S_3 (kr_23 (kr_4_0 k0) w49) _⟩ rfl rfl (by decide +kernel) rfl (by decide) (by decide) d_St_goThrough_122 rfl (Nat.le_of_ble_eq_true rfl) (Nat.zero_le _) (Nat.zero_le _) (fun u52 q52 => ?_))
            subst u52
            refine wm_goto (tgt := 193) C d_St_goThrough_125 rfl ?_
            refine wk_cut (c_193 v52 h) ?_
            exact trivial
          · refine wk_ite h (fun w59 h => ?_) (fun w59 h => ?_)
            · refine wk_tableEq (tgt := 128) C d_St_goThrough_4 w59 (by decide) (by decide) rfl rfl ?_
              refine wm_aload_n C d_St_goThrough_128 rfl ?_
              refine wm_aload_n C d_St_goThrough_129 rfl ?_
              refine gt_2_3 C k1 (ws_in iw_2) (ws_1 mw_0_74) d_St_goThrough_130 ?_
              refine wm_iconst (v := (5 : Int32)) C d_St_goThrough_133 (by decide) ?_
              refine wk_bind h (fun v54 e54 h => wm_cVv (ci := 4) (q := (Rn_4, Tn_4, 2)) (na := 2) C (mc_St_keepSigns a0 (g a1 3) (5 : Int32) g v54 k0 e54) (gc_St_keepSigns mw_1_117) (kd_lt (by rw [k0]; decide)) rfl ⟨_, wm_S_4 k0 _⟩ rfl rfl (by decide +kernel) rfl (by decide) (by decide) d_St_goThrough_134 rfl (Nat.le_of_ble_eq_true rfl) (Nat.zero_le _) (Nat.zero_le _) (fun u54 q54 => ?_))
              subst u54
              refine wm_aload_n C d_St_goThrough_137 rfl ?_
              refine gt_4_1 C k0 (ws_in iw_4) (ws_1 mw_0_118) d_St_goThrough_138 ?_
              refine wk_if_ne (tgt := 193) C d_St_goThrough_141 rfl h (fun _ h => ?_) (fun _ h => ?_)
              · refine wm_aload_n C d_St_goThrough_144 rfl ?_
                refine gt_4_0 C k0 (ws_in iw_4) (ws_1 mw_0_115) d_St_goThrough_145 ?_
                refine wm_aload_n C d_St_goThrough_148 rfl ?_
                refine gt_2_1 C k1 (ws_in iw_2) (ws_1 mw_0_65) d_St_goThrough_149 ?_
                refine wk_no h (fun w55 h => ?_)
                refine wk_aald_23 C (kr_4_0 k0) w55 d_St_goThrough_152 ?_
                refine wm_iconst (v := (5 : Int32)) C d_St_goThrough_153 (by decide) ?_
                refine wm_aload_n C d_St_goThrough_154 rfl ?_
                refine gt_4_0 C k0 (ws_in iw_4) (ws_1 mw_0_115) d_St_goThrough_155 ?_
                refine wm_aload_n C d_St_goThrough_158 rfl ?_
                refine gt_2_2 C k1 (ws_in iw_2) (ws_1 mw_0_69) d_St_goThrough_159 ?_
                refine wk_no h (fun w56 h => ?_)
                refine wk_aald_23 C (kr_4_0 k0) w56 d_St_goThrough_162 ?_
                refine wm_aload_n C d_St_goThrough_163 rfl ?_
                refine gt_4_0 C k0 (ws_in iw_4) (ws_1 mw_0_115) d_St_goThrough_164 ?_
                refine wm_aload_n C d_St_goThrough_167 rfl ?_
                refine gt_2_3 C k1 (ws_in iw_2) (ws_1 mw_0_74) d_St_goThrough_168 ?_
                refine wk_no h (fun w57 h => ?_)
                refine wk_aald_23 C (kr_4_0 k0) w57 d_St_goThrough_171 ?_
                refine wk_bind h (fun v58 e58 h => wm_cVv (ci := 3) (q := (Rn_3, Tn_3, 3)) (na := 3) C (mc_Fa_becomeResult (sh_r (sh_r a0 0) ((v54 a1 1)).toNatClampNeg) (5 : Int32) (sh_r (sh_r a0 0) ((v54 a1 2)).toNatClampNeg) (sh_r (sh_r a0 0) ((v54 a1 3)).toNatClampNeg) v54 v58 (kr_23 (kr_4_0 k0) w55) (kr_23 (kr_4_0 k0) w56) (kr_23 (kr_4_0 k0) w57) e58) (gc_Fa_becomeResult mw_1_90) (kd_lt (by rw [(kr_23 (kr_4_0 k0) w55)]; decide)) rfl ⟨_, wm_S_3 (kr_23 (kr_4_0 k0) w55) _⟩ rfl rfl (by decide +kernel) rfl (by decide) (by decide) d_St_goThrough_172 rfl (Nat.le_of_ble_eq_true rfl) (Nat.zero_le _) (Nat.zero_le _) (fun u58 q58 => ?_))
                subst u58
                refine wm_goto (tgt := 193) C d_St_goThrough_175 rfl ?_
                refine wk_cut (c_193 v58 h) ?_
                exact trivial
              · refine wk_cut (c_193 v54 h) ?_
                exact trivial
            · refine wk_ite h (fun w62 h => ?_) (fun w62 h => ?_)
              · refine wk_tableEq (tgt := 178) C d_St_goThrough_4 w62 (by decide) (by decide) rfl rfl ?_
                refine wm_aload_n C d_St_goThrough_178 rfl ?_
                refine gt_4_0 C k0 (ws_in iw_4) (ws_1 mw_0_115) d_St_goThrough_179 ?_
                refine wm_aload_n C d_St_goThrough_182 rfl ?_
                refine gt_2_1 C k1 (ws_in iw_2) (ws_1 mw_0_65) d_St_goThrough_183 ?_
                refine wk_no h (fun w60 h => ?_)
                refine wk_aald_23 C (kr_4_0 k0) w60 d_St_goThrough_186 ?_
                refine wk_bind h (fun v61 e61 h => wm_cVv (ci := 3) (q := (Rn_3, Tn_3, 3)) (na := 0) C (mc_Fa_becomeAnything (sh_r (sh_r a0 0) ((g a1 1)).toNatClampNeg) g v61 (kr_23 (kr_4_0 k0) w60) e61) (gc_Fa_becomeAnything mw_1_118) (kd_lt (by rw [(kr_23 (kr_4_0 k0) w60)]; decide)) rfl ⟨_, wm_S_3 (kr_23 (kr_4_0 k0) w60) _⟩ rfl rfl (by decide +kernel) rfl (by decide) (by decide) d_St_goThrough_187 rfl (Nat.le_of_ble_eq_true rfl) (Nat.zero_le _) (Nat.zero_le _) (fun u61 q61 => ?_))
                subst u61
                refine wm_goto (tgt := 193) C d_St_goThrough_190 rfl ?_
                refine wk_cut (c_193 v61 h) ?_
                exact trivial
              · have w34 := wk_nt (z := 0) w34 (by decide)
                have w38 := wk_nt (z := 1) w38 (by decide)
                have w43 := wk_nt (z := 2) w43 (by decide)
                have w48 := wk_nt (z := 3) w48 (by decide)
                have w53 := wk_nt (z := 4) w53 (by decide)
                have w59 := wk_nt (z := 5) w59 (by decide)
                have w62 := wk_nt (z := 6) w62 (by decide)
                refine wm_tableOut (tgt := 193) C d_St_goThrough_4 (by omega) rfl ?_
                refine wk_cut (c_193 g h) ?_
                exact trivial
/-! FactFlow$Solution.carry(LFactFlow$Program;I)V -/
def mf_So_carry_156  (g : wm_Sg) : Option wm_Sg :=
  some (g)
def mf_So_carry (a0 : Nat) (a1 : Nat) (a2 : Int32) (g : wm_Sg) : Option wm_Sg :=
  if a2 < 0 ∨ sh_n (sh_r a1 0) ≤ (a2).toNatClampNeg then none else if a2 < 0 ∨ sh_n (sh_r a0 0) ≤ (a2).toNatClampNeg then none else (mf_St_becomeSame (sh_r a0 3) (sh_r (sh_r a0 0) (a2).toNatClampNeg) g).bind fun v32 => if (v32 (sh_r (sh_r a1 0) (a2).toNatClampNeg) 0) = (7 : Int32) then ((mf_In_jumpSigns (sh_r (sh_r a1 0) (a2).toNatClampNeg) v32).bind fun v33 => (mf_St_keepSigns (sh_r a0 3) (v32 (sh_r (sh_r a1 0) (a2).toNatClampNeg) 1) v33.1 v33.2).bind fun v34 => (mf_So_arrive a0 a1 (v34 (sh_r (sh_r a1 0) (a2).toNatClampNeg) 3) v34).bind fun v35 => if a2 < 0 ∨ sh_n (sh_r a0 0) ≤ (a2).toNatClampNeg then none else (mf_St_becomeSame (sh_r a0 3) (sh_r (sh_r a0 0) (a2).toNatClampNeg) v35).bind fun v37 => (mf_In_jumpSigns (sh_r (sh_r a1 0) (a2).toNatClampNeg) v37).bind fun v38 => (mf_St_keepSigns (sh_r a0 3) (v37 (sh_r (sh_r a1 0) (a2).toNatClampNeg) 1) (v38.1 ^^^ (-1 : Int32)) v38.2).bind fun v39 => (mf_So_arrive a0 a1 (a2 + (1 : Int32)) v39).bind fun v40 => mf_So_carry_156 v40) else if (v32 (sh_r (sh_r a1 0) (a2).toNatClampNeg) 0) = (8 : Int32) then ((mf_In_jumpSigns (sh_r (sh_r a1 0) (a2).toNatClampNeg) v32).bind fun v42 => (mf_St_keepSigns (sh_r a0 3) (v32 (sh_r (sh_r a1 0) (a2).toNatClampNeg) 1) v42.1 v42.2).bind fun v43 => (mf_So_arrive a0 a1 (v43 (sh_r (sh_r a1 0) (a2).toNatClampNeg) 3) v43).bind fun v44 => if a2 < 0 ∨ sh_n (sh_r a0 0) ≤ (a2).toNatClampNeg then none else (mf_St_becomeSame (sh_r a0 3) (sh_r (sh_r a0 0) (a2).toNatClampNeg) v44).bind fun v46 => (mf_In_jumpSigns (sh_r (sh_r a1 0) (a2).toNatClampNeg) v46).bind fun v47 => (mf_St_keepSigns (sh_r a0 3) (v46 (sh_r (sh_r a1 0) (a2).toNatClampNeg) 1) (v47.1 ^^^ (-1 : Int32)) v47.2).bind fun v48 => (mf_So_arrive a0 a1 (a2 + (1 : Int32)) v48).bind fun v49 => mf_So_carry_156 v49) else if (v32 (sh_r (sh_r a1 0) (a2).toNatClampNeg) 0) = (9 : Int32) then ((mf_So_arrive a0 a1 (v32 (sh_r (sh_r a1 0) (a2).toNatClampNeg) 3) v32).bind fun v51 => mf_So_carry_156 v51) else if (v32 (sh_r (sh_r a1 0) (a2).toNatClampNeg) 0) = (10 : Int32) then ((mf_St_goThrough (sh_r a0 3) (sh_r (sh_r a1 0) (a2).toNatClampNeg) v32).bind fun v53 => (mf_So_arrive a0 a1 (a2 + (1 : Int32)) v53).bind fun v54 => mf_So_carry_156 v54) else if (v32 (sh_r (sh_r a1 0) (a2).toNatClampNeg) 0) = (11 : Int32) then (mf_So_carry_156 v32) else ((mf_St_goThrough (sh_r a0 3) (sh_r (sh_r a1 0) (a2).toNatClampNeg) v32).bind fun v57 => (mf_So_arrive a0 a1 (a2 + (1 : Int32)) v57).bind fun v58 => mf_So_carry_156 v58)
set_option maxHeartbeats 4000000 in
set_option maxRecDepth 100000 in
theorem mc_So_carry {l : Launch} {G : wm_G} (a0 : Nat) (a1 : Nat) (a2 : Int32) (g : wm_Sg) (v : wm_Sg) (k0 : kd a0 = 5) (k1 : kd a1 = 1) (h : mf_So_carry a0 a1 a2 g = some v) : wm_Mv l G y_So_carry ws_So_carry 4 wm_n (wm_S G) [.ref (G.B + a0), .ref (G.B + a1), .int a2] g (fun u => u = v) := by
  refine wm_in_v (cc := c_So_carry) (maxL := 4) (by decide) rfl (Nat.le_of_ble_eq_true rfl) (fun X C _ E => ?_)
  have c_156 : ∀ (g : wm_Sg), mf_So_carry_156  g = some v → wm_W G X 4 0 0 wm_n (wm_S G) g 156 [] [] := by
    intro g h
    unfold mf_So_carry_156 at h
    exact E _ _ _ d_So_carry_156 (Option.some.inj h)
  unfold mf_So_carry at h
  refine wm_aload_n C d_So_carry_0 rfl ?_
  refine gt_1_0 C k1 (ws_in iw_1) (ws_1 mw_0_87) d_So_carry_1 ?_
  refine wm_iload_n C d_So_carry_4 rfl ?_
  refine wk_no h (fun w30 h => ?_)
  refine wk_aald_22 C (kr_1_0 k1) w30 d_So_carry_5 ?_
  refine wm_astore_n C d_So_carry_6 (by decide) ?_
  refine wm_aload_n C d_So_carry_7 rfl ?_
  refine gt_5_3 C k0 (ws_in iw_5) (ws_1 mw_0_133) d_So_carry_8 ?_
  refine wm_aload_n C d_So_carry_11 rfl ?_
  refine gt_5_0 C k0 (ws_in iw_5) (ws_1 mw_0_128) d_So_carry_12 ?_
  refine wm_iload_n C d_So_carry_15 rfl ?_
  refine wk_no h (fun w31 h => ?_)
  refine wk_aald_24 C (kr_5_0 k0) w31 d_So_carry_16 ?_
  refine wk_bind h (fun v32 e32 h => wm_cVv (ci := 4) (q := (Rn_4, Tn_4, 2)) (na := 1) C (mc_St_becomeSame (sh_r a0 3) (sh_r (sh_r a0 0) (a2).toNatClampNeg) g v32 (kr_5_3 k0) (kr_24 (kr_5_0 k0) w31) e32) (gc_St_becomeSame mw_1_42) (kd_lt (by rw [(kr_5_3 k0)]; decide)) rfl ⟨_, wm_S_4 (kr_5_3 k0) _⟩ rfl rfl (by decide +kernel) rfl (by decide) (by decide) d_So_carry_17 rfl (Nat.le_of_ble_eq_true rfl) (Nat.zero_le _) (Nat.zero_le _) (fun u32 q32 => ?_))
  subst u32
  refine wm_aload_n C d_So_carry_20 rfl ?_
  refine gt_2_0 C (kr_22 (kr_1_0 k1) w30) (ws_in iw_2) (ws_1 mw_0_59) d_So_carry_21 ?_
  refine wk_ite h (fun w41 h => ?_) (fun w41 h => ?_)
  · refine wk_tableEq (tgt := 75) C d_So_carry_24 w41 (by decide) (by decide) rfl rfl ?_
    refine wm_aload_n C d_So_carry_75 rfl ?_
    refine gt_5_3 C k0 (ws_in iw_5) (ws_1 mw_0_133) d_So_carry_76 ?_
    refine wm_aload_n C d_So_carry_79 rfl ?_
    refine gt_2_1 C (kr_22 (kr_1_0 k1) w30) (ws_in iw_2) (ws_1 mw_0_64) d_So_carry_80 ?_
    refine wm_aload_n C d_So_carry_83 rfl ?_
    refine wk_bind h (fun v33 e33 h => wm_cVi (ci := 2) (q := (Rn_2, Tn_2, 4)) (na := 0) C (mc_In_jumpSigns (sh_r (sh_r a1 0) (a2).toNatClampNeg) v32 v33 (kr_22 (kr_1_0 k1) w30) e33) (gc_In_jumpSigns mw_1_74) (kd_lt (by rw [(kr_22 (kr_1_0 k1) w30)]; decide)) rfl ⟨_, wm_S_2 (kr_22 (kr_1_0 k1) w30) _⟩ rfl rfl (by decide +kernel) rfl (by decide) (by decide) d_So_carry_84 rfl (Nat.le_of_ble_eq_true rfl) (Nat.zero_le _) (Nat.zero_le _) (fun r33 u33 q33 => ?_))
    obtain ⟨rfl, rfl⟩ := q33
    refine wk_bind h (fun v34 e34 h => wm_cVv (ci := 4) (q := (Rn_4, Tn_4, 2)) (na := 2) C (mc_St_keepSigns (sh_r a0 3) (v32 (sh_r (sh_r a1 0) (a2).toNatClampNeg) 1) v33.1 v33.2 v34 (kr_5_3 k0) e34) (gc_St_keepSigns mw_1_78) (kd_lt (by rw [(kr_5_3 k0)]; decide)) rfl ⟨_, wm_S_4 (kr_5_3 k0) _⟩ rfl rfl (by decide +kernel) rfl (by decide) (by decide) d_So_carry_87 rfl (Nat.le_of_ble_eq_true rfl) (Nat.zero_le _) (Nat.zero_le _) (fun u34 q34 => ?_))
    subst u34
    refine wm_aload_n C d_So_carry_90 rfl ?_
    refine wm_aload_n C d_So_carry_91 rfl ?_
    refine wm_aload_n C d_So_carry_92 rfl ?_
    refine gt_2_3 C (kr_22 (kr_1_0 k1) w30) (ws_in iw_2) (ws_1 mw_0_73) d_So_carry_93 ?_
    refine wk_bind h (fun v35 e35 h => wm_cVv (ci := 5) (q := (Rn_5, Tn_5, 4)) (na := 2) C (mc_So_arrive a0 a1 (v34 (sh_r (sh_r a1 0) (a2).toNatClampNeg) 3) v34 v35 k0 k1 e35) (gc_So_arrive mw_1_50) (kd_lt (by rw [k0]; decide)) rfl ⟨_, wm_S_5 k0 _⟩ rfl rfl (by decide +kernel) rfl (by decide) (by decide) d_So_carry_96 rfl (Nat.le_of_ble_eq_true rfl) (Nat.zero_le _) (Nat.zero_le _) (fun u35 q35 => ?_))
    subst u35
    refine wm_aload_n C d_So_carry_99 rfl ?_
    refine gt_5_3 C k0 (ws_in iw_5) (ws_1 mw_0_133) d_So_carry_100 ?_
    refine wm_aload_n C d_So_carry_103 rfl ?_
    refine gt_5_0 C k0 (ws_in iw_5) (ws_1 mw_0_128) d_So_carry_104 ?_
    refine wm_iload_n C d_So_carry_107 rfl ?_
    refine wk_no h (fun w36 h => ?_)
    refine wk_aald_24 C (kr_5_0 k0) w36 d_So_carry_108 ?_
    refine wk_bind h (fun v37 e37 h => wm_cVv (ci := 4) (q := (Rn_4, Tn_4, 2)) (na := 1) C (mc_St_becomeSame (sh_r a0 3) (sh_r (sh_r a0 0) (a2).toNatClampNeg) v35 v37 (kr_5_3 k0) (kr_24 (kr_5_0 k0) w36) e37) (gc_St_becomeSame mw_1_42) (kd_lt (by rw [(kr_5_3 k0)]; decide)) rfl ⟨_, wm_S_4 (kr_5_3 k0) _⟩ rfl rfl (by decide +kernel) rfl (by decide) (by decide) d_So_carry_109 rfl (Nat.le_of_ble_eq_true rfl) (Nat.zero_le _) (Nat.zero_le _) (fun u37 q37 => ?_))
    subst u37
    refine wm_aload_n C d_So_carry_112 rfl ?_
    refine gt_5_3 C k0 (ws_in iw_5) (ws_1 mw_0_133) d_So_carry_113 ?_
    refine wm_aload_n C d_So_carry_116 rfl ?_
    refine gt_2_1 C (kr_22 (kr_1_0 k1) w30) (ws_in iw_2) (ws_1 mw_0_64) d_So_carry_117 ?_
    refine wm_aload_n C d_So_carry_120 rfl ?_
    refine wk_bind h (fun v38 e38 h => wm_cVi (ci := 2) (q := (Rn_2, Tn_2, 4)) (na := 0) C (mc_In_jumpSigns (sh_r (sh_r a1 0) (a2).toNatClampNeg) v37 v38 (kr_22 (kr_1_0 k1) w30) e38) (gc_In_jumpSigns mw_1_74) (kd_lt (by rw [(kr_22 (kr_1_0 k1) w30)]; decide)) rfl ⟨_, wm_S_2 (kr_22 (kr_1_0 k1) w30) _⟩ rfl rfl (by decide +kernel) rfl (by decide) (by decide) d_So_carry_121 rfl (Nat.le_of_ble_eq_true rfl) (Nat.zero_le _) (Nat.zero_le _) (fun r38 u38 q38 => ?_))
    obtain ⟨rfl, rfl⟩ := q38
    refine wm_iconst (v := (-1 : Int32)) C d_So_carry_124 (by decide) ?_
    refine wm_ixor C d_So_carry_125 ?_
    refine wk_bind h (fun v39 e39 h => wm_cVv (ci := 4) (q := (Rn_4, Tn_4, 2)) (na := 2) C (mc_St_keepSigns (sh_r a0 3) (v37 (sh_r (sh_r a1 0) (a2).toNatClampNeg) 1) (v38.1 ^^^ (-1 : Int32)) v38.2 v39 (kr_5_3 k0) e39) (gc_St_keepSigns mw_1_78) (kd_lt (by rw [(kr_5_3 k0)]; decide)) rfl ⟨_, wm_S_4 (kr_5_3 k0) _⟩ rfl rfl (by decide +kernel) rfl (by decide) (by decide) d_So_carry_126 rfl (Nat.le_of_ble_eq_true rfl) (Nat.zero_le _) (Nat.zero_le _) (fun u39 q39 => ?_))
    subst u39
    refine wm_aload_n C d_So_carry_129 rfl ?_
    refine wm_aload_n C d_So_carry_130 rfl ?_
    refine wm_iload_n C d_So_carry_131 rfl ?_
    refine wm_iconst (v := (1 : Int32)) C d_So_carry_132 (by decide) ?_
    refine wm_iadd C d_So_carry_133 ?_
    refine wk_bind h (fun v40 e40 h => wm_cVv (ci := 5) (q := (Rn_5, Tn_5, 4)) (na := 2) C (mc_So_arrive a0 a1 (a2 + (1 : Int32)) v39 v40 k0 k1 e40) (gc_So_arrive mw_1_50) (kd_lt (by rw [k0]; decide)) rfl ⟨_, wm_S_5 k0 _⟩ rfl rfl (by decide +kernel) rfl (by decide) (by decide) d_So_carry_134 rfl (Nat.le_of_ble_eq_true rfl) (Nat.zero_le _) (Nat.zero_le _) (fun u40 q40 => ?_))
    subst u40
    refine wm_goto (tgt := 156) C d_So_carry_137 rfl ?_
    refine wk_cut (c_156 v40 h) ?_
    exact trivial
  · refine wk_ite h (fun w50 h => ?_) (fun w50 h => ?_)
    · refine wk_tableEq (tgt := 75) C d_So_carry_24 w50 (by decide) (by decide) rfl rfl ?_
      refine wm_aload_n C d_So_carry_75 rfl ?_
      refine gt_5_3 C k0 (ws_in iw_5) (ws_1 mw_0_133) d_So_carry_76 ?_
      refine wm_aload_n C d_So_carry_79 rfl ?_
      refine gt_2_1 C (kr_22 (kr_1_0 k1) w30) (ws_in iw_2) (ws_1 mw_0_64) d_So_carry_80 ?_
      refine wm_aload_n C d_So_carry_83 rfl ?_
      refine wk_bind h (fun v42 e42 h => wm_cVi (ci := 2) (q := (Rn_2, Tn_2, 4)) (na := 0) C (mc_In_jumpSigns (sh_r (sh_r a1 0) (a2).toNatClampNeg) v32 v42 (kr_22 (kr_1_0 k1) w30) e42) (gc_In_jumpSigns mw_1_74) (kd_lt (by rw [(kr_22 (kr_1_0 k1) w30)]; decide)) rfl ⟨_, wm_S_2 (kr_22 (kr_1_0 k1) w30) _⟩ rfl rfl (by decide +kernel) rfl (by decide) (by decide) d_So_carry_84 rfl (Nat.le_of_ble_eq_true rfl) (Nat.zero_le _) (Nat.zero_le _) (fun r42 u42 q42 => ?_))
      obtain ⟨rfl, rfl⟩ := q42
      refine wk_bind h (fun v43 e43 h => wm_cVv (ci := 4) (q := (Rn_4, Tn_4, 2)) (na := 2) C (mc_St_keepSigns (sh_r a0 3) (v32 (sh_r (sh_r a1 0) (a2).toNatClampNeg) 1) v42.1 v42.2 v43 (kr_5_3 k0) e43) (gc_St_keepSigns mw_1_78) (kd_lt (by rw [(kr_5_3 k0)]; decide)) rfl ⟨_, wm_S_4 (kr_5_3 k0) _⟩ rfl rfl (by decide +kernel) rfl (by decide) (by decide) d_So_carry_87 rfl (Nat.le_of_ble_eq_true rfl) (Nat.zero_le _) (Nat.zero_le _) (fun u43 q43 => ?_))
      subst u43
      refine wm_aload_n C d_So_carry_90 rfl ?_
      refine wm_aload_n C d_So_carry_91 rfl ?_
      refine wm_aload_n C d_So_carry_92 rfl ?_
      refine gt_2_3 C (kr_22 (kr_1_0 k1) w30) (ws_in iw_2) (ws_1 mw_0_73) d_So_carry_93 ?_
      refine wk_bind h (fun v44 e44 h => wm_cVv (ci := 5) (q := (Rn_5, Tn_5, 4)) (na := 2) C (mc_So_arrive a0 a1 (v43 (sh_r (sh_r a1 0) (a2).toNatClampNeg) 3) v43 v44 k0 k1 e44) (gc_So_arrive mw_1_50) (kd_lt (by rw [k0]; decide)) rfl ⟨_, wm_S_5 k0 _⟩ rfl rfl (by decide +kernel) rfl (by decide) (by decide) d_So_carry_96 rfl (Nat.le_of_ble_eq_true rfl) (Nat.zero_le _) (Nat.zero_le _) (fun u44 q44 => ?_))
      subst u44
      refine wm_aload_n C d_So_carry_99 rfl ?_
      refine gt_5_3 C k0 (ws_in iw_5) (ws_1 mw_0_133) d_So_carry_100 ?_
      refine wm_aload_n C d_So_carry_103 rfl ?_
      refine gt_5_0 C k0 (ws_in iw_5) (ws_1 mw_0_128) d_So_carry_104 ?_
      refine wm_iload_n C d_So_carry_107 rfl ?_
      refine wk_no h (fun w45 h => ?_)
      refine wk_aald_24 C (kr_5_0 k0) w45 d_So_carry_108 ?_
      refine wk_bind h (fun v46 e46 h => wm_cVv (ci := 4) (q := (Rn_4, Tn_4, 2)) (na := 1) C (mc_St_becomeSame (sh_r a0 3) (sh_r (sh_r a0 0) (a2).toNatClampNeg) v44 v46 (kr_5_3 k0) (kr_24 (kr_5_0 k0) w45) e46) (gc_St_becomeSame mw_1_42) (kd_lt (by rw [(kr_5_3 k0)]; decide)) rfl ⟨_, wm_S_4 (kr_5_3 k0) _⟩ rfl rfl (by decide +kernel) rfl (by decide) (by decide) d_So_carry_109 rfl (Nat.le_of_ble_eq_true rfl) (Nat.zero_le _) (Nat.zero_le _) (fun u46 q46 => ?_))
      subst u46
      refine wm_aload_n C d_So_carry_112 rfl ?_
      refine gt_5_3 C k0 (ws_in iw_5) (ws_1 mw_0_133) d_So_carry_113 ?_
      refine wm_aload_n C d_So_carry_116 rfl ?_
      refine gt_2_1 C (kr_22 (kr_1_0 k1) w30) (ws_in iw_2) (ws_1 mw_0_64) d_So_carry_117 ?_
      refine wm_aload_n C d_So_carry_120 rfl ?_
      refine wk_bind h (fun v47 e47 h => wm_cVi (ci := 2) (q := (Rn_2, Tn_2, 4)) (na := 0) C (mc_In_jumpSigns (sh_r (sh_r a1 0) (a2).toNatClampNeg) v46 v47 (kr_22 (kr_1_0 k1) w30) e47) (gc_In_jumpSigns mw_1_74) (kd_lt (by rw [(kr_22 (kr_1_0 k1) w30)]; decide)) rfl ⟨_, wm_S_2 (kr_22 (kr_1_0 k1) w30) _⟩ rfl rfl (by decide +kernel) rfl (by decide) (by decide) d_So_carry_121 rfl (Nat.le_of_ble_eq_true rfl) (Nat.zero_le _) (Nat.zero_le _) (fun r47 u47 q47 => ?_))
      obtain ⟨rfl, rfl⟩ := q47
      refine wm_iconst (v := (-1 : Int32)) C d_So_carry_124 (by decide) ?_
      refine wm_ixor C d_So_carry_125 ?_
      refine wk_bind h (fun v48 e48 h => wm_cVv (ci := 4) (q := (Rn_4, Tn_4, 2)) (na := 2) C (mc_St_keepSigns (sh_r a0 3) (v46 (sh_r (sh_r a1 0) (a2).toNatClampNeg) 1) (v47.1 ^^^ (-1 : Int32)) v47.2 v48 (kr_5_3 k0) e48) (gc_St_keepSigns mw_1_78) (kd_lt (by rw [(kr_5_3 k0)]; decide)) rfl ⟨_, wm_S_4 (kr_5_3 k0) _⟩ rfl rfl (by decide +kernel) rfl (by decide) (by decide) d_So_carry_126 rfl (Nat.le_of_ble_eq_true rfl) (Nat.zero_le _) (Nat.zero_le _) (fun u48 q48 => ?_))
      subst u48
      refine wm_aload_n C d_So_carry_129 rfl ?_
      refine wm_aload_n C d_So_carry_130 rfl ?_
      refine wm_iload_n C d_So_carry_131 rfl ?_
      refine wm_iconst (v := (1 : Int32)) C d_So_carry_132 (by decide) ?_
      refine wm_iadd C d_So_carry_133 ?_
      refine wk_bind h (fun v49 e49 h => wm_cVv (ci := 5) (q := (Rn_5, Tn_5, 4)) (na := 2) C (mc_So_arrive a0 a1 (a2 + (1 : Int32)) v48 v49 k0 k1 e49) (gc_So_arrive mw_1_50) (kd_lt (by rw [k0]; decide)) rfl ⟨_, wm_S_5 k0 _⟩ rfl rfl (by decide +kernel) rfl (by decide) (by decide) d_So_carry_134 rfl (Nat.le_of_ble_eq_true rfl) (Nat.zero_le _) (Nat.zero_le _) (fun u49 q49 => ?_))
      subst u49
      refine wm_goto (tgt := 156) C d_So_carry_137 rfl ?_
      refine wk_cut (c_156 v49 h) ?_
      exact trivial
    · refine wk_ite h (fun w52 h => ?_) (fun w52 h => ?_)
      · refine wk_tableEq (tgt := 63) C d_So_carry_24 w52 (by decide) (by decide) rfl rfl ?_
        refine wm_aload_n C d_So_carry_63 rfl ?_
        refine wm_aload_n C d_So_carry_64 rfl ?_
        refine wm_aload_n C d_So_carry_65 rfl ?_
        refine gt_2_3 C (kr_22 (kr_1_0 k1) w30) (ws_in iw_2) (ws_1 mw_0_73) d_So_carry_66 ?_
        refine wk_bind h (fun v51 e51 h => wm_cVv (ci := 5) (q := (Rn_5, Tn_5, 4)) (na := 2) C (mc_So_arrive a0 a1 (v32 (sh_r (sh_r a1 0) (a2).toNatClampNeg) 3) v32 v51 k0 k1 e51) (gc_So_arrive mw_1_50) (kd_lt (by rw [k0]; decide)) rfl ⟨_, wm_S_5 k0 _⟩ rfl rfl (by decide +kernel) rfl (by decide) (by decide) d_So_carry_69 rfl (Nat.le_of_ble_eq_true rfl) (Nat.zero_le _) (Nat.zero_le _) (fun u51 q51 => ?_))
        subst u51
        refine wm_goto (tgt := 156) C d_So_carry_72 rfl ?_
        refine wk_cut (c_156 v51 h) ?_
        exact trivial
      · refine wk_ite h (fun w55 h => ?_) (fun w55 h => ?_)
        · refine wk_tableEq (tgt := 140) C d_So_carry_24 w55 (by decide) (by decide) rfl rfl ?_
          refine wm_aload_n C d_So_carry_140 rfl ?_
          refine gt_5_3 C k0 (ws_in iw_5) (ws_1 mw_0_133) d_So_carry_141 ?_
          refine wm_aload_n C d_So_carry_144 rfl ?_
          refine wk_bind h (fun v53 e53 h => wm_cVv (ci := 4) (q := (Rn_4, Tn_4, 2)) (na := 1) C (mc_St_goThrough (sh_r a0 3) (sh_r (sh_r a1 0) (a2).toNatClampNeg) v32 v53 (kr_5_3 k0) (kr_22 (kr_1_0 k1) w30) e53) (gc_St_goThrough mw_1_86) (kd_lt (by rw [(kr_5_3 k0)]; decide)) rfl ⟨_, wm_S_4 (kr_5_3 k0) _⟩ rfl rfl (by decide +kernel) rfl (by decide) (by decide) d_So_carry_145 rfl (Nat.le_of_ble_eq_true rfl) (Nat.zero_le _) (Nat.zero_le _) (fun u53 q53 => ?_))
          subst u53
          refine wm_aload_n C d_So_carry_148 rfl ?_
          refine wm_aload_n C d_So_carry_149 rfl ?_
          refine wm_iload_n C d_So_carry_150 rfl ?_
          refine wm_iconst (v := (1 : Int32)) C d_So_carry_151 (by decide) ?_
          refine wm_iadd C d_So_carry_152 ?_
          refine wk_bind h (fun v54 e54 h => wm_cVv (ci := 5) (q := (Rn_5, Tn_5, 4)) (na := 2) C (mc_So_arrive a0 a1 (a2 + (1 : Int32)) v53 v54 k0 k1 e54) (gc_So_arrive mw_1_50) (kd_lt (by rw [k0]; decide)) rfl ⟨_, wm_S_5 k0 _⟩ rfl rfl (by decide +kernel) rfl (by decide) (by decide) d_So_carry_153 rfl (Nat.le_of_ble_eq_true rfl) (Nat.zero_le _) (Nat.zero_le _) (fun u54 q54 => ?_))
          subst u54
          refine wk_cut (c_156 v54 h) ?_
          exact trivial
        · refine wk_ite h (fun w56 h => ?_) (fun w56 h => ?_)
          · refine wk_tableEq (tgt := 60) C d_So_carry_24 w56 (by decide) (by decide) rfl rfl ?_
            refine wm_goto (tgt := 156) C d_So_carry_60 rfl ?_
            refine wk_cut (c_156 v32 h) ?_
            exact trivial
          · have w41 := wk_nt (z := 7) w41 (by decide)
            have w50 := wk_nt (z := 8) w50 (by decide)
            have w52 := wk_nt (z := 9) w52 (by decide)
            have w55 := wk_nt (z := 10) w55 (by decide)
            have w56 := wk_nt (z := 11) w56 (by decide)
            refine wm_tableOut (tgt := 140) C d_So_carry_24 (by omega) rfl ?_
            refine wm_aload_n C d_So_carry_140 rfl ?_
            refine gt_5_3 C k0 (ws_in iw_5) (ws_1 mw_0_133) d_So_carry_141 ?_
            refine wm_aload_n C d_So_carry_144 rfl ?_
            refine wk_bind h (fun v57 e57 h => wm_cVv (ci := 4) (q := (Rn_4, Tn_4, 2)) (na := 1) C (mc_St_goThrough (sh_r a0 3) (sh_r (sh_r a1 0) (a2).toNatClampNeg) v32 v57 (kr_5_3 k0) (kr_22 (kr_1_0 k1) w30) e57) (gc_St_goThrough mw_1_86) (kd_lt (by rw [(kr_5_3 k0)]; decide)) rfl ⟨_, wm_S_4 (kr_5_3 k0) _⟩ rfl rfl (by decide +kernel) rfl (by decide) (by decide) d_So_carry_145 rfl (Nat.le_of_ble_eq_true rfl) (Nat.zero_le _) (Nat.zero_le _) (fun u57 q57 => ?_))
            subst u57
            refine wm_aload_n C d_So_carry_148 rfl ?_
            refine wm_aload_n C d_So_carry_149 rfl ?_
            refine wm_iload_n C d_So_carry_150 rfl ?_
            refine wm_iconst (v := (1 : Int32)) C d_So_carry_151 (by decide) ?_
            refine wm_iadd C d_So_carry_152 ?_
            refine wk_bind h (fun v58 e58 h => wm_cVv (ci := 5) (q := (Rn_5, Tn_5, 4)) (na := 2) C (mc_So_arrive a0 a1 (a2 + (1 : Int32)) v57 v58 k0 k1 e58) (gc_So_arrive mw_1_50) (kd_lt (by rw [k0]; decide)) rfl ⟨_, wm_S_5 k0 _⟩ rfl rfl (by decide +kernel) rfl (by decide) (by decide) d_So_carry_153 rfl (Nat.le_of_ble_eq_true rfl) (Nat.zero_le _) (Nat.zero_le _) (fun u58 q58 => ?_))
            subst u58
            refine wk_cut (c_156 v58 h) ?_
            exact trivial
/-! FactFlow$Solution.find(LFactFlow$Program;)V -/
def mf_So_find_68 (K16 : Int32 × Int32 × wm_Sg → Option wm_Sg) (K32 : Int32 × Int32 × wm_Sg → Option wm_Sg) (b0 : Nat) (b1 : Nat) (b2 : Int32) (b3 : Int32) (b4 : Int32) (g : wm_Sg) : Option wm_Sg :=
  K32 (b2, (b4 + (1 : Int32)), g)
def mf_So_find_32 (K16 : Int32 × Int32 × wm_Sg → Option wm_Sg) (b0 : Nat) (b1 : Nat) (b3 : Int32) (K32 : Int32 × Int32 × wm_Sg → Option wm_Sg) (a : Int32 × Int32 × wm_Sg) : Option wm_Sg :=
  if (a.2.2 b1 1) ≤ a.2.1 then (K16 (a.1, (b3 + (1 : Int32)), a.2.2)) else (if a.2.1 < 0 ∨ sh_n (sh_r b0 2) ≤ (a.2.1).toNatClampNeg then none else if (a.2.2 (sh_r b0 2) (a.2.1).toNatClampNeg) = (0 : Int32) then (mf_So_find_68 K16 K32 b0 b1 a.1 b3 a.2.1 a.2.2) else (if a.2.1 < 0 ∨ sh_n (sh_r b0 2) ≤ (a.2.1).toNatClampNeg then none else (mf_So_carry b0 b1 a.2.1 (wm_u a.2.2 (sh_r b0 2) (a.2.1).toNatClampNeg (0 : Int32))).bind fun v4 => mf_So_find_68 K16 K32 b0 b1 (1 : Int32) b3 a.2.1 v4))
def mf_So_find_80 (b0 : Nat) (g : wm_Sg) : Option wm_Sg :=
  some (wm_u g b0 1 (1 : Int32))
def mf_So_find_16 (b0 : Nat) (b1 : Nat) (K16 : Int32 × Int32 × wm_Sg → Option wm_Sg) (a : Int32 × Int32 × wm_Sg) : Option wm_Sg :=
  if a.1 = (0 : Int32) then (mf_So_find_80 b0 a.2.2) else (if (2000 : Int32) ≤ a.2.1 then (mf_So_find_80 b0 a.2.2) else (lp_it (mf_So_find_32 K16 b0 b1 a.2.1) 2100 ((0 : Int32), (0 : Int32), a.2.2)))
def mf_So_find (a0 : Nat) (a1 : Nat) (g : wm_Sg) : Option wm_Sg :=
  if (g a0 1) = (0 : Int32) then ((mf_So_begin a0 g).bind fun v5 => lp_it (mf_So_find_16 a0 a1) 2100 ((1 : Int32), (0 : Int32), v5)) else (some (g))
set_option maxHeartbeats 4000000 in
set_option maxRecDepth 100000 in
theorem mc_So_find {l : Launch} {G : wm_G} (a0 : Nat) (a1 : Nat) (g : wm_Sg) (v : wm_Sg) (k0 : kd a0 = 5) (k1 : kd a1 = 1) (h : mf_So_find a0 a1 g = some v) : wm_Mv l G y_So_find ws_So_find 5 wm_n (wm_S G) [.ref (G.B + a0), .ref (G.B + a1)] g (fun u => u = v) := by
  refine wm_in_v (cc := c_So_find) (maxL := 5) (by decide) rfl (Nat.le_of_ble_eq_true rfl) (fun X C _ E => ?_)
  have c_68 : ∀ (b0 : Nat) (b1 : Nat) (b2 : Int32) (b3 : Int32) (b4 : Int32) (k0 : kd b0 = 5) (k1 : kd b1 = 1) (K16 : Int32 × Int32 × wm_Sg → Option wm_Sg) (hK16 : ∀ a : Int32 × Int32 × wm_Sg, K16 a = some v → wm_W G X 5 0 0 wm_n (wm_S G) a.2.2 16 [(0, .ref (G.B + b0)), (1, .ref (G.B + b1)), (2, .int a.1), (3, .int a.2.1)] []) (K32 : Int32 × Int32 × wm_Sg → Option wm_Sg) (hK32 : ∀ a : Int32 × Int32 × wm_Sg, K32 a = some v → wm_W G X 5 0 0 wm_n (wm_S G) a.2.2 32 [(0, .ref (G.B + b0)), (1, .ref (G.B + b1)), (2, .int a.1), (3, .int b3), (4, .int a.2.1)] []) (g : wm_Sg), mf_So_find_68 K16 K32 b0 b1 b2 b3 b4 g = some v → wm_W G X 5 0 0 wm_n (wm_S G) g 68 [(0, .ref (G.B + b0)), (1, .ref (G.B + b1)), (2, .int b2), (3, .int b3), (4, .int b4)] [] := by
    intro b0 b1 b2 b3 b4 k0 k1 K16 hK16 K32 hK32 g h
    unfold mf_So_find_68 at h
    refine wk_iinc C (1 : Int32) d_So_find_68 (by decide) rfl (by decide) ?_
    refine wm_goto (tgt := 32) C d_So_find_71 rfl ?_
    refine wk_cut (hK32 (b2, (b4 + (1 : Int32)), g) h) ?_
    exact ⟨rfl, rfl, rfl, rfl, rfl, trivial⟩
  have c_32 : ∀ (b0 : Nat) (b1 : Nat) (b3 : Int32) (k0 : kd b0 = 5) (k1 : kd b1 = 1) (K16 : Int32 × Int32 × wm_Sg → Option wm_Sg) (hK16 : ∀ a : Int32 × Int32 × wm_Sg, K16 a = some v → wm_W G X 5 0 0 wm_n (wm_S G) a.2.2 16 [(0, .ref (G.B + b0)), (1, .ref (G.B + b1)), (2, .int a.1), (3, .int a.2.1)] []) (f : Nat) (a : Int32 × Int32 × wm_Sg), lp_it (mf_So_find_32 K16 b0 b1 b3) f a = some v → wm_W G X 5 0 0 wm_n (wm_S G) a.2.2 32 [(0, .ref (G.B + b0)), (1, .ref (G.B + b1)), (2, .int a.1), (3, .int b3), (4, .int a.2.1)] [] := by
    intro b0 b1 b3 k0 k1 K16 hK16 f
    induction f with
    | zero => intro a h; cases h
    | succ f hK32 =>
      intro a h
      have h : mf_So_find_32 K16 b0 b1 b3 (lp_it (mf_So_find_32 K16 b0 b1 b3) f) a = some v := h
      unfold mf_So_find_32 at h
      refine wm_iload C d_So_find_32 rfl ?_
      refine wm_aload_n C d_So_find_34 rfl ?_
      refine gt_1_1 C k1 (ws_in iw_1) (ws_1 mw_0_90) d_So_find_35 ?_
      refine wk_icmp_ge (tgt := 74) C d_So_find_38 rfl h (fun _ h => ?_) (fun _ h => ?_)
      · refine wk_iinc C (1 : Int32) d_So_find_74 (by decide) rfl (by decide) ?_
        refine wm_goto (tgt := 16) C d_So_find_77 rfl ?_
        refine wk_cut (hK16 (a.1, (b3 + (1 : Int32)), a.2.2) h) ?_
        exact ⟨rfl, rfl, rfl, rfl, trivial⟩
      · refine wm_aload_n C d_So_find_41 rfl ?_
        refine gt_5_2 C k0 (ws_in iw_5) (ws_1 mw_0_132) d_So_find_42 ?_
        refine wm_iload C d_So_find_45 rfl ?_
        refine wk_zald C (kr_5_2 k0) d_So_find_47 h (fun h => ?_)
        refine wk_if_eq (tgt := 68) C d_So_find_48 rfl h (fun _ h => ?_) (fun _ h => ?_)
        · refine wk_cut (c_68 b0 b1 a.1 b3 a.2.1 k0 k1 K16 hK16 _ hK32 a.2.2 h) ?_
          exact ⟨rfl, rfl, rfl, rfl, rfl, trivial⟩
        · refine wm_aload_n C d_So_find_51 rfl ?_
          refine gt_5_2 C k0 (ws_in iw_5) (ws_1 mw_0_132) d_So_find_52 ?_
          refine wm_iload C d_So_find_55 rfl ?_
          refine wm_iconst (v := (0 : Int32)) C d_So_find_57 (by decide) ?_
          refine wk_zast C (kr_5_2 k0) rfl d_So_find_58 h (fun h => ?_)
          refine wm_iconst (v := (1 : Int32)) C d_So_find_59 (by decide) ?_
          refine wm_istore_n C d_So_find_60 (by decide) ?_
          refine wm_aload_n C d_So_find_61 rfl ?_
          refine wm_aload_n C d_So_find_62 rfl ?_
          refine wm_iload C d_So_find_63 rfl ?_
          refine wk_bind h (fun v4 e4 h => wm_cVv (ci := 5) (q := (Rn_5, Tn_5, 4)) (na := 2) C (mc_So_carry b0 b1 a.2.1 (wm_u a.2.2 (sh_r b0 2) (a.2.1).toNatClampNeg (0 : Int32)) v4 k0 k1 e4) (gc_So_carry mw_1_38) (kd_lt (by rw [k0]; decide)) rfl ⟨_, wm_S_5 k0 _⟩ rfl rfl (by decide +kernel) rfl (by decide) (by decide) d_So_find_65 rfl (Nat.le_of_ble_eq_true rfl) (Nat.zero_le _) (Nat.zero_le _) (fun u4 q4 => ?_))
          subst u4
          refine wk_cut (c_68 b0 b1 (1 : Int32) b3 a.2.1 k0 k1 K16 hK16 _ hK32 v4 h) ?_
          exact ⟨rfl, rfl, rfl, rfl, rfl, trivial⟩
  have c_80 : ∀ (b0 : Nat) (k0 : kd b0 = 5) (g : wm_Sg), mf_So_find_80 b0 g = some v → wm_W G X 5 0 0 wm_n (wm_S G) g 80 [(0, .ref (G.B + b0))] [] := by
    intro b0 k0 g h
    unfold mf_So_find_80 at h
    refine wm_aload_n C d_So_find_80 rfl ?_
    refine wm_iconst (v := (1 : Int32)) C d_So_find_81 (by decide) ?_
    refine pt_5_1 C k0 (Or.inr rfl) (ws_in iw_5) (ws_1 mw_0_130) d_So_find_82 ?_
    exact E _ _ _ d_So_find_85 (Option.some.inj h)
  have c_16 : ∀ (b0 : Nat) (b1 : Nat) (k0 : kd b0 = 5) (k1 : kd b1 = 1) (f : Nat) (a : Int32 × Int32 × wm_Sg), lp_it (mf_So_find_16 b0 b1) f a = some v → wm_W G X 5 0 0 wm_n (wm_S G) a.2.2 16 [(0, .ref (G.B + b0)), (1, .ref (G.B + b1)), (2, .int a.1), (3, .int a.2.1)] [] := by
    intro b0 b1 k0 k1 f
    induction f with
    | zero => intro a h; cases h
    | succ f hK16 =>
      intro a h
      have h : mf_So_find_16 b0 b1 (lp_it (mf_So_find_16 b0 b1) f) a = some v := h
      unfold mf_So_find_16 at h
      refine wm_iload_n C d_So_find_16 rfl ?_
      refine wk_if_eq (tgt := 80) C d_So_find_17 rfl h (fun _ h => ?_) (fun _ h => ?_)
      · refine wk_cut (c_80 b0 k0 a.2.2 h) ?_
        exact ⟨rfl, trivial⟩
      · refine wm_iload_n C d_So_find_20 rfl ?_
        refine wm_sipush (v := (2000 : Int32)) C d_So_find_21 (by decide) ?_
        refine wk_icmp_ge (tgt := 80) C d_So_find_24 rfl h (fun _ h => ?_) (fun _ h => ?_)
        · refine wk_cut (c_80 b0 k0 a.2.2 h) ?_
          exact ⟨rfl, trivial⟩
        · refine wm_iconst (v := (0 : Int32)) C d_So_find_27 (by decide) ?_
          refine wm_istore_n C d_So_find_28 (by decide) ?_
          refine wm_iconst (v := (0 : Int32)) C d_So_find_29 (by decide) ?_
          refine wm_istore C d_So_find_30 (by decide) ?_
          refine wk_cut (c_32 b0 b1 a.2.1 k0 k1 _ hK16 2100 ((0 : Int32), (0 : Int32), a.2.2) h) ?_
          exact ⟨rfl, rfl, rfl, rfl, rfl, trivial⟩
  unfold mf_So_find at h
  refine wm_aload_n C d_So_find_0 rfl ?_
  refine gt_5_1 C k0 (ws_in iw_5) (ws_1 mw_0_130) d_So_find_1 ?_
  refine wk_if_eq (tgt := 8) C d_So_find_4 rfl h (fun _ h => ?_) (fun _ h => ?_)
  · refine wm_aload_n C d_So_find_8 rfl ?_
    refine wk_bind h (fun v5 e5 h => wm_cVv (ci := 5) (q := (Rn_5, Tn_5, 4)) (na := 0) C (mc_So_begin a0 g v5 k0 e5) (gc_So_begin mw_1_22) (kd_lt (by rw [k0]; decide)) rfl ⟨_, wm_S_5 k0 _⟩ rfl rfl (by decide +kernel) rfl (by decide) (by decide) d_So_find_9 rfl (Nat.le_of_ble_eq_true rfl) (Nat.zero_le _) (Nat.zero_le _) (fun u5 q5 => ?_))
    subst u5
    refine wm_iconst (v := (1 : Int32)) C d_So_find_12 (by decide) ?_
    refine wm_istore_n C d_So_find_13 (by decide) ?_
    refine wm_iconst (v := (0 : Int32)) C d_So_find_14 (by decide) ?_
    refine wm_istore_n C d_So_find_15 (by decide) ?_
    refine wk_cut (c_16 a0 a1 k0 k1 2100 ((1 : Int32), (0 : Int32), v5) h) ?_
    exact ⟨rfl, rfl, rfl, rfl, trivial⟩
  · exact E _ _ _ d_So_find_7 (Option.some.inj h)
/-! FactFlow.comesTo(I)Z -/
def mf_Ff_comesTo_31 (s0 : Int32) (g : wm_Sg) : Option (Int32 × wm_Sg) :=
  if s0 = 0 ∨ s0 = 1 then some (s0, g) else none
def mf_Ff_comesTo_30  (g : wm_Sg) : Option (Int32 × wm_Sg) :=
  mf_Ff_comesTo_31 (0 : Int32) g
def mf_Ff_comesTo (a0 : Nat) (a1 : Int32) (g : wm_Sg) : Option (Int32 × wm_Sg) :=
  (mf_Pr_has (sh_r a0 0) a1 g).bind fun v3 => if v3.1 = (0 : Int32) then (mf_Ff_comesTo_30 v3.2) else (if a1 < 0 ∨ sh_n (sh_r (sh_r a0 1) 0) ≤ (a1).toNatClampNeg then none else if (v3.2 (sh_r (sh_r (sh_r a0 1) 0) (a1).toNatClampNeg) 1) = (0 : Int32) then (mf_Ff_comesTo_31 (1 : Int32) v3.2) else (mf_Ff_comesTo_30 v3.2))
set_option maxHeartbeats 4000000 in
set_option maxRecDepth 100000 in
theorem mc_Ff_comesTo {l : Launch} {G : wm_G} (a0 : Nat) (a1 : Int32) (g : wm_Sg) (v : (Int32 × wm_Sg)) (k0 : kd a0 = 0) (h : mf_Ff_comesTo a0 a1 g = some v) : wm_Mi l G y_Ff_comesTo ws_Ff_comesTo 1 wm_n (wm_S G) [.ref (G.B + a0), .int a1] g (fun r u => r = v.1 ∧ u = v.2) := by
  refine wm_in_z (cc := c_Ff_comesTo) (maxL := 2) (by decide) rfl (Nat.le_of_ble_eq_true rfl) (fun X C _ E => ?_)
  have c_31 : ∀ (s0 : Int32) (g : wm_Sg), mf_Ff_comesTo_31  s0 g = some v → wm_W G X 2 0 0 wm_n (wm_S G) g 31 [] [.int s0] := by
    intro s0 g h
    unfold mf_Ff_comesTo_31 at h
    exact wk_yes h (fun q h => E _ _ _ _ d_Ff_comesTo_31 (wk_nar q) (wk_ret h))
  have c_30 : ∀ (g : wm_Sg), mf_Ff_comesTo_30  g = some v → wm_W G X 2 0 0 wm_n (wm_S G) g 30 [] [] := by
    intro g h
    unfold mf_Ff_comesTo_30 at h
    refine wm_iconst (v := (0 : Int32)) C d_Ff_comesTo_30 (by decide) ?_
    refine wk_cut (c_31 (0 : Int32) g h) ?_
    exact trivial
  unfold mf_Ff_comesTo at h
  refine wm_aload_n C d_Ff_comesTo_0 rfl ?_
  refine gt_0_0 C k0 (ws_in iw_0) (ws_1 mw_0_188) d_Ff_comesTo_1 ?_
  refine wm_iload_n C d_Ff_comesTo_4 rfl ?_
  refine wk_bind h (fun v3 e3 h => wm_cVi (ci := 1) (q := (Rn_1, Tn_1, 3)) (na := 1) C (mc_Pr_has (sh_r a0 0) a1 g v3 (kr_0_0 k0) e3) (gc_Pr_has mw_0_234) (kd_lt (by rw [(kr_0_0 k0)]; decide)) rfl ⟨_, wm_S_1 (kr_0_0 k0) _⟩ rfl rfl (by decide +kernel) rfl (by decide) (by decide) d_Ff_comesTo_5 rfl (Nat.le_of_ble_eq_true rfl) (Nat.zero_le _) (Nat.zero_le _) (fun r3 u3 q3 => ?_))
  obtain ⟨rfl, rfl⟩ := q3
  refine wk_if_eq (tgt := 30) C d_Ff_comesTo_8 rfl h (fun _ h => ?_) (fun _ h => ?_)
  · refine wk_cut (c_30 v3.2 h) ?_
    exact trivial
  · refine wm_aload_n C d_Ff_comesTo_11 rfl ?_
    refine gt_0_1 C k0 (ws_in iw_0) (ws_1 mw_0_189) d_Ff_comesTo_12 ?_
    refine gt_5_0 C (kr_0_1 k0) (ws_in iw_5) (ws_1 mw_0_129) d_Ff_comesTo_15 ?_
    refine wm_iload_n C d_Ff_comesTo_18 rfl ?_
    refine wk_no h (fun w4 h => ?_)
    refine wk_aald_24 C (kr_5_0 (kr_0_1 k0)) w4 d_Ff_comesTo_19 ?_
    refine gt_4_1 C (kr_24 (kr_5_0 (kr_0_1 k0)) w4) (ws_in iw_4) (ws_1 mw_0_121) d_Ff_comesTo_20 ?_
    refine wk_if_ne (tgt := 30) C d_Ff_comesTo_23 rfl h (fun _ h => ?_) (fun _ h => ?_)
    · refine wm_iconst (v := (1 : Int32)) C d_Ff_comesTo_26 (by decide) ?_
      refine wm_goto (tgt := 31) C d_Ff_comesTo_27 rfl ?_
      refine wk_cut (c_31 (1 : Int32) v3.2 h) ?_
      exact trivial
    · refine wk_cut (c_30 v3.2 h) ?_
      exact trivial
/-! FactFlow.reached(I)Z -/
def mf_Ff_reached (a0 : Nat) (a1 : Int32) (g : wm_Sg) : Option (Int32 × wm_Sg) :=
  (mf_So_find (sh_r a0 1) (sh_r a0 0) g).bind fun v3 => (mf_Ff_comesTo a0 a1 v3).bind fun v4 => if v4.1 = 0 ∨ v4.1 = 1 then some (v4.1, v4.2) else none
set_option maxHeartbeats 4000000 in
set_option maxRecDepth 100000 in
theorem mc_Ff_reached {l : Launch} {G : wm_G} (a0 : Nat) (a1 : Int32) (g : wm_Sg) (v : (Int32 × wm_Sg)) (k0 : kd a0 = 0) (h : mf_Ff_reached a0 a1 g = some v) : wm_Mi l G y_Ff_reached ws_Ff_reached 6 wm_n (wm_S G) [.ref (G.B + a0), .int a1] g (fun r u => r = v.1 ∧ u = v.2) := by
  refine wm_in_z (cc := c_Ff_reached) (maxL := 2) (by decide) rfl (Nat.le_of_ble_eq_true rfl) (fun X C _ E => ?_)
  unfold mf_Ff_reached at h
  refine wm_aload_n C d_Ff_reached_0 rfl ?_
  refine gt_0_1 C k0 (ws_in iw_0) (ws_1 mw_0_189) d_Ff_reached_1 ?_
  refine wm_aload_n C d_Ff_reached_4 rfl ?_
  refine gt_0_0 C k0 (ws_in iw_0) (ws_1 mw_0_188) d_Ff_reached_5 ?_
  refine wk_bind h (fun v3 e3 h => wm_cVv (ci := 5) (q := (Rn_5, Tn_5, 4)) (na := 1) C (mc_So_find (sh_r a0 1) (sh_r a0 0) g v3 (kr_0_1 k0) (kr_0_0 k0) e3) (gc_So_find mw_1_18) (kd_lt (by rw [(kr_0_1 k0)]; decide)) rfl ⟨_, wm_S_5 (kr_0_1 k0) _⟩ rfl rfl (by decide +kernel) rfl (by decide) (by decide) d_Ff_reached_8 rfl (Nat.le_of_ble_eq_true rfl) (Nat.zero_le _) (Nat.zero_le _) (fun u3 q3 => ?_))
  subst u3
  refine wm_aload_n C d_Ff_reached_11 rfl ?_
  refine wm_iload_n C d_Ff_reached_12 rfl ?_
  refine wk_bind h (fun v4 e4 h => wm_cVi (ci := 0) (q := (Rn_0, Tn_0, 4)) (na := 1) C (mc_Ff_comesTo a0 a1 v3 v4 k0 e4) (gc_Ff_comesTo mw_1_122) (kd_lt (by rw [k0]; decide)) rfl ⟨_, wm_S_0 k0 _⟩ rfl rfl (by decide +kernel) rfl (by decide) (by decide) d_Ff_reached_13 rfl (Nat.le_of_ble_eq_true rfl) (Nat.zero_le _) (Nat.zero_le _) (fun r4 u4 q4 => ?_))
  obtain ⟨rfl, rfl⟩ := q4
  exact wk_yes h (fun q h => E _ _ _ _ d_Ff_reached_16 (wk_nar q) (wk_ret h))
/-! FactFlow.bits(II)I -/
def mf_Ff_bits_47 (s0 : Int32) (g : wm_Sg) : Option (Int32 × wm_Sg) :=
  some (s0, g)
def mf_Ff_bits_46  (g : wm_Sg) : Option (Int32 × wm_Sg) :=
  mf_Ff_bits_47 (-1 : Int32) g
def mf_Ff_bits (a0 : Nat) (a1 : Int32) (a2 : Int32) (g : wm_Sg) : Option (Int32 × wm_Sg) :=
  (mf_So_find (sh_r a0 1) (sh_r a0 0) g).bind fun v6 => (mf_Ff_isVariable a2 v6).bind fun v7 => if v7.1 = (0 : Int32) then (mf_Ff_bits_46 v7.2) else ((mf_Ff_comesTo a0 a1 v7.2).bind fun v8 => if v8.1 = (0 : Int32) then (mf_Ff_bits_46 v8.2) else (if a1 < 0 ∨ sh_n (sh_r (sh_r a0 1) 0) ≤ (a1).toNatClampNeg then none else if a2 < 0 ∨ sh_n (sh_r (sh_r (sh_r (sh_r a0 1) 0) (a1).toNatClampNeg) 0) ≤ (a2).toNatClampNeg then none else mf_Ff_bits_47 (v8.2 (sh_r (sh_r (sh_r (sh_r (sh_r a0 1) 0) (a1).toNatClampNeg) 0) (a2).toNatClampNeg) 0) v8.2))
set_option maxHeartbeats 4000000 in
set_option maxRecDepth 100000 in
theorem mc_Ff_bits {l : Launch} {G : wm_G} (a0 : Nat) (a1 : Int32) (a2 : Int32) (g : wm_Sg) (v : (Int32 × wm_Sg)) (k0 : kd a0 = 0) (h : mf_Ff_bits a0 a1 a2 g = some v) : wm_Mi l G y_Ff_bits ws_Ff_bits 6 wm_n (wm_S G) [.ref (G.B + a0), .int a1, .int a2] g (fun r u => r = v.1 ∧ u = v.2) := by
  refine wm_in_i (cc := c_Ff_bits) (maxL := 3) (by decide) rfl (Nat.le_of_ble_eq_true rfl) (fun X C _ E => ?_)
  have c_47 : ∀ (s0 : Int32) (g : wm_Sg), mf_Ff_bits_47  s0 g = some v → wm_W G X 3 0 0 wm_n (wm_S G) g 47 [] [.int s0] := by
    intro s0 g h
    unfold mf_Ff_bits_47 at h
    exact E _ _ _ _ d_Ff_bits_47 (wk_ret h)
  have c_46 : ∀ (g : wm_Sg), mf_Ff_bits_46  g = some v → wm_W G X 3 0 0 wm_n (wm_S G) g 46 [] [] := by
    intro g h
    unfold mf_Ff_bits_46 at h
    refine wm_iconst (v := (-1 : Int32)) C d_Ff_bits_46 (by decide) ?_
    refine wk_cut (c_47 (-1 : Int32) g h) ?_
    exact trivial
  unfold mf_Ff_bits at h
  refine wm_aload_n C d_Ff_bits_0 rfl ?_
  refine gt_0_1 C k0 (ws_in iw_0) (ws_1 mw_0_189) d_Ff_bits_1 ?_
  refine wm_aload_n C d_Ff_bits_4 rfl ?_
  refine gt_0_0 C k0 (ws_in iw_0) (ws_1 mw_0_188) d_Ff_bits_5 ?_
  refine wk_bind h (fun v6 e6 h => wm_cVv (ci := 5) (q := (Rn_5, Tn_5, 4)) (na := 1) C (mc_So_find (sh_r a0 1) (sh_r a0 0) g v6 (kr_0_1 k0) (kr_0_0 k0) e6) (gc_So_find mw_1_18) (kd_lt (by rw [(kr_0_1 k0)]; decide)) rfl ⟨_, wm_S_5 (kr_0_1 k0) _⟩ rfl rfl (by decide +kernel) rfl (by decide) (by decide) d_Ff_bits_8 rfl (Nat.le_of_ble_eq_true rfl) (Nat.zero_le _) (Nat.zero_le _) (fun u6 q6 => ?_))
  subst u6
  refine wm_iload_n C d_Ff_bits_11 rfl ?_
  refine wk_bind h (fun v7 e7 h => wm_cSi (na := 1) C (mc_Ff_isVariable a2 v6 v7 e7) (gc_Ff_isVariable mw_1_130) rfl (by decide +kernel) rfl (by decide) (by decide) d_Ff_bits_12 rfl (Nat.le_of_ble_eq_true rfl) (Nat.zero_le _) (Nat.zero_le _) (fun r7 u7 q7 => ?_))
  obtain ⟨rfl, rfl⟩ := q7
  refine wk_if_eq (tgt := 46) C d_Ff_bits_15 rfl h (fun _ h => ?_) (fun _ h => ?_)
  · refine wk_cut (c_46 v7.2 h) ?_
    exact trivial
  · refine wm_aload_n C d_Ff_bits_18 rfl ?_
    refine wm_iload_n C d_Ff_bits_19 rfl ?_
    refine wk_bind h (fun v8 e8 h => wm_cVi (ci := 0) (q := (Rn_0, Tn_0, 4)) (na := 1) C (mc_Ff_comesTo a0 a1 v7.2 v8 k0 e8) (gc_Ff_comesTo mw_1_122) (kd_lt (by rw [k0]; decide)) rfl ⟨_, wm_S_0 k0 _⟩ rfl rfl (by decide +kernel) rfl (by decide) (by decide) d_Ff_bits_20 rfl (Nat.le_of_ble_eq_true rfl) (Nat.zero_le _) (Nat.zero_le _) (fun r8 u8 q8 => ?_))
    obtain ⟨rfl, rfl⟩ := q8
    refine wk_if_eq (tgt := 46) C d_Ff_bits_23 rfl h (fun _ h => ?_) (fun _ h => ?_)
    · refine wk_cut (c_46 v8.2 h) ?_
      exact trivial
    · refine wm_aload_n C d_Ff_bits_26 rfl ?_
      refine gt_0_1 C k0 (ws_in iw_0) (ws_1 mw_0_189) d_Ff_bits_27 ?_
      refine gt_5_0 C (kr_0_1 k0) (ws_in iw_5) (ws_1 mw_0_129) d_Ff_bits_30 ?_
      refine wm_iload_n C d_Ff_bits_33 rfl ?_
      refine wk_no h (fun w9 h => ?_)
      refine wk_aald_24 C (kr_5_0 (kr_0_1 k0)) w9 d_Ff_bits_34 ?_
      refine gt_4_0 C (kr_24 (kr_5_0 (kr_0_1 k0)) w9) (ws_in iw_4) (ws_1 mw_0_117) d_Ff_bits_35 ?_
      refine wm_iload_n C d_Ff_bits_38 rfl ?_
      refine wk_no h (fun w10 h => ?_)
      refine wk_aald_23 C (kr_4_0 (kr_24 (kr_5_0 (kr_0_1 k0)) w9)) w10 d_Ff_bits_39 ?_
      refine gt_3_0 C (kr_23 (kr_4_0 (kr_24 (kr_5_0 (kr_0_1 k0)) w9)) w10) (ws_in iw_3) (ws_1 mw_0_36) d_Ff_bits_40 ?_
      refine wm_goto (tgt := 47) C d_Ff_bits_43 rfl ?_
      refine wk_cut (c_47 (v8.2 (sh_r (sh_r (sh_r (sh_r (sh_r a0 1) 0) (a1).toNatClampNeg) 0) (a2).toNatClampNeg) 0) v8.2 h) ?_
      exact trivial
/-! FactFlow.rest(II)I -/
def mf_Ff_rest_47 (s0 : Int32) (g : wm_Sg) : Option (Int32 × wm_Sg) :=
  some (s0, g)
def mf_Ff_rest_46  (g : wm_Sg) : Option (Int32 × wm_Sg) :=
  mf_Ff_rest_47 (0 : Int32) g
def mf_Ff_rest (a0 : Nat) (a1 : Int32) (a2 : Int32) (g : wm_Sg) : Option (Int32 × wm_Sg) :=
  (mf_So_find (sh_r a0 1) (sh_r a0 0) g).bind fun v6 => (mf_Ff_isVariable a2 v6).bind fun v7 => if v7.1 = (0 : Int32) then (mf_Ff_rest_46 v7.2) else ((mf_Ff_comesTo a0 a1 v7.2).bind fun v8 => if v8.1 = (0 : Int32) then (mf_Ff_rest_46 v8.2) else (if a1 < 0 ∨ sh_n (sh_r (sh_r a0 1) 0) ≤ (a1).toNatClampNeg then none else if a2 < 0 ∨ sh_n (sh_r (sh_r (sh_r (sh_r a0 1) 0) (a1).toNatClampNeg) 0) ≤ (a2).toNatClampNeg then none else mf_Ff_rest_47 (v8.2 (sh_r (sh_r (sh_r (sh_r (sh_r a0 1) 0) (a1).toNatClampNeg) 0) (a2).toNatClampNeg) 1) v8.2))
set_option maxHeartbeats 4000000 in
set_option maxRecDepth 100000 in
theorem mc_Ff_rest {l : Launch} {G : wm_G} (a0 : Nat) (a1 : Int32) (a2 : Int32) (g : wm_Sg) (v : (Int32 × wm_Sg)) (k0 : kd a0 = 0) (h : mf_Ff_rest a0 a1 a2 g = some v) : wm_Mi l G y_Ff_rest ws_Ff_rest 6 wm_n (wm_S G) [.ref (G.B + a0), .int a1, .int a2] g (fun r u => r = v.1 ∧ u = v.2) := by
  refine wm_in_i (cc := c_Ff_rest) (maxL := 3) (by decide) rfl (Nat.le_of_ble_eq_true rfl) (fun X C _ E => ?_)
  have c_47 : ∀ (s0 : Int32) (g : wm_Sg), mf_Ff_rest_47  s0 g = some v → wm_W G X 3 0 0 wm_n (wm_S G) g 47 [] [.int s0] := by
    intro s0 g h
    unfold mf_Ff_rest_47 at h
    exact E _ _ _ _ d_Ff_rest_47 (wk_ret h)
  have c_46 : ∀ (g : wm_Sg), mf_Ff_rest_46  g = some v → wm_W G X 3 0 0 wm_n (wm_S G) g 46 [] [] := by
    intro g h
    unfold mf_Ff_rest_46 at h
    refine wm_iconst (v := (0 : Int32)) C d_Ff_rest_46 (by decide) ?_
    refine wk_cut (c_47 (0 : Int32) g h) ?_
    exact trivial
  unfold mf_Ff_rest at h
  refine wm_aload_n C d_Ff_rest_0 rfl ?_
  refine gt_0_1 C k0 (ws_in iw_0) (ws_1 mw_0_189) d_Ff_rest_1 ?_
  refine wm_aload_n C d_Ff_rest_4 rfl ?_
  refine gt_0_0 C k0 (ws_in iw_0) (ws_1 mw_0_188) d_Ff_rest_5 ?_
  refine wk_bind h (fun v6 e6 h => wm_cVv (ci := 5) (q := (Rn_5, Tn_5, 4)) (na := 1) C (mc_So_find (sh_r a0 1) (sh_r a0 0) g v6 (kr_0_1 k0) (kr_0_0 k0) e6) (gc_So_find mw_1_18) (kd_lt (by rw [(kr_0_1 k0)]; decide)) rfl ⟨_, wm_S_5 (kr_0_1 k0) _⟩ rfl rfl (by decide +kernel) rfl (by decide) (by decide) d_Ff_rest_8 rfl (Nat.le_of_ble_eq_true rfl) (Nat.zero_le _) (Nat.zero_le _) (fun u6 q6 => ?_))
  subst u6
  refine wm_iload_n C d_Ff_rest_11 rfl ?_
  refine wk_bind h (fun v7 e7 h => wm_cSi (na := 1) C (mc_Ff_isVariable a2 v6 v7 e7) (gc_Ff_isVariable mw_1_130) rfl (by decide +kernel) rfl (by decide) (by decide) d_Ff_rest_12 rfl (Nat.le_of_ble_eq_true rfl) (Nat.zero_le _) (Nat.zero_le _) (fun r7 u7 q7 => ?_))
  obtain ⟨rfl, rfl⟩ := q7
  refine wk_if_eq (tgt := 46) C d_Ff_rest_15 rfl h (fun _ h => ?_) (fun _ h => ?_)
  · refine wk_cut (c_46 v7.2 h) ?_
    exact trivial
  · refine wm_aload_n C d_Ff_rest_18 rfl ?_
    refine wm_iload_n C d_Ff_rest_19 rfl ?_
    refine wk_bind h (fun v8 e8 h => wm_cVi (ci := 0) (q := (Rn_0, Tn_0, 4)) (na := 1) C (mc_Ff_comesTo a0 a1 v7.2 v8 k0 e8) (gc_Ff_comesTo mw_1_122) (kd_lt (by rw [k0]; decide)) rfl ⟨_, wm_S_0 k0 _⟩ rfl rfl (by decide +kernel) rfl (by decide) (by decide) d_Ff_rest_20 rfl (Nat.le_of_ble_eq_true rfl) (Nat.zero_le _) (Nat.zero_le _) (fun r8 u8 q8 => ?_))
    obtain ⟨rfl, rfl⟩ := q8
    refine wk_if_eq (tgt := 46) C d_Ff_rest_23 rfl h (fun _ h => ?_) (fun _ h => ?_)
    · refine wk_cut (c_46 v8.2 h) ?_
      exact trivial
    · refine wm_aload_n C d_Ff_rest_26 rfl ?_
      refine gt_0_1 C k0 (ws_in iw_0) (ws_1 mw_0_189) d_Ff_rest_27 ?_
      refine gt_5_0 C (kr_0_1 k0) (ws_in iw_5) (ws_1 mw_0_129) d_Ff_rest_30 ?_
      refine wm_iload_n C d_Ff_rest_33 rfl ?_
      refine wk_no h (fun w9 h => ?_)
      refine wk_aald_24 C (kr_5_0 (kr_0_1 k0)) w9 d_Ff_rest_34 ?_
      refine gt_4_0 C (kr_24 (kr_5_0 (kr_0_1 k0)) w9) (ws_in iw_4) (ws_1 mw_0_117) d_Ff_rest_35 ?_
      refine wm_iload_n C d_Ff_rest_38 rfl ?_
      refine wk_no h (fun w10 h => ?_)
      refine wk_aald_23 C (kr_4_0 (kr_24 (kr_5_0 (kr_0_1 k0)) w9)) w10 d_Ff_rest_39 ?_
      refine gt_3_1 C (kr_23 (kr_4_0 (kr_24 (kr_5_0 (kr_0_1 k0)) w9)) w10) (ws_in iw_3) (ws_1 mw_0_39) d_Ff_rest_40 ?_
      refine wm_goto (tgt := 47) C d_Ff_rest_43 rfl ?_
      refine wk_cut (c_47 (v8.2 (sh_r (sh_r (sh_r (sh_r (sh_r a0 1) 0) (a1).toNatClampNeg) 0) (a2).toNatClampNeg) 1) v8.2 h) ?_
      exact trivial
