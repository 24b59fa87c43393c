/-! FactFlowModel.pass(I)V -/
def mf_Mo_pass_132  (g : wm_Sg) : Option wm_Sg :=
  some (g)
def mf_Mo_pass_79 (b0 : Nat) (b1 : Int32) (b3 : Int32) (g : wm_Sg) : Option wm_Sg :=
  (mf_Mo_load b0 b1 g).bind fun v19 => if b1 < 0 ∨ sh_n (sh_r b0 2) ≤ (b1).toNatClampNeg then none else (mf_Mo_only b0 (v19 (sh_r b0 2) (b1).toNatClampNeg) ((7 : Int32) - b3) v19).bind fun v20 => if v20.1 = (0 : Int32) then (mf_Mo_pass_132 v20.2) else ((mf_Mo_join b0 (b1 + (1 : Int32)) v20.2).bind fun v21 => mf_Mo_pass_132 v21)
def mf_Mo_pass_55 (b0 : Nat) (b1 : Int32) (b3 : Int32) (g : wm_Sg) : Option wm_Sg :=
  if b1 < 0 ∨ sh_n (sh_r b0 2) ≤ (b1).toNatClampNeg then none else (mf_Mo_only b0 (g (sh_r b0 2) (b1).toNatClampNeg) b3 g).bind fun v22 => if v22.1 = (0 : Int32) then (mf_Mo_pass_79 b0 b1 b3 v22.2) else (if b1 < 0 ∨ sh_n (sh_r b0 4) ≤ (b1).toNatClampNeg then none else (mf_Mo_join b0 (v22.2 (sh_r b0 4) (b1).toNatClampNeg) v22.2).bind fun v23 => mf_Mo_pass_79 b0 b1 b3 v23)
def mf_Mo_pass_18 (b0 : Nat) (b1 : Int32) (b2 : Int32) (s0 : Int32) (g : wm_Sg) : Option wm_Sg :=
  (mf_Mo_load b0 b1 g).bind fun v24 => if b2 = (9 : Int32) then (if b1 < 0 ∨ sh_n (sh_r b0 4) ≤ (b1).toNatClampNeg then none else (mf_Mo_join b0 (v24 (sh_r b0 4) (b1).toNatClampNeg) v24).bind fun v25 => mf_Mo_pass_132 v25) else (if b2 = (7 : Int32) then (mf_Mo_pass_55 b0 b1 s0 v24) else (if b2 = (8 : Int32) then (mf_Mo_pass_55 b0 b1 s0 v24) else (if b2 = (11 : Int32) then (mf_Mo_pass_132 v24) else ((mf_Mo_worked b0 b1 v24).bind fun v26 => if v26.1 = (0 : Int32) then (mf_Mo_pass_132 v26.2) else ((mf_Mo_join b0 (b1 + (1 : Int32)) v26.2).bind fun v27 => mf_Mo_pass_132 v27)))))
def mf_Mo_pass (a0 : Nat) (a1 : Int32) (g : wm_Sg) : Option wm_Sg :=
  if a1 < 0 ∨ sh_n (sh_r a0 1) ≤ (a1).toNatClampNeg then none else if (g (sh_r a0 1) (a1).toNatClampNeg) = (7 : Int32) then (mf_Mo_pass_18 a0 a1 (g (sh_r a0 1) (a1).toNatClampNeg) (2 : Int32) g) else (mf_Mo_pass_18 a0 a1 (g (sh_r a0 1) (a1).toNatClampNeg) (1 : Int32) g)
set_option maxHeartbeats 4000000 in
set_option maxRecDepth 100000 in
theorem mc_Mo_pass {l : Launch} {G : wm_G} (a0 : Nat) (a1 : Int32) (g : wm_Sg) (v : wm_Sg) (k0 : kd a0 = 8) (h : mf_Mo_pass a0 a1 g = some v) : wm_Mv l G y_Mo_pass ws_Mo_pass 5 wm_n (wm_S G) [.ref (G.B + a0), .int a1] g (fun u => u = v) := by
  refine wm_in_v (cc := c_Mo_pass) (maxL := 4) (by decide) rfl (Nat.le_of_ble_eq_true rfl) (fun X C _ E => ?_)
  have c_132 : ∀ (g : wm_Sg), mf_Mo_pass_132  g = some v → wm_W G X 4 0 0 wm_n (wm_S G) g 132 [] [] := by
    intro g h
    unfold mf_Mo_pass_132 at h
    exact E _ _ _ d_Mo_pass_132 (Option.some.inj h)
  have c_79 : ∀ (b0 : Nat) (b1 : Int32) (b3 : Int32) (k0 : kd b0 = 8) (g : wm_Sg), mf_Mo_pass_79 b0 b1 b3 g = some v → wm_W G X 4 0 0 wm_n (wm_S G) g 79 [(0, .ref (G.B + b0)), (1, .int b1), (3, .int b3)] [] := by
    intro b0 b1 b3 k0 g h
    unfold mf_Mo_pass_79 at h
    refine wm_aload_n C d_Mo_pass_79 rfl ?_
    refine wm_iload_n C d_Mo_pass_80 rfl ?_
    refine wk_bind h (fun v19 e19 h => wm_cVv (ci := 8) (q := (Rn_8, Tn_8, 25)) (na := 1) C (mc_Mo_load b0 b1 g v19 k0 e19) (gc_Mo_load mw_2_147) (kd_lt (by rw [k0]; decide)) rfl ⟨_, wm_S_8 k0 _⟩ rfl rfl (by decide +kernel) rfl (by decide) (by decide) d_Mo_pass_81 rfl (Nat.le_of_ble_eq_true rfl) (Nat.zero_le _) (Nat.zero_le _) (fun u19 q19 => ?_))
    subst u19
    refine wm_aload_n C d_Mo_pass_84 rfl ?_
    refine wm_aload_n C d_Mo_pass_85 rfl ?_
    refine gt_8_2 C k0 (ws_in iw_8) (ws_1 mw_1_230) d_Mo_pass_86 ?_
    refine wm_iload_n C d_Mo_pass_89 rfl ?_
    refine wk_iald C (kr_8_2 k0) d_Mo_pass_90 h (fun h => ?_)
    refine wm_bipush (v := (7 : Int32)) C d_Mo_pass_91 (by decide) ?_
    refine wm_iload_n C d_Mo_pass_93 rfl ?_
    refine wm_isub C d_Mo_pass_94 ?_
    refine wk_bind h (fun v20 e20 h => wm_cVi (ci := 8) (q := (Rn_8, Tn_8, 25)) (na := 2) C (mc_Mo_only b0 (v19 (sh_r b0 2) (b1).toNatClampNeg) ((7 : Int32) - b3) v19 v20 k0 e20) (gc_Mo_only mw_2_151) (kd_lt (by rw [k0]; decide)) rfl ⟨_, wm_S_8 k0 _⟩ rfl rfl (by decide +kernel) rfl (by decide) (by decide) d_Mo_pass_95 rfl (Nat.le_of_ble_eq_true rfl) (Nat.zero_le _) (Nat.zero_le _) (fun r20 u20 q20 => ?_))
    obtain ⟨rfl, rfl⟩ := q20
    refine wk_if_eq (tgt := 132) C d_Mo_pass_98 rfl h (fun _ h => ?_) (fun _ h => ?_)
    · refine wk_cut (c_132 v20.2 h) ?_
      exact trivial
    · refine wm_aload_n C d_Mo_pass_101 rfl ?_
      refine wm_iload_n C d_Mo_pass_102 rfl ?_
      refine wm_iconst (v := (1 : Int32)) C d_Mo_pass_103 (by decide) ?_
      refine wm_iadd C d_Mo_pass_104 ?_
      refine wk_bind h (fun v21 e21 h => wm_cVv (ci := 8) (q := (Rn_8, Tn_8, 25)) (na := 1) C (mc_Mo_join b0 (b1 + (1 : Int32)) v20.2 v21 k0 e21) (gc_Mo_join mw_2_126) (kd_lt (by rw [k0]; decide)) rfl ⟨_, wm_S_8 k0 _⟩ rfl rfl (by decide +kernel) rfl (by decide) (by decide) d_Mo_pass_105 rfl (Nat.le_of_ble_eq_true rfl) (Nat.zero_le _) (Nat.zero_le _) (fun u21 q21 => ?_))
      subst u21
      refine wm_goto (tgt := 132) C d_Mo_pass_108 rfl ?_
      refine wk_cut (c_132 v21 h) ?_
      exact trivial
  have c_55 : ∀ (b0 : Nat) (b1 : Int32) (b3 : Int32) (k0 : kd b0 = 8) (g : wm_Sg), mf_Mo_pass_55 b0 b1 b3 g = some v → wm_W G X 4 0 0 wm_n (wm_S G) g 55 [(0, .ref (G.B + b0)), (1, .int b1), (3, .int b3)] [] := by
    intro b0 b1 b3 k0 g h
    unfold mf_Mo_pass_55 at h
    refine wm_aload_n C d_Mo_pass_55 rfl ?_
    refine wm_aload_n C d_Mo_pass_56 rfl ?_
    refine gt_8_2 C k0 (ws_in iw_8) (ws_1 mw_1_230) d_Mo_pass_57 ?_
    refine wm_iload_n C d_Mo_pass_60 rfl ?_
    refine wk_iald C (kr_8_2 k0) d_Mo_pass_61 h (fun h => ?_)
    refine wm_iload_n C d_Mo_pass_62 rfl ?_
    refine wk_bind h (fun v22 e22 h => wm_cVi (ci := 8) (q := (Rn_8, Tn_8, 25)) (na := 2) C (mc_Mo_only b0 (g (sh_r b0 2) (b1).toNatClampNeg) b3 g v22 k0 e22) (gc_Mo_only mw_2_151) (kd_lt (by rw [k0]; decide)) rfl ⟨_, wm_S_8 k0 _⟩ rfl rfl (by decide +kernel) rfl (by decide) (by decide) d_Mo_pass_63 rfl (Nat.le_of_ble_eq_true rfl) (Nat.zero_le _) (Nat.zero_le _) (fun r22 u22 q22 => ?_))
    obtain ⟨rfl, rfl⟩ := q22
    refine wk_if_eq (tgt := 79) C d_Mo_pass_66 rfl h (fun _ h => ?_) (fun _ h => ?_)
    · refine wk_cut (c_79 b0 b1 b3 k0 v22.2 h) ?_
      exact ⟨rfl, rfl, rfl, trivial⟩
    · refine wm_aload_n C d_Mo_pass_69 rfl ?_
      refine wm_aload_n C d_Mo_pass_70 rfl ?_
      refine gt_8_4 C k0 (ws_in iw_8) (ws_1 mw_1_232) d_Mo_pass_71 ?_
      refine wm_iload_n C d_Mo_pass_74 rfl ?_
      refine wk_iald C (kr_8_4 k0) d_Mo_pass_75 h (fun h => ?_)
      refine wk_bind h (fun v23 e23 h => wm_cVv (ci := 8) (q := (Rn_8, Tn_8, 25)) (na := 1) C (mc_Mo_join b0 (v22.2 (sh_r b0 4) (b1).toNatClampNeg) v22.2 v23 k0 e23) (gc_Mo_join mw_2_126) (kd_lt (by rw [k0]; decide)) rfl ⟨_, wm_S_8 k0 _⟩ rfl rfl (by decide +kernel) rfl (by decide) (by decide) d_Mo_pass_76 rfl (Nat.le_of_ble_eq_true rfl) (Nat.zero_le _) (Nat.zero_le _) (fun u23 q23 => ?_))
      subst u23
      refine wk_cut (c_79 b0 b1 b3 k0 v23 h) ?_
      exact ⟨rfl, rfl, rfl, trivial⟩
  have c_18 : ∀ (b0 : Nat) (b1 : Int32) (b2 : Int32) (s0 : Int32) (k0 : kd b0 = 8) (g : wm_Sg), mf_Mo_pass_18 b0 b1 b2 s0 g = some v → wm_W G X 4 0 0 wm_n (wm_S G) g 18 [(0, .ref (G.B + b0)), (1, .int b1), (2, .int b2)] [.int s0] := by
    intro b0 b1 b2 s0 k0 g h
    unfold mf_Mo_pass_18 at h
    refine wm_istore_n C d_Mo_pass_18 (by decide) ?_
    refine wm_aload_n C d_Mo_pass_19 rfl ?_
    refine wm_iload_n C d_Mo_pass_20 rfl ?_
    refine wk_bind h (fun v24 e24 h => wm_cVv (ci := 8) (q := (Rn_8, Tn_8, 25)) (na := 1) C (mc_Mo_load b0 b1 g v24 k0 e24) (gc_Mo_load mw_2_147) (kd_lt (by rw [k0]; decide)) rfl ⟨_, wm_S_8 k0 _⟩ rfl rfl (by decide +kernel) rfl (by decide) (by decide) d_Mo_pass_21 rfl (Nat.le_of_ble_eq_true rfl) (Nat.zero_le _) (Nat.zero_le _) (fun u24 q24 => ?_))
    subst u24
    refine wm_iload_n C d_Mo_pass_24 rfl ?_
    refine wm_bipush (v := (9 : Int32)) C d_Mo_pass_25 (by decide) ?_
    refine wk_icmp_ne (tgt := 43) C d_Mo_pass_27 rfl h (fun _ h => ?_) (fun _ h => ?_)
    · refine wm_aload_n C d_Mo_pass_30 rfl ?_
      refine wm_aload_n C d_Mo_pass_31 rfl ?_
      refine gt_8_4 C k0 (ws_in iw_8) (ws_1 mw_1_232) d_Mo_pass_32 ?_
      refine wm_iload_n C d_Mo_pass_35 rfl ?_
      refine wk_iald C (kr_8_4 k0) d_Mo_pass_36 h (fun h => ?_)
      refine wk_bind h (fun v25 e25 h => wm_cVv (ci := 8) (q := (Rn_8, Tn_8, 25)) (na := 1) C (mc_Mo_join b0 (v24 (sh_r b0 4) (b1).toNatClampNeg) v24 v25 k0 e25) (gc_Mo_join mw_2_126) (kd_lt (by rw [k0]; decide)) rfl ⟨_, wm_S_8 k0 _⟩ rfl rfl (by decide +kernel) rfl (by decide) (by decide) d_Mo_pass_37 rfl (Nat.le_of_ble_eq_true rfl) (Nat.zero_le _) (Nat.zero_le _) (fun u25 q25 => ?_))
      subst u25
      refine wm_goto (tgt := 132) C d_Mo_pass_40 rfl ?_
      refine wk_cut (c_132 v25 h) ?_
      exact trivial
    · refine wm_iload_n C d_Mo_pass_43 rfl ?_
      refine wm_bipush (v := (7 : Int32)) C d_Mo_pass_44 (by decide) ?_
      refine wk_icmp_eq (tgt := 55) C d_Mo_pass_46 rfl h (fun _ h => ?_) (fun _ h => ?_)
      · refine wk_cut (c_55 b0 b1 s0 k0 v24 h) ?_
        exact ⟨rfl, rfl, rfl, trivial⟩
      · refine wm_iload_n C d_Mo_pass_49 rfl ?_
        refine wm_bipush (v := (8 : Int32)) C d_Mo_pass_50 (by decide) ?_
        refine wk_icmp_ne (tgt := 111) C d_Mo_pass_52 rfl h (fun _ h => ?_) (fun _ h => ?_)
        · refine wk_cut (c_55 b0 b1 s0 k0 v24 h) ?_
          exact ⟨rfl, rfl, rfl, trivial⟩
        · refine wm_iload_n C d_Mo_pass_111 rfl ?_
          refine wm_bipush (v := (11 : Int32)) C d_Mo_pass_112 (by decide) ?_
          refine wk_icmp_eq (tgt := 132) C d_Mo_pass_114 rfl h (fun _ h => ?_) (fun _ h => ?_)
          · refine wk_cut (c_132 v24 h) ?_
            exact trivial
          · refine wm_aload_n C d_Mo_pass_117 rfl ?_
            refine wm_iload_n C d_Mo_pass_118 rfl ?_
            refine wk_bind h (fun v26 e26 h => wm_cVi (ci := 8) (q := (Rn_8, Tn_8, 25)) (na := 1) C (mc_Mo_worked b0 b1 v24 v26 k0 e26) (gc_Mo_worked mw_2_162) (kd_lt (by rw [k0]; decide)) rfl ⟨_, wm_S_8 k0 _⟩ rfl rfl (by decide +kernel) rfl (by decide) (by decide) d_Mo_pass_119 rfl (Nat.le_of_ble_eq_true rfl) (Nat.zero_le _) (Nat.zero_le _) (fun r26 u26 q26 => ?_))
            obtain ⟨rfl, rfl⟩ := q26
            refine wk_if_eq (tgt := 132) C d_Mo_pass_122 rfl h (fun _ h => ?_) (fun _ h => ?_)
            · refine wk_cut (c_132 v26.2 h) ?_
              exact trivial
            · refine wm_aload_n C d_Mo_pass_125 rfl ?_
              refine wm_iload_n C d_Mo_pass_126 rfl ?_
              refine wm_iconst (v := (1 : Int32)) C d_Mo_pass_127 (by decide) ?_
              refine wm_iadd C d_Mo_pass_128 ?_
              refine wk_bind h (fun v27 e27 h => wm_cVv (ci := 8) (q := (Rn_8, Tn_8, 25)) (na := 1) C (mc_Mo_join b0 (b1 + (1 : Int32)) v26.2 v27 k0 e27) (gc_Mo_join mw_2_126) (kd_lt (by rw [k0]; decide)) rfl ⟨_, wm_S_8 k0 _⟩ rfl rfl (by decide +kernel) rfl (by decide) (by decide) d_Mo_pass_129 rfl (Nat.le_of_ble_eq_true rfl) (Nat.zero_le _) (Nat.zero_le _) (fun u27 q27 => ?_))
              subst u27
              refine wk_cut (c_132 v27 h) ?_
              exact trivial
  unfold mf_Mo_pass at h
  refine wm_aload_n C d_Mo_pass_0 rfl ?_
  refine gt_8_1 C k0 (ws_in iw_8) (ws_1 mw_1_229) d_Mo_pass_1 ?_
  refine wm_iload_n C d_Mo_pass_4 rfl ?_
  refine wk_iald C (kr_8_1 k0) d_Mo_pass_5 h (fun h => ?_)
  refine wm_istore_n C d_Mo_pass_6 (by decide) ?_
  refine wm_iload_n C d_Mo_pass_7 rfl ?_
  refine wm_bipush (v := (7 : Int32)) C d_Mo_pass_8 (by decide) ?_
  refine wk_icmp_ne (tgt := 17) C d_Mo_pass_10 rfl h (fun _ h => ?_) (fun _ h => ?_)
  · refine wm_iconst (v := (2 : Int32)) C d_Mo_pass_13 (by decide) ?_
    refine wm_goto (tgt := 18) C d_Mo_pass_14 rfl ?_
    refine wk_cut (c_18 a0 a1 (g (sh_r a0 1) (a1).toNatClampNeg) (2 : Int32) k0 g h) ?_
    exact ⟨rfl, rfl, rfl, trivial⟩
  · refine wm_iconst (v := (1 : Int32)) C d_Mo_pass_17 (by decide) ?_
    refine wk_cut (c_18 a0 a1 (g (sh_r a0 1) (a1).toNatClampNeg) (1 : Int32) k0 g h) ?_
    exact ⟨rfl, rfl, rfl, trivial⟩
/-! FactFlowModel.solve()V -/
def mf_Mo_solve_117 (K81 : wm_Sg → Option wm_Sg) (K95 : Int32 × wm_Sg → Option wm_Sg) (b0 : Nat) (b1 : Int32) (g : wm_Sg) : Option wm_Sg :=
  K95 ((b1 + (1 : Int32)), g)
def mf_Mo_solve_95 (K81 : wm_Sg → Option wm_Sg) (b0 : Nat) (K95 : Int32 × wm_Sg → Option wm_Sg) (a : Int32 × wm_Sg) : Option wm_Sg :=
  if (a.2 b0 0) ≤ a.1 then (K81 (a.2)) else (if a.1 < 0 ∨ sh_n (sh_r b0 6) ≤ (a.1).toNatClampNeg then none else if (a.2 (sh_r b0 6) (a.1).toNatClampNeg) = (0 : Int32) then (mf_Mo_solve_117 K81 K95 b0 a.1 a.2) else ((mf_Mo_pass b0 a.1 a.2).bind fun v11 => mf_Mo_solve_117 K81 K95 b0 a.1 v11))
def mf_Mo_solve_81 (b0 : Nat) (K81 : wm_Sg → Option wm_Sg) (a : wm_Sg) : Option wm_Sg :=
  if (a b0 10) = (0 : Int32) then (some (a)) else (lp_it (mf_Mo_solve_95 K81 b0) 2100 ((0 : Int32), wm_u a b0 10 (0 : Int32)))
def mf_Mo_solve_78 (b0 : Nat) (s0 : Int32) (s1 : Nat) (g : wm_Sg) : Option wm_Sg :=
  if s0 = 0 ∨ s0 = 1 then ( lp_it (mf_Mo_solve_81 b0) 2100 (wm_u g s1 10 s0)) else none
def mf_Mo_solve_36 (b0 : Nat) (K36 : Int32 × wm_Sg → Option wm_Sg) (a : Int32 × wm_Sg) : Option wm_Sg :=
  if (4 : Int32) ≤ a.1 then ((mf_Mo_join b0 (0 : Int32) a.2).bind fun v13 => if (v13 b0 0) ≤ (0 : Int32) then (mf_Mo_solve_78 b0 (0 : Int32) b0 v13) else (mf_Mo_solve_78 b0 (1 : Int32) b0 v13)) else ((mf_Mo_result b0 (32 : Int32) (0 : Int32) (2 : Int32) a.2).bind fun v14 => (mf_Mo_take b0 a.1 v14).bind fun v15 => K36 ((a.1 + (1 : Int32)), v15))
def mf_Mo_solve_15 (b0 : Nat) (K15 : Int32 × wm_Sg → Option wm_Sg) (a : Int32 × wm_Sg) : Option wm_Sg :=
  if (24 : Int32) ≤ a.1 then (lp_it (mf_Mo_solve_36 b0) 2100 ((0 : Int32), a.2)) else (if a.1 < 0 ∨ sh_n (sh_r b0 6) ≤ (a.1).toNatClampNeg then none else K15 ((a.1 + (1 : Int32)), wm_u a.2 (sh_r b0 6) (a.1).toNatClampNeg (0 : Int32)))
def mf_Mo_solve (a0 : Nat) (g : wm_Sg) : Option wm_Sg :=
  if (g a0 5) = (0 : Int32) then (lp_it (mf_Mo_solve_15 a0) 2100 ((0 : Int32), wm_u g a0 5 (1 : Int32))) else (some (g))
set_option maxHeartbeats 4000000 in
set_option maxRecDepth 100000 in
theorem mc_Mo_solve {l : Launch} {G : wm_G} (a0 : Nat) (g : wm_Sg) (v : wm_Sg) (k0 : kd a0 = 8) (h : mf_Mo_solve a0 g = some v) : wm_Mv l G y_Mo_solve ws_Mo_solve 6 wm_n (wm_S G) [.ref (G.B + a0)] g (fun u => u = v) := by
  refine wm_in_v (cc := c_Mo_solve) (maxL := 2) (by decide) rfl (Nat.le_of_ble_eq_true rfl) (fun X C _ E => ?_)
  have c_117 : ∀ (b0 : Nat) (b1 : Int32) (k0 : kd b0 = 8) (K81 : wm_Sg → Option wm_Sg) (hK81 : ∀ a : wm_Sg, K81 a = some v → wm_W G X 2 0 0 wm_n (wm_S G) a 81 [(0, .ref (G.B + b0))] []) (K95 : Int32 × wm_Sg → Option wm_Sg) (hK95 : ∀ a : Int32 × wm_Sg, K95 a = some v → wm_W G X 2 0 0 wm_n (wm_S G) a.2 95 [(0, .ref (G.B + b0)), (1, .int a.1)] []) (g : wm_Sg), mf_Mo_solve_117 K81 K95 b0 b1 g = some v → wm_W G X 2 0 0 wm_n (wm_S G) g 117 [(0, .ref (G.B + b0)), (1, .int b1)] [] := by
    intro b0 b1 k0 K81 hK81 K95 hK95 g h
    unfold mf_Mo_solve_117 at h
    refine wk_iinc C (1 : Int32) d_Mo_solve_117 (by decide) rfl (by decide) ?_
    refine wm_goto (tgt := 95) C d_Mo_solve_120 rfl ?_
    refine wk_cut (hK95 ((b1 + (1 : Int32)), g) h) ?_
    exact ⟨rfl, rfl, trivial⟩
  have c_95 : ∀ (b0 : Nat) (k0 : kd b0 = 8) (K81 : wm_Sg → Option wm_Sg) (hK81 : ∀ a : wm_Sg, K81 a = some v → wm_W G X 2 0 0 wm_n (wm_S G) a 81 [(0, .ref (G.B + b0))] []) (f : Nat) (a : Int32 × wm_Sg), lp_it (mf_Mo_solve_95 K81 b0) f a = some v → wm_W G X 2 0 0 wm_n (wm_S G) a.2 95 [(0, .ref (G.B + b0)), (1, .int a.1)] [] := by
    intro b0 k0 K81 hK81 f
    induction f with
    | zero => intro a h; cases h
    | succ f hK95 =>
      intro a h
      have h : mf_Mo_solve_95 K81 b0 (lp_it (mf_Mo_solve_95 K81 b0) f) a = some v := h
      unfold mf_Mo_solve_95 at h
      refine wm_iload_n C d_Mo_solve_95 rfl ?_
      refine wm_aload_n C d_Mo_solve_96 rfl ?_
      refine gt_8_0 C k0 (ws_in iw_8) (ws_1 mw_1_228) d_Mo_solve_97 ?_
      refine wk_icmp_ge (tgt := 123) C d_Mo_solve_100 rfl h (fun _ h => ?_) (fun _ h => ?_)
      · refine wm_goto (tgt := 81) C d_Mo_solve_123 rfl ?_
        refine wk_cut (hK81 (a.2) h) ?_
        exact ⟨rfl, trivial⟩
      · refine wm_aload_n C d_Mo_solve_103 rfl ?_
        refine gt_8_6 C k0 (ws_in iw_8) (ws_1 mw_1_234) d_Mo_solve_104 ?_
        refine wm_iload_n C d_Mo_solve_107 rfl ?_
        refine wk_zald C (kr_8_6 k0) d_Mo_solve_108 h (fun h => ?_)
        refine wk_if_eq (tgt := 117) C d_Mo_solve_109 rfl h (fun _ h => ?_) (fun _ h => ?_)
        · refine wk_cut (c_117 b0 a.1 k0 K81 hK81 _ hK95 a.2 h) ?_
          exact ⟨rfl, rfl, trivial⟩
        · refine wm_aload_n C d_Mo_solve_112 rfl ?_
          refine wm_iload_n C d_Mo_solve_113 rfl ?_
          refine wk_bind h (fun v11 e11 h => wm_cVv (ci := 8) (q := (Rn_8, Tn_8, 25)) (na := 1) C (mc_Mo_pass b0 a.1 a.2 v11 k0 e11) (gc_Mo_pass mw_2_143) (kd_lt (by rw [k0]; decide)) rfl ⟨_, wm_S_8 k0 _⟩ rfl rfl (by decide +kernel) rfl (by decide) (by decide) d_Mo_solve_114 rfl (Nat.le_of_ble_eq_true rfl) (Nat.zero_le _) (Nat.zero_le _) (fun u11 q11 => ?_))
          subst u11
          refine wk_cut (c_117 b0 a.1 k0 K81 hK81 _ hK95 v11 h) ?_
          exact ⟨rfl, rfl, trivial⟩
  have c_81 : ∀ (b0 : Nat) (k0 : kd b0 = 8) (f : Nat) (a : wm_Sg), lp_it (mf_Mo_solve_81 b0) f a = some v → wm_W G X 2 0 0 wm_n (wm_S G) a 81 [(0, .ref (G.B + b0))] [] := by
    intro b0 k0 f
    induction f with
    | zero => intro a h; cases h
    | succ f hK81 =>
      intro a h
      have h : mf_Mo_solve_81 b0 (lp_it (mf_Mo_solve_81 b0) f) a = some v := h
      unfold mf_Mo_solve_81 at h
      refine wm_aload_n C d_Mo_solve_81 rfl ?_
      refine gt_8_10 C k0 (ws_in iw_8) (ws_1 mw_1_238) d_Mo_solve_82 ?_
      refine wk_if_eq (tgt := 126) C d_Mo_solve_85 rfl h (fun _ h => ?_) (fun _ h => ?_)
      · exact E _ _ _ d_Mo_solve_126 (Option.some.inj h)
      · refine wm_aload_n C d_Mo_solve_88 rfl ?_
        refine wm_iconst (v := (0 : Int32)) C d_Mo_solve_89 (by decide) ?_
        refine pt_8_10 C k0 (Or.inl rfl) (ws_in iw_8) (ws_1 mw_1_238) d_Mo_solve_90 ?_
        refine wm_iconst (v := (0 : Int32)) C d_Mo_solve_93 (by decide) ?_
        refine wm_istore_n C d_Mo_solve_94 (by decide) ?_
        refine wk_cut (c_95 b0 k0 _ hK81 2100 ((0 : Int32), wm_u a b0 10 (0 : Int32)) h) ?_
        exact ⟨rfl, rfl, trivial⟩
  have c_78 : ∀ (b0 : Nat) (s0 : Int32) (s1 : Nat) (k0 : kd b0 = 8) (ks1 : kd s1 = 8) (g : wm_Sg), mf_Mo_solve_78 b0 s0 s1 g = some v → wm_W G X 2 0 0 wm_n (wm_S G) g 78 [(0, .ref (G.B + b0))] [.int s0, .ref (G.B + s1)] := by
    intro b0 s0 s1 k0 ks1 g h
    unfold mf_Mo_solve_78 at h
    refine wk_yes h (fun w12 h => ?_)
    refine pt_8_10 C ks1 w12 (ws_in iw_8) (ws_1 mw_1_238) d_Mo_solve_78 ?_
    refine wk_cut (c_81 b0 k0 2100 (wm_u g s1 10 s0) h) ?_
    exact ⟨rfl, trivial⟩
  have c_36 : ∀ (b0 : Nat) (k0 : kd b0 = 8) (f : Nat) (a : Int32 × wm_Sg), lp_it (mf_Mo_solve_36 b0) f a = some v → wm_W G X 2 0 0 wm_n (wm_S G) a.2 36 [(0, .ref (G.B + b0)), (1, .int a.1)] [] := by
    intro b0 k0 f
    induction f with
    | zero => intro a h; cases h
    | succ f hK36 =>
      intro a h
      have h : mf_Mo_solve_36 b0 (lp_it (mf_Mo_solve_36 b0) f) a = some v := h
      unfold mf_Mo_solve_36 at h
      refine wm_iload_n C d_Mo_solve_36 rfl ?_
      refine wm_iconst (v := (4 : Int32)) C d_Mo_solve_37 (by decide) ?_
      refine wk_icmp_ge (tgt := 60) C d_Mo_solve_38 rfl h (fun _ h => ?_) (fun _ h => ?_)
      · refine wm_aload_n C d_Mo_solve_60 rfl ?_
        refine wm_iconst (v := (0 : Int32)) C d_Mo_solve_61 (by decide) ?_
        refine wk_bind h (fun v13 e13 h => wm_cVv (ci := 8) (q := (Rn_8, Tn_8, 25)) (na := 1) C (mc_Mo_join b0 (0 : Int32) a.2 v13 k0 e13) (gc_Mo_join mw_2_126) (kd_lt (by rw [k0]; decide)) rfl ⟨_, wm_S_8 k0 _⟩ rfl rfl (by decide +kernel) rfl (by decide) (by decide) d_Mo_solve_62 rfl (Nat.le_of_ble_eq_true rfl) (Nat.zero_le _) (Nat.zero_le _) (fun u13 q13 => ?_))
        subst u13
        refine wm_aload_n C d_Mo_solve_65 rfl ?_
        refine wm_aload_n C d_Mo_solve_66 rfl ?_
        refine gt_8_0 C k0 (ws_in iw_8) (ws_1 mw_1_228) d_Mo_solve_67 ?_
        refine wk_if_le (tgt := 77) C d_Mo_solve_70 rfl h (fun _ h => ?_) (fun _ h => ?_)
        · refine wm_iconst (v := (0 : Int32)) C d_Mo_solve_77 (by decide) ?_
          refine wk_cut (c_78 b0 (0 : Int32) b0 k0 k0 v13 h) ?_
          exact ⟨rfl, trivial⟩
        · refine wm_iconst (v := (1 : Int32)) C d_Mo_solve_73 (by decide) ?_
          refine wm_goto (tgt := 78) C d_Mo_solve_74 rfl ?_
          refine wk_cut (c_78 b0 (1 : Int32) b0 k0 k0 v13 h) ?_
          exact ⟨rfl, trivial⟩
      · refine wm_aload_n C d_Mo_solve_41 rfl ?_
        refine wm_bipush (v := (32 : Int32)) C d_Mo_solve_42 (by decide) ?_
        refine wm_iconst (v := (0 : Int32)) C d_Mo_solve_44 (by decide) ?_
        refine wm_iconst (v := (2 : Int32)) C d_Mo_solve_45 (by decide) ?_
        refine wk_bind h (fun v14 e14 h => wm_cVv (ci := 8) (q := (Rn_8, Tn_8, 25)) (na := 3) C (mc_Mo_result b0 (32 : Int32) (0 : Int32) (2 : Int32) a.2 v14 k0 e14) (gc_Mo_result mw_2_118) (kd_lt (by rw [k0]; decide)) rfl ⟨_, wm_S_8 k0 _⟩ rfl rfl (by decide +kernel) rfl (by decide) (by decide) d_Mo_solve_46 rfl (Nat.le_of_ble_eq_true rfl) (Nat.zero_le _) (Nat.zero_le _) (fun u14 q14 => ?_))
        subst u14
        refine wm_aload_n C d_Mo_solve_49 rfl ?_
        refine wm_iload_n C d_Mo_solve_50 rfl ?_
        refine wk_bind h (fun v15 e15 h => wm_cVv (ci := 8) (q := (Rn_8, Tn_8, 25)) (na := 1) C (mc_Mo_take b0 a.1 v14 v15 k0 e15) (gc_Mo_take mw_2_122) (kd_lt (by rw [k0]; decide)) rfl ⟨_, wm_S_8 k0 _⟩ rfl rfl (by decide +kernel) rfl (by decide) (by decide) d_Mo_solve_51 rfl (Nat.le_of_ble_eq_true rfl) (Nat.zero_le _) (Nat.zero_le _) (fun u15 q15 => ?_))
        subst u15
        refine wk_iinc C (1 : Int32) d_Mo_solve_54 (by decide) rfl (by decide) ?_
        refine wm_goto (tgt := 36) C d_Mo_solve_57 rfl ?_
        refine wk_cut (hK36 ((a.1 + (1 : Int32)), v15) h) ?_
        exact ⟨rfl, rfl, trivial⟩
  have c_15 : ∀ (b0 : Nat) (k0 : kd b0 = 8) (f : Nat) (a : Int32 × wm_Sg), lp_it (mf_Mo_solve_15 b0) f a = some v → wm_W G X 2 0 0 wm_n (wm_S G) a.2 15 [(0, .ref (G.B + b0)), (1, .int a.1)] [] := by
    intro b0 k0 f
    induction f with
    | zero => intro a h; cases h
    | succ f hK15 =>
      intro a h
      have h : mf_Mo_solve_15 b0 (lp_it (mf_Mo_solve_15 b0) f) a = some v := h
      unfold mf_Mo_solve_15 at h
      refine wm_iload_n C d_Mo_solve_15 rfl ?_
      refine wm_bipush (v := (24 : Int32)) C d_Mo_solve_16 (by decide) ?_
      refine wk_icmp_ge (tgt := 34) C d_Mo_solve_18 rfl h (fun _ h => ?_) (fun _ h => ?_)
      · refine wm_iconst (v := (0 : Int32)) C d_Mo_solve_34 (by decide) ?_
        refine wm_istore_n C d_Mo_solve_35 (by decide) ?_
        refine wk_cut (c_36 b0 k0 2100 ((0 : Int32), a.2) h) ?_
        exact ⟨rfl, rfl, trivial⟩
      · refine wm_aload_n C d_Mo_solve_21 rfl ?_
        refine gt_8_6 C k0 (ws_in iw_8) (ws_1 mw_1_234) d_Mo_solve_22 ?_
        refine wm_iload_n C d_Mo_solve_25 rfl ?_
        refine wm_iconst (v := (0 : Int32)) C d_Mo_solve_26 (by decide) ?_
        refine wk_zast C (kr_8_6 k0) rfl d_Mo_solve_27 h (fun h => ?_)
        refine wk_iinc C (1 : Int32) d_Mo_solve_28 (by decide) rfl (by decide) ?_
        refine wm_goto (tgt := 15) C d_Mo_solve_31 rfl ?_
        refine wk_cut (hK15 ((a.1 + (1 : Int32)), wm_u a.2 (sh_r b0 6) (a.1).toNatClampNeg (0 : Int32)) h) ?_
        exact ⟨rfl, rfl, trivial⟩
  unfold mf_Mo_solve at h
  refine wm_aload_n C d_Mo_solve_0 rfl ?_
  refine gt_8_5 C k0 (ws_in iw_8) (ws_1 mw_1_233) d_Mo_solve_1 ?_
  refine wk_if_eq (tgt := 8) C d_Mo_solve_4 rfl h (fun _ h => ?_) (fun _ h => ?_)
  · refine wm_aload_n C d_Mo_solve_8 rfl ?_
    refine wm_iconst (v := (1 : Int32)) C d_Mo_solve_9 (by decide) ?_
    refine pt_8_5 C k0 (Or.inr rfl) (ws_in iw_8) (ws_1 mw_1_233) d_Mo_solve_10 ?_
    refine wm_iconst (v := (0 : Int32)) C d_Mo_solve_13 (by decide) ?_
    refine wm_istore_n C d_Mo_solve_14 (by decide) ?_
    refine wk_cut (c_15 a0 k0 2100 ((0 : Int32), wm_u g a0 5 (1 : Int32)) h) ?_
    exact ⟨rfl, rfl, trivial⟩
  · exact E _ _ _ d_Mo_solve_7 (Option.some.inj h)
/-! FactFlowModel.reached(I)Z -/
def mf_Mo_reached_26 (s0 : Int32) (g : wm_Sg) : Option (Int32 × wm_Sg) :=
  if s0 = 0 ∨ s0 = 1 then some (s0, g) else none
def mf_Mo_reached_25  (g : wm_Sg) : Option (Int32 × wm_Sg) :=
  mf_Mo_reached_26 (0 : Int32) g
def mf_Mo_reached (a0 : Nat) (a1 : Int32) (g : wm_Sg) : Option (Int32 × wm_Sg) :=
  (mf_Mo_solve a0 g).bind fun v3 => (mf_Mo_none a0 a1 v3).bind fun v4 => if v4.1 = (0 : Int32) then (if a1 < 0 ∨ sh_n (sh_r a0 6) ≤ (a1).toNatClampNeg then none else if (v4.2 (sh_r a0 6) (a1).toNatClampNeg) = (0 : Int32) then (mf_Mo_reached_25 v4.2) else (mf_Mo_reached_26 (1 : Int32) v4.2)) else (mf_Mo_reached_25 v4.2)
set_option maxHeartbeats 4000000 in
set_option maxRecDepth 100000 in
theorem mc_Mo_reached {l : Launch} {G : wm_G} (a0 : Nat) (a1 : Int32) (g : wm_Sg) (v : (Int32 × wm_Sg)) (k0 : kd a0 = 8) (h : mf_Mo_reached a0 a1 g = some v) : wm_Mi l G y_Mo_reached ws_Mo_reached 7 wm_n (wm_S G) [.ref (G.B + a0), .int a1] g (fun r u => r = v.1 ∧ u = v.2) := by
  refine wm_in_z (cc := c_Mo_reached) (maxL := 2) (by decide) rfl (Nat.le_of_ble_eq_true rfl) (fun X C _ E => ?_)
  have c_26 : ∀ (s0 : Int32) (g : wm_Sg), mf_Mo_reached_26  s0 g = some v → wm_W G X 2 0 0 wm_n (wm_S G) g 26 [] [.int s0] := by
    intro s0 g h
    unfold mf_Mo_reached_26 at h
    exact wk_yes h (fun q h => E _ _ _ _ d_Mo_reached_26 (wk_nar q) (wk_ret h))
  have c_25 : ∀ (g : wm_Sg), mf_Mo_reached_25  g = some v → wm_W G X 2 0 0 wm_n (wm_S G) g 25 [] [] := by
    intro g h
    unfold mf_Mo_reached_25 at h
    refine wm_iconst (v := (0 : Int32)) C d_Mo_reached_25 (by decide) ?_
    refine wk_cut (c_26 (0 : Int32) g h) ?_
    exact trivial
  unfold mf_Mo_reached at h
  refine wm_aload_n C d_Mo_reached_0 rfl ?_
  refine wk_bind h (fun v3 e3 h => wm_cVv (ci := 8) (q := (Rn_8, Tn_8, 25)) (na := 0) C (mc_Mo_solve a0 g v3 k0 e3) (gc_Mo_solve mw_2_114) (kd_lt (by rw [k0]; decide)) rfl ⟨_, wm_S_8 k0 _⟩ rfl rfl (by decide +kernel) rfl (by decide) (by decide) d_Mo_reached_1 rfl (Nat.le_of_ble_eq_true rfl) (Nat.zero_le _) (Nat.zero_le _) (fun u3 q3 => ?_))
  subst u3
  refine wm_aload_n C d_Mo_reached_4 rfl ?_
  refine wm_iload_n C d_Mo_reached_5 rfl ?_
  refine wk_bind h (fun v4 e4 h => wm_cVi (ci := 8) (q := (Rn_8, Tn_8, 25)) (na := 1) C (mc_Mo_none a0 a1 v3 v4 k0 e4) (gc_Mo_none mw_2_94) (kd_lt (by rw [k0]; decide)) rfl ⟨_, wm_S_8 k0 _⟩ rfl rfl (by decide +kernel) rfl (by decide) (by decide) d_Mo_reached_6 rfl (Nat.le_of_ble_eq_true rfl) (Nat.zero_le _) (Nat.zero_le _) (fun r4 u4 q4 => ?_))
  obtain ⟨rfl, rfl⟩ := q4
  refine wk_if_ne (tgt := 25) C d_Mo_reached_9 rfl h (fun _ h => ?_) (fun _ h => ?_)
  · refine wm_aload_n C d_Mo_reached_12 rfl ?_
    refine gt_8_6 C k0 (ws_in iw_8) (ws_1 mw_1_234) d_Mo_reached_13 ?_
    refine wm_iload_n C d_Mo_reached_16 rfl ?_
    refine wk_zald C (kr_8_6 k0) d_Mo_reached_17 h (fun h => ?_)
    refine wk_if_eq (tgt := 25) C d_Mo_reached_18 rfl h (fun _ h => ?_) (fun _ h => ?_)
    · refine wk_cut (c_25 v4.2 h) ?_
      exact trivial
    · refine wm_iconst (v := (1 : Int32)) C d_Mo_reached_21 (by decide) ?_
      refine wm_goto (tgt := 26) C d_Mo_reached_22 rfl ?_
      refine wk_cut (c_26 (1 : Int32) v4.2 h) ?_
      exact trivial
  · refine wk_cut (c_25 v4.2 h) ?_
    exact trivial
/-! FactFlowModel.untold(II)Z -/
def mf_Mo_untold_33 (s0 : Int32) (g : wm_Sg) : Option (Int32 × wm_Sg) :=
  if s0 = 0 ∨ s0 = 1 then some (s0, g) else none
def mf_Mo_untold_28  (g : wm_Sg) : Option (Int32 × wm_Sg) :=
  mf_Mo_untold_33 (1 : Int32) g
def mf_Mo_untold (a0 : Nat) (a1 : Int32) (a2 : Int32) (g : wm_Sg) : Option (Int32 × wm_Sg) :=
  (mf_Mo_solve a0 g).bind fun v4 => (mf_Mo_none a0 a1 v4).bind fun v5 => if v5.1 = (0 : Int32) then (if a1 < 0 ∨ sh_n (sh_r a0 6) ≤ (a1).toNatClampNeg then none else if (v5.2 (sh_r a0 6) (a1).toNatClampNeg) = (0 : Int32) then (mf_Mo_untold_28 v5.2) else ((mf_Mo_isVariable a2 v5.2).bind fun v6 => if v6.1 = (0 : Int32) then (mf_Mo_untold_28 v6.2) else (mf_Mo_untold_33 (0 : Int32) v6.2))) else (mf_Mo_untold_28 v5.2)
set_option maxHeartbeats 4000000 in
set_option maxRecDepth 100000 in
theorem mc_Mo_untold {l : Launch} {G : wm_G} (a0 : Nat) (a1 : Int32) (a2 : Int32) (g : wm_Sg) (v : (Int32 × wm_Sg)) (k0 : kd a0 = 8) (h : mf_Mo_untold a0 a1 a2 g = some v) : wm_Mi l G y_Mo_untold ws_Mo_untold 7 wm_n (wm_S G) [.ref (G.B + a0), .int a1, .int a2] g (fun r u => r = v.1 ∧ u = v.2) := by
  refine wm_in_z (cc := c_Mo_untold) (maxL := 3) (by decide) rfl (Nat.le_of_ble_eq_true rfl) (fun X C _ E => ?_)
  have c_33 : ∀ (s0 : Int32) (g : wm_Sg), mf_Mo_untold_33  s0 g = some v → wm_W G X 3 0 0 wm_n (wm_S G) g 33 [] [.int s0] := by
    intro s0 g h
    unfold mf_Mo_untold_33 at h
    exact wk_yes h (fun q h => E _ _ _ _ d_Mo_untold_33 (wk_nar q) (wk_ret h))
  have c_28 : ∀ (g : wm_Sg), mf_Mo_untold_28  g = some v → wm_W G X 3 0 0 wm_n (wm_S G) g 28 [] [] := by
    intro g h
    unfold mf_Mo_untold_28 at h
    refine wm_iconst (v := (1 : Int32)) C d_Mo_untold_28 (by decide) ?_
    refine wm_goto (tgt := 33) C d_Mo_untold_29 rfl ?_
    refine wk_cut (c_33 (1 : Int32) g h) ?_
    exact trivial
  unfold mf_Mo_untold at h
  refine wm_aload_n C d_Mo_untold_0 rfl ?_
  refine wk_bind h (fun v4 e4 h => wm_cVv (ci := 8) (q := (Rn_8, Tn_8, 25)) (na := 0) C (mc_Mo_solve a0 g v4 k0 e4) (gc_Mo_solve mw_2_114) (kd_lt (by rw [k0]; decide)) rfl ⟨_, wm_S_8 k0 _⟩ rfl rfl (by decide +kernel) rfl (by decide) (by decide) d_Mo_untold_1 rfl (Nat.le_of_ble_eq_true rfl) (Nat.zero_le _) (Nat.zero_le _) (fun u4 q4 => ?_))
  subst u4
  refine wm_aload_n C d_Mo_untold_4 rfl ?_
  refine wm_iload_n C d_Mo_untold_5 rfl ?_
  refine wk_bind h (fun v5 e5 h => wm_cVi (ci := 8) (q := (Rn_8, Tn_8, 25)) (na := 1) C (mc_Mo_none a0 a1 v4 v5 k0 e5) (gc_Mo_none mw_2_94) (kd_lt (by rw [k0]; decide)) rfl ⟨_, wm_S_8 k0 _⟩ rfl rfl (by decide +kernel) rfl (by decide) (by decide) d_Mo_untold_6 rfl (Nat.le_of_ble_eq_true rfl) (Nat.zero_le _) (Nat.zero_le _) (fun r5 u5 q5 => ?_))
  obtain ⟨rfl, rfl⟩ := q5
  refine wk_if_ne (tgt := 28) C d_Mo_untold_9 rfl h (fun _ h => ?_) (fun _ h => ?_)
  · refine wm_aload_n C d_Mo_untold_12 rfl ?_
    refine gt_8_6 C k0 (ws_in iw_8) (ws_1 mw_1_234) d_Mo_untold_13 ?_
    refine wm_iload_n C d_Mo_untold_16 rfl ?_
    refine wk_zald C (kr_8_6 k0) d_Mo_untold_17 h (fun h => ?_)
    refine wk_if_eq (tgt := 28) C d_Mo_untold_18 rfl h (fun _ h => ?_) (fun _ h => ?_)
    · refine wk_cut (c_28 v5.2 h) ?_
      exact trivial
    · refine wm_iload_n C d_Mo_untold_21 rfl ?_
      refine wk_bind h (fun v6 e6 h => wm_cSi (na := 1) C (mc_Mo_isVariable a2 v5.2 v6 e6) (gc_Mo_isVariable mw_2_74) rfl (by decide +kernel) rfl (by decide) (by decide) d_Mo_untold_22 rfl (Nat.le_of_ble_eq_true rfl) (Nat.zero_le _) (Nat.zero_le _) (fun r6 u6 q6 => ?_))
      obtain ⟨rfl, rfl⟩ := q6
      refine wk_if_ne (tgt := 32) C d_Mo_untold_25 rfl h (fun _ h => ?_) (fun _ h => ?_)
      · refine wk_cut (c_28 v6.2 h) ?_
        exact trivial
      · refine wm_iconst (v := (0 : Int32)) C d_Mo_untold_32 (by decide) ?_
        refine wk_cut (c_33 (0 : Int32) v6.2 h) ?_
        exact trivial
  · refine wk_cut (c_28 v5.2 h) ?_
    exact trivial
/-! FactFlowModel.bits(II)I -/
def mf_Mo_bits_23 (s0 : Int32) (g : wm_Sg) : Option (Int32 × wm_Sg) :=
  some (s0, g)
def mf_Mo_bits (a0 : Nat) (a1 : Int32) (a2 : Int32) (g : wm_Sg) : Option (Int32 × wm_Sg) :=
  (mf_Mo_untold a0 a1 a2 g).bind fun v2 => if v2.1 = (0 : Int32) then (if (((4 : Int32) * a1) + a2) < 0 ∨ sh_n (sh_r a0 7) ≤ ((((4 : Int32) * a1) + a2)).toNatClampNeg then none else mf_Mo_bits_23 (v2.2 (sh_r a0 7) ((((4 : Int32) * a1) + a2)).toNatClampNeg) v2.2) else (mf_Mo_bits_23 (-1 : Int32) v2.2)
set_option maxHeartbeats 4000000 in
set_option maxRecDepth 100000 in
theorem mc_Mo_bits {l : Launch} {G : wm_G} (a0 : Nat) (a1 : Int32) (a2 : Int32) (g : wm_Sg) (v : (Int32 × wm_Sg)) (k0 : kd a0 = 8) (h : mf_Mo_bits a0 a1 a2 g = some v) : wm_Mi l G y_Mo_bits ws_Mo_bits 8 wm_n (wm_S G) [.ref (G.B + a0), .int a1, .int a2] g (fun r u => r = v.1 ∧ u = v.2) := by
  refine wm_in_i (cc := c_Mo_bits) (maxL := 3) (by decide) rfl (Nat.le_of_ble_eq_true rfl) (fun X C _ E => ?_)
  have c_23 : ∀ (s0 : Int32) (g : wm_Sg), mf_Mo_bits_23  s0 g = some v → wm_W G X 3 0 0 wm_n (wm_S G) g 23 [] [.int s0] := by
    intro s0 g h
    unfold mf_Mo_bits_23 at h
    exact E _ _ _ _ d_Mo_bits_23 (wk_ret h)
  unfold mf_Mo_bits at h
  refine wm_aload_n C d_Mo_bits_0 rfl ?_
  refine wm_iload_n C d_Mo_bits_1 rfl ?_
  refine wm_iload_n C d_Mo_bits_2 rfl ?_
  refine wk_bind h (fun v2 e2 h => wm_cVi (ci := 8) (q := (Rn_8, Tn_8, 25)) (na := 2) C (mc_Mo_untold a0 a1 a2 g v2 k0 e2) (gc_Mo_untold mw_2_193) (kd_lt (by rw [k0]; decide)) rfl ⟨_, wm_S_8 k0 _⟩ rfl rfl (by decide +kernel) rfl (by decide) (by decide) d_Mo_bits_3 rfl (Nat.le_of_ble_eq_true rfl) (Nat.zero_le _) (Nat.zero_le _) (fun r2 u2 q2 => ?_))
  obtain ⟨rfl, rfl⟩ := q2
  refine wk_if_eq (tgt := 13) C d_Mo_bits_6 rfl h (fun _ h => ?_) (fun _ h => ?_)
  · refine wm_aload_n C d_Mo_bits_13 rfl ?_
    refine gt_8_7 C k0 (ws_in iw_8) (ws_1 mw_1_235) d_Mo_bits_14 ?_
    refine wm_iconst (v := (4 : Int32)) C d_Mo_bits_17 (by decide) ?_
    refine wm_iload_n C d_Mo_bits_18 rfl ?_
    refine wm_imul C d_Mo_bits_19 ?_
    refine wm_iload_n C d_Mo_bits_20 rfl ?_
    refine wm_iadd C d_Mo_bits_21 ?_
    refine wk_iald C (kr_8_7 k0) d_Mo_bits_22 h (fun h => ?_)
    refine wk_cut (c_23 (v2.2 (sh_r a0 7) ((((4 : Int32) * a1) + a2)).toNatClampNeg) v2.2 h) ?_
    exact trivial
  · refine wm_iconst (v := (-1 : Int32)) C d_Mo_bits_9 (by decide) ?_
    refine wm_goto (tgt := 23) C d_Mo_bits_10 rfl ?_
    refine wk_cut (c_23 (-1 : Int32) v2.2 h) ?_
    exact trivial
/-! FactFlowModel.rest(II)I -/
def mf_Mo_rest_23 (s0 : Int32) (g : wm_Sg) : Option (Int32 × wm_Sg) :=
  some (s0, g)
def mf_Mo_rest (a0 : Nat) (a1 : Int32) (a2 : Int32) (g : wm_Sg) : Option (Int32 × wm_Sg) :=
  (mf_Mo_untold a0 a1 a2 g).bind fun v2 => if v2.1 = (0 : Int32) then (if (((4 : Int32) * a1) + a2) < 0 ∨ sh_n (sh_r a0 8) ≤ ((((4 : Int32) * a1) + a2)).toNatClampNeg then none else mf_Mo_rest_23 (v2.2 (sh_r a0 8) ((((4 : Int32) * a1) + a2)).toNatClampNeg) v2.2) else (mf_Mo_rest_23 (0 : Int32) v2.2)
set_option maxHeartbeats 4000000 in
set_option maxRecDepth 100000 in
theorem mc_Mo_rest {l : Launch} {G : wm_G} (a0 : Nat) (a1 : Int32) (a2 : Int32) (g : wm_Sg) (v : (Int32 × wm_Sg)) (k0 : kd a0 = 8) (h : mf_Mo_rest a0 a1 a2 g = some v) : wm_Mi l G y_Mo_rest ws_Mo_rest 8 wm_n (wm_S G) [.ref (G.B + a0), .int a1, .int a2] g (fun r u => r = v.1 ∧ u = v.2) := by
  refine wm_in_i (cc := c_Mo_rest) (maxL := 3) (by decide) rfl (Nat.le_of_ble_eq_true rfl) (fun X C _ E => ?_)
  have c_23 : ∀ (s0 : Int32) (g : wm_Sg), mf_Mo_rest_23  s0 g = some v → wm_W G X 3 0 0 wm_n (wm_S G) g 23 [] [.int s0] := by
    intro s0 g h
    unfold mf_Mo_rest_23 at h
    exact E _ _ _ _ d_Mo_rest_23 (wk_ret h)
  unfold mf_Mo_rest at h
  refine wm_aload_n C d_Mo_rest_0 rfl ?_
  refine wm_iload_n C d_Mo_rest_1 rfl ?_
  refine wm_iload_n C d_Mo_rest_2 rfl ?_
  refine wk_bind h (fun v2 e2 h => wm_cVi (ci := 8) (q := (Rn_8, Tn_8, 25)) (na := 2) C (mc_Mo_untold a0 a1 a2 g v2 k0 e2) (gc_Mo_untold mw_2_193) (kd_lt (by rw [k0]; decide)) rfl ⟨_, wm_S_8 k0 _⟩ rfl rfl (by decide +kernel) rfl (by decide) (by decide) d_Mo_rest_3 rfl (Nat.le_of_ble_eq_true rfl) (Nat.zero_le _) (Nat.zero_le _) (fun r2 u2 q2 => ?_))
  obtain ⟨rfl, rfl⟩ := q2
  refine wk_if_eq (tgt := 13) C d_Mo_rest_6 rfl h (fun _ h => ?_) (fun _ h => ?_)
  · refine wm_aload_n C d_Mo_rest_13 rfl ?_
    refine gt_8_8 C k0 (ws_in iw_8) (ws_1 mw_1_236) d_Mo_rest_14 ?_
    refine wm_iconst (v := (4 : Int32)) C d_Mo_rest_17 (by decide) ?_
    refine wm_iload_n C d_Mo_rest_18 rfl ?_
    refine wm_imul C d_Mo_rest_19 ?_
    refine wm_iload_n C d_Mo_rest_20 rfl ?_
    refine wm_iadd C d_Mo_rest_21 ?_
    refine wk_iald C (kr_8_8 k0) d_Mo_rest_22 h (fun h => ?_)
    refine wk_cut (c_23 (v2.2 (sh_r a0 8) ((((4 : Int32) * a1) + a2)).toNatClampNeg) v2.2 h) ?_
    exact trivial
  · refine wm_iconst (v := (0 : Int32)) C d_Mo_rest_9 (by decide) ?_
    refine wm_goto (tgt := 23) C d_Mo_rest_10 rfl ?_
    refine wk_cut (c_23 (0 : Int32) v2.2 h) ?_
    exact trivial
/-! FactFlowModel.signs(II)I -/
def mf_Mo_signs_23 (s0 : Int32) (g : wm_Sg) : Option (Int32 × wm_Sg) :=
  some (s0, g)
def mf_Mo_signs (a0 : Nat) (a1 : Int32) (a2 : Int32) (g : wm_Sg) : Option (Int32 × wm_Sg) :=
  (mf_Mo_untold a0 a1 a2 g).bind fun v2 => if v2.1 = (0 : Int32) then (if (((4 : Int32) * a1) + a2) < 0 ∨ sh_n (sh_r a0 9) ≤ ((((4 : Int32) * a1) + a2)).toNatClampNeg then none else mf_Mo_signs_23 (v2.2 (sh_r a0 9) ((((4 : Int32) * a1) + a2)).toNatClampNeg) v2.2) else (mf_Mo_signs_23 (0 : Int32) v2.2)
set_option maxHeartbeats 4000000 in
set_option maxRecDepth 100000 in
theorem mc_Mo_signs {l : Launch} {G : wm_G} (a0 : Nat) (a1 : Int32) (a2 : Int32) (g : wm_Sg) (v : (Int32 × wm_Sg)) (k0 : kd a0 = 8) (h : mf_Mo_signs a0 a1 a2 g = some v) : wm_Mi l G y_Mo_signs ws_Mo_signs 8 wm_n (wm_S G) [.ref (G.B + a0), .int a1, .int a2] g (fun r u => r = v.1 ∧ u = v.2) := by
  refine wm_in_i (cc := c_Mo_signs) (maxL := 3) (by decide) rfl (Nat.le_of_ble_eq_true rfl) (fun X C _ E => ?_)
  have c_23 : ∀ (s0 : Int32) (g : wm_Sg), mf_Mo_signs_23  s0 g = some v → wm_W G X 3 0 0 wm_n (wm_S G) g 23 [] [.int s0] := by
    intro s0 g h
    unfold mf_Mo_signs_23 at h
    exact E _ _ _ _ d_Mo_signs_23 (wk_ret h)
  unfold mf_Mo_signs at h
  refine wm_aload_n C d_Mo_signs_0 rfl ?_
  refine wm_iload_n C d_Mo_signs_1 rfl ?_
  refine wm_iload_n C d_Mo_signs_2 rfl ?_
  refine wk_bind h (fun v2 e2 h => wm_cVi (ci := 8) (q := (Rn_8, Tn_8, 25)) (na := 2) C (mc_Mo_untold a0 a1 a2 g v2 k0 e2) (gc_Mo_untold mw_2_193) (kd_lt (by rw [k0]; decide)) rfl ⟨_, wm_S_8 k0 _⟩ rfl rfl (by decide +kernel) rfl (by decide) (by decide) d_Mo_signs_3 rfl (Nat.le_of_ble_eq_true rfl) (Nat.zero_le _) (Nat.zero_le _) (fun r2 u2 q2 => ?_))
  obtain ⟨rfl, rfl⟩ := q2
  refine wk_if_eq (tgt := 13) C d_Mo_signs_6 rfl h (fun _ h => ?_) (fun _ h => ?_)
  · refine wm_aload_n C d_Mo_signs_13 rfl ?_
    refine gt_8_9 C k0 (ws_in iw_8) (ws_1 mw_1_237) d_Mo_signs_14 ?_
    refine wm_iconst (v := (4 : Int32)) C d_Mo_signs_17 (by decide) ?_
    refine wm_iload_n C d_Mo_signs_18 rfl ?_
    refine wm_imul C d_Mo_signs_19 ?_
    refine wm_iload_n C d_Mo_signs_20 rfl ?_
    refine wm_iadd C d_Mo_signs_21 ?_
    refine wk_iald C (kr_8_9 k0) d_Mo_signs_22 h (fun h => ?_)
    refine wk_cut (c_23 (v2.2 (sh_r a0 9) ((((4 : Int32) * a1) + a2)).toNatClampNeg) v2.2 h) ?_
    exact trivial
  · refine wm_iconst (v := (0 : Int32)) C d_Mo_signs_9 (by decide) ?_
    refine wm_goto (tgt := 23) C d_Mo_signs_10 rfl ?_
    refine wk_cut (c_23 (0 : Int32) v2.2 h) ?_
    exact trivial
/-! FactFlowModel.written(I)Z -/
def mf_Mo_written_118 (s0 : Int32) (g : wm_Sg) : Option (Int32 × wm_Sg) :=
  if s0 = 0 ∨ s0 = 1 then some (s0, g) else none
def mf_Mo_written_117  (g : wm_Sg) : Option (Int32 × wm_Sg) :=
  mf_Mo_written_118 (0 : Int32) g
def mf_Mo_written_55 (b0 : Nat) (b1 : Int32) (s0 : Int32) (g : wm_Sg) : Option (Int32 × wm_Sg) :=
  if b1 < 0 ∨ sh_n (sh_r b0 2) ≤ (b1).toNatClampNeg then none else if (g (sh_r b0 2) (b1).toNatClampNeg) < 0 ∨ sh_n (sh_r b0 13) ≤ ((g (sh_r b0 2) (b1).toNatClampNeg)).toNatClampNeg then none else if ((g (sh_r b0 13) ((g (sh_r b0 2) (b1).toNatClampNeg)).toNatClampNeg) &&& s0) = (0 : Int32) then ((mf_Mo_place b0 b1 (9 : Int32) (0 : Int32) (0 : Int32) (b1 + (1 : Int32)) g).bind fun v11 => if v11.1 = 0 ∨ v11.1 = 1 then some (v11.1, v11.2) else none) else (if (g (sh_r b0 13) ((g (sh_r b0 2) (b1).toNatClampNeg)).toNatClampNeg) = s0 then (if b1 < 0 ∨ sh_n (sh_r b0 4) ≤ (b1).toNatClampNeg then none else (mf_Mo_place b0 b1 (9 : Int32) (0 : Int32) (0 : Int32) (g (sh_r b0 4) (b1).toNatClampNeg) g).bind fun v12 => if v12.1 = (0 : Int32) then (mf_Mo_written_117 v12.2) else (mf_Mo_written_118 (1 : Int32) v12.2)) else (mf_Mo_written_117 g))
def mf_Mo_written_44 (b0 : Nat) (b1 : Int32) (b2 : Int32) (g : wm_Sg) : Option (Int32 × wm_Sg) :=
  if b2 = (7 : Int32) then (mf_Mo_written_55 b0 b1 (2 : Int32) g) else (mf_Mo_written_55 b0 b1 (1 : Int32) g)
def mf_Mo_written_183  (g : wm_Sg) : Option (Int32 × wm_Sg) :=
  some ((0 : Int32), g)
def mf_Mo_written_154 (b0 : Nat) (b1 : Int32) (s0 : Int32) (g : wm_Sg) : Option (Int32 × wm_Sg) :=
  if s0 = (0 : Int32) then (mf_Mo_written_183 g) else ((mf_Mo_worked b0 b1 g).bind fun v13 => if v13.1 = (0 : Int32) then (mf_Mo_written_183 v13.2) else (if b1 < 0 ∨ sh_n (sh_r b0 2) ≤ (b1).toNatClampNeg then none else if (v13.2 (sh_r b0 2) (b1).toNatClampNeg) < 0 ∨ sh_n (sh_r b0 11) ≤ ((v13.2 (sh_r b0 2) (b1).toNatClampNeg)).toNatClampNeg then none else if (v13.2 (sh_r b0 11) ((v13.2 (sh_r b0 2) (b1).toNatClampNeg)).toNatClampNeg) = (32 : Int32) then (if b1 < 0 ∨ sh_n (sh_r b0 2) ≤ (b1).toNatClampNeg then none else if b1 < 0 ∨ sh_n (sh_r b0 2) ≤ (b1).toNatClampNeg then none else if (v13.2 (sh_r b0 2) (b1).toNatClampNeg) < 0 ∨ sh_n (sh_r b0 12) ≤ ((v13.2 (sh_r b0 2) (b1).toNatClampNeg)).toNatClampNeg then none else (mf_Mo_place b0 b1 (0 : Int32) (v13.2 (sh_r b0 2) (b1).toNatClampNeg) (0 : Int32) (v13.2 (sh_r b0 12) ((v13.2 (sh_r b0 2) (b1).toNatClampNeg)).toNatClampNeg) v13.2).bind fun v14 => if v14.1 = 0 ∨ v14.1 = 1 then some (v14.1, v14.2) else none) else (mf_Mo_written_183 v13.2)))
def mf_Mo_written_149 (b0 : Nat) (b1 : Int32) (g : wm_Sg) : Option (Int32 × wm_Sg) :=
  mf_Mo_written_154 b0 b1 (1 : Int32) g
def mf_Mo_written_153 (b0 : Nat) (b1 : Int32) (g : wm_Sg) : Option (Int32 × wm_Sg) :=
  mf_Mo_written_154 b0 b1 (0 : Int32) g
def mf_Mo_written_128 (b0 : Nat) (b1 : Int32) (b2 : Int32) (g : wm_Sg) : Option (Int32 × wm_Sg) :=
  if b2 = (5 : Int32) then (if b1 < 0 ∨ sh_n (sh_r b0 4) ≤ (b1).toNatClampNeg then none else if (g (sh_r b0 4) (b1).toNatClampNeg) < 0 ∨ sh_n (sh_r b0 13) ≤ ((g (sh_r b0 4) (b1).toNatClampNeg)).toNatClampNeg then none else if ((g (sh_r b0 13) ((g (sh_r b0 4) (b1).toNatClampNeg)).toNatClampNeg) &&& (2 : Int32)) = (0 : Int32) then (mf_Mo_written_149 b0 b1 g) else (mf_Mo_written_153 b0 b1 g)) else (mf_Mo_written_153 b0 b1 g)
def mf_Mo_written (a0 : Nat) (a1 : Int32) (g : wm_Sg) : Option (Int32 × wm_Sg) :=
  if a1 < 0 ∨ sh_n (sh_r a0 1) ≤ (a1).toNatClampNeg then none else if a1 < 0 ∨ sh_n (sh_r a0 6) ≤ (a1).toNatClampNeg then none else if (g (sh_r a0 6) (a1).toNatClampNeg) = (0 : Int32) then ((mf_Mo_place a0 a1 (11 : Int32) (0 : Int32) (0 : Int32) (0 : Int32) g).bind fun v15 => if v15.1 = 0 ∨ v15.1 = 1 then some (v15.1, v15.2) else none) else ((mf_Mo_load a0 a1 g).bind fun v16 => if (g (sh_r a0 1) (a1).toNatClampNeg) = (7 : Int32) then (mf_Mo_written_44 a0 a1 (g (sh_r a0 1) (a1).toNatClampNeg) v16) else (if (g (sh_r a0 1) (a1).toNatClampNeg) = (8 : Int32) then (mf_Mo_written_44 a0 a1 (g (sh_r a0 1) (a1).toNatClampNeg) v16) else (if (g (sh_r a0 1) (a1).toNatClampNeg) ≤ (0 : Int32) then (mf_Mo_written_128 a0 a1 (g (sh_r a0 1) (a1).toNatClampNeg) v16) else (if (g (sh_r a0 1) (a1).toNatClampNeg) < (5 : Int32) then (mf_Mo_written_149 a0 a1 v16) else (mf_Mo_written_128 a0 a1 (g (sh_r a0 1) (a1).toNatClampNeg) v16)))))
set_option maxHeartbeats 4000000 in
set_option maxRecDepth 100000 in
theorem mc_Mo_written {l : Launch} {G : wm_G} (a0 : Nat) (a1 : Int32) (g : wm_Sg) (v : (Int32 × wm_Sg)) (k0 : kd a0 = 8) (h : mf_Mo_written a0 a1 g = some v) : wm_Mi l G y_Mo_written ws_Mo_written 5 wm_n (wm_S G) [.ref (G.B + a0), .int a1] g (fun r u => r = v.1 ∧ u = v.2) := by
  refine wm_in_z (cc := c_Mo_written) (maxL := 5) (by decide) rfl (Nat.le_of_ble_eq_true rfl) (fun X C _ E => ?_)
  have c_118 : ∀ (s0 : Int32) (g : wm_Sg), mf_Mo_written_118  s0 g = some v → wm_W G X 5 0 0 wm_n (wm_S G) g 118 [] [.int s0] := by
    intro s0 g h
    unfold mf_Mo_written_118 at h
    exact wk_yes h (fun q h => E _ _ _ _ d_Mo_written_118 (wk_nar q) (wk_ret h))
  have c_117 : ∀ (g : wm_Sg), mf_Mo_written_117  g = some v → wm_W G X 5 0 0 wm_n (wm_S G) g 117 [] [] := by
    intro g h
    unfold mf_Mo_written_117 at h
    refine wm_iconst (v := (0 : Int32)) C d_Mo_written_117 (by decide) ?_
    refine wk_cut (c_118 (0 : Int32) g h) ?_
    exact trivial
  have c_55 : ∀ (b0 : Nat) (b1 : Int32) (s0 : Int32) (k0 : kd b0 = 8) (g : wm_Sg), mf_Mo_written_55 b0 b1 s0 g = some v → wm_W G X 5 0 0 wm_n (wm_S G) g 55 [(0, .ref (G.B + b0)), (1, .int b1)] [.int s0] := by
    intro b0 b1 s0 k0 g h
    unfold mf_Mo_written_55 at h
    refine wm_istore_n C d_Mo_written_55 (by decide) ?_
    refine wm_aload_n C d_Mo_written_56 rfl ?_
    refine gt_8_13 C k0 (ws_in iw_8) (ws_1 mw_2_1) d_Mo_written_57 ?_
    refine wm_aload_n C d_Mo_written_60 rfl ?_
    refine gt_8_2 C k0 (ws_in iw_8) (ws_1 mw_1_230) d_Mo_written_61 ?_
    refine wm_iload_n C d_Mo_written_64 rfl ?_
    refine wk_iald C (kr_8_2 k0) d_Mo_written_65 h (fun h => ?_)
    refine wk_iald C (kr_8_13 k0) d_Mo_written_66 h (fun h => ?_)
    refine wm_istore C d_Mo_written_67 (by decide) ?_
    refine wm_iload C d_Mo_written_69 rfl ?_
    refine wm_iload_n C d_Mo_written_71 rfl ?_
    refine wm_iand C d_Mo_written_72 ?_
    refine wk_if_ne (tgt := 89) C d_Mo_written_73 rfl h (fun _ h => ?_) (fun _ h => ?_)
    · refine wm_aload_n C d_Mo_written_76 rfl ?_
      refine wm_iload_n C d_Mo_written_77 rfl ?_
      refine wm_bipush (v := (9 : Int32)) C d_Mo_written_78 (by decide) ?_
      refine wm_iconst (v := (0 : Int32)) C d_Mo_written_80 (by decide) ?_
      refine wm_iconst (v := (0 : Int32)) C d_Mo_written_81 (by decide) ?_
      refine wm_iload_n C d_Mo_written_82 rfl ?_
      refine wm_iconst (v := (1 : Int32)) C d_Mo_written_83 (by decide) ?_
      refine wm_iadd C d_Mo_written_84 ?_
      refine wk_bind h (fun v11 e11 h => wm_cVi (ci := 8) (q := (Rn_8, Tn_8, 25)) (na := 5) C (mc_Mo_place b0 b1 (9 : Int32) (0 : Int32) (0 : Int32) (b1 + (1 : Int32)) g v11 k0 e11) (gc_Mo_place mw_2_83) (kd_lt (by rw [k0]; decide)) rfl ⟨_, wm_S_8 k0 _⟩ rfl rfl (by decide +kernel) rfl (by decide) (by decide) d_Mo_written_85 rfl (Nat.le_of_ble_eq_true rfl) (Nat.zero_le _) (Nat.zero_le _) (fun r11 u11 q11 => ?_))
      obtain ⟨rfl, rfl⟩ := q11
      exact wk_yes h (fun q h => E _ _ _ _ d_Mo_written_88 (wk_nar q) (wk_ret h))
    · refine wm_iload C d_Mo_written_89 rfl ?_
      refine wm_iload_n C d_Mo_written_91 rfl ?_
      refine wk_icmp_ne (tgt := 117) C d_Mo_written_92 rfl h (fun _ h => ?_) (fun _ h => ?_)
      · refine wm_aload_n C d_Mo_written_95 rfl ?_
        refine wm_iload_n C d_Mo_written_96 rfl ?_
        refine wm_bipush (v := (9 : Int32)) C d_Mo_written_97 (by decide) ?_
        refine wm_iconst (v := (0 : Int32)) C d_Mo_written_99 (by decide) ?_
        refine wm_iconst (v := (0 : Int32)) C d_Mo_written_100 (by decide) ?_
        refine wm_aload_n C d_Mo_written_101 rfl ?_
        refine gt_8_4 C k0 (ws_in iw_8) (ws_1 mw_1_232) d_Mo_written_102 ?_
        refine wm_iload_n C d_Mo_written_105 rfl ?_
        refine wk_iald C (kr_8_4 k0) d_Mo_written_106 h (fun h => ?_)
        refine wk_bind h (fun v12 e12 h => wm_cVi (ci := 8) (q := (Rn_8, Tn_8, 25)) (na := 5) C (mc_Mo_place b0 b1 (9 : Int32) (0 : Int32) (0 : Int32) (g (sh_r b0 4) (b1).toNatClampNeg) g v12 k0 e12) (gc_Mo_place mw_2_83) (kd_lt (by rw [k0]; decide)) rfl ⟨_, wm_S_8 k0 _⟩ rfl rfl (by decide +kernel) rfl (by decide) (by decide) d_Mo_written_107 rfl (Nat.le_of_ble_eq_true rfl) (Nat.zero_le _) (Nat.zero_le _) (fun r12 u12 q12 => ?_))
        obtain ⟨rfl, rfl⟩ := q12
        refine wk_if_eq (tgt := 117) C d_Mo_written_110 rfl h (fun _ h => ?_) (fun _ h => ?_)
        · refine wk_cut (c_117 v12.2 h) ?_
          exact trivial
        · refine wm_iconst (v := (1 : Int32)) C d_Mo_written_113 (by decide) ?_
          refine wm_goto (tgt := 118) C d_Mo_written_114 rfl ?_
          refine wk_cut (c_118 (1 : Int32) v12.2 h) ?_
          exact trivial
      · refine wk_cut (c_117 g h) ?_
        exact trivial
  have c_44 : ∀ (b0 : Nat) (b1 : Int32) (b2 : Int32) (k0 : kd b0 = 8) (g : wm_Sg), mf_Mo_written_44 b0 b1 b2 g = some v → wm_W G X 5 0 0 wm_n (wm_S G) g 44 [(0, .ref (G.B + b0)), (1, .int b1), (2, .int b2)] [] := by
    intro b0 b1 b2 k0 g h
    unfold mf_Mo_written_44 at h
    refine wm_iload_n C d_Mo_written_44 rfl ?_
    refine wm_bipush (v := (7 : Int32)) C d_Mo_written_45 (by decide) ?_
    refine wk_icmp_ne (tgt := 54) C d_Mo_written_47 rfl h (fun _ h => ?_) (fun _ h => ?_)
    · refine wm_iconst (v := (2 : Int32)) C d_Mo_written_50 (by decide) ?_
      refine wm_goto (tgt := 55) C d_Mo_written_51 rfl ?_
      refine wk_cut (c_55 b0 b1 (2 : Int32) k0 g h) ?_
      exact ⟨rfl, rfl, trivial⟩
    · refine wm_iconst (v := (1 : Int32)) C d_Mo_written_54 (by decide) ?_
      refine wk_cut (c_55 b0 b1 (1 : Int32) k0 g h) ?_
      exact ⟨rfl, rfl, trivial⟩
  have c_183 : ∀ (g : wm_Sg), mf_Mo_written_183  g = some v → wm_W G X 5 0 0 wm_n (wm_S G) g 183 [] [] := by
    intro g h
    unfold mf_Mo_written_183 at h
    refine wm_iconst (v := (0 : Int32)) C d_Mo_written_183 (by decide) ?_
    exact E _ _ _ _ d_Mo_written_184 rfl (wk_ret h)
  have c_154 : ∀ (b0 : Nat) (b1 : Int32) (s0 : Int32) (k0 : kd b0 = 8) (g : wm_Sg), mf_Mo_written_154 b0 b1 s0 g = some v → wm_W G X 5 0 0 wm_n (wm_S G) g 154 [(0, .ref (G.B + b0)), (1, .int b1)] [.int s0] := by
    intro b0 b1 s0 k0 g h
    unfold mf_Mo_written_154 at h
    refine wm_istore_n C d_Mo_written_154 (by decide) ?_
    refine wm_iload_n C d_Mo_written_155 rfl ?_
    refine wk_if_eq (tgt := 183) C d_Mo_written_156 rfl h (fun _ h => ?_) (fun _ h => ?_)
    · refine wk_cut (c_183 g h) ?_
      exact trivial
    · refine wm_aload_n C d_Mo_written_159 rfl ?_
      refine wm_iload_n C d_Mo_written_160 rfl ?_
      refine wk_bind h (fun v13 e13 h => wm_cVi (ci := 8) (q := (Rn_8, Tn_8, 25)) (na := 1) C (mc_Mo_worked b0 b1 g v13 k0 e13) (gc_Mo_worked mw_2_162) (kd_lt (by rw [k0]; decide)) rfl ⟨_, wm_S_8 k0 _⟩ rfl rfl (by decide +kernel) rfl (by decide) (by decide) d_Mo_written_161 rfl (Nat.le_of_ble_eq_true rfl) (Nat.zero_le _) (Nat.zero_le _) (fun r13 u13 q13 => ?_))
      obtain ⟨rfl, rfl⟩ := q13
      refine wk_if_eq (tgt := 183) C d_Mo_written_164 rfl h (fun _ h => ?_) (fun _ h => ?_)
      · refine wk_cut (c_183 v13.2 h) ?_
        exact trivial
      · refine wm_aload_n C d_Mo_written_167 rfl ?_
        refine gt_8_11 C k0 (ws_in iw_8) (ws_1 mw_1_239) d_Mo_written_168 ?_
        refine wm_aload_n C d_Mo_written_171 rfl ?_
        refine gt_8_2 C k0 (ws_in iw_8) (ws_1 mw_1_230) d_Mo_written_172 ?_
        refine wm_iload_n C d_Mo_written_175 rfl ?_
        refine wk_iald C (kr_8_2 k0) d_Mo_written_176 h (fun h => ?_)
        refine wk_iald C (kr_8_11 k0) d_Mo_written_177 h (fun h => ?_)
        refine wm_bipush (v := (32 : Int32)) C d_Mo_written_178 (by decide) ?_
        refine wk_icmp_eq (tgt := 185) C d_Mo_written_180 rfl h (fun _ h => ?_) (fun _ h => ?_)
        · refine wm_aload_n C d_Mo_written_185 rfl ?_
          refine wm_iload_n C d_Mo_written_186 rfl ?_
          refine wm_iconst (v := (0 : Int32)) C d_Mo_written_187 (by decide) ?_
          refine wm_aload_n C d_Mo_written_188 rfl ?_
          refine gt_8_2 C k0 (ws_in iw_8) (ws_1 mw_1_230) d_Mo_written_189 ?_
          refine wm_iload_n C d_Mo_written_192 rfl ?_
          refine wk_iald C (kr_8_2 k0) d_Mo_written_193 h (fun h => ?_)
          refine wm_iconst (v := (0 : Int32)) C d_Mo_written_194 (by decide) ?_
          refine wm_aload_n C d_Mo_written_195 rfl ?_
          refine gt_8_12 C k0 (ws_in iw_8) (ws_1 mw_2_0) d_Mo_written_196 ?_
          refine wm_aload_n C d_Mo_written_199 rfl ?_
          refine gt_8_2 C k0 (ws_in iw_8) (ws_1 mw_1_230) d_Mo_written_200 ?_
          refine wm_iload_n C d_Mo_written_203 rfl ?_
          refine wk_iald C (kr_8_2 k0) d_Mo_written_204 h (fun h => ?_)
          refine wk_iald C (kr_8_12 k0) d_Mo_written_205 h (fun h => ?_)
          refine wk_bind h (fun v14 e14 h => wm_cVi (ci := 8) (q := (Rn_8, Tn_8, 25)) (na := 5) C (mc_Mo_place b0 b1 (0 : Int32) (v13.2 (sh_r b0 2) (b1).toNatClampNeg) (0 : Int32) (v13.2 (sh_r b0 12) ((v13.2 (sh_r b0 2) (b1).toNatClampNeg)).toNatClampNeg) v13.2 v14 k0 e14) (gc_Mo_place mw_2_83) (kd_lt (by rw [k0]; decide)) rfl ⟨_, wm_S_8 k0 _⟩ rfl rfl (by decide +kernel) rfl (by decide) (by decide) d_Mo_written_206 rfl (Nat.le_of_ble_eq_true rfl) (Nat.zero_le _) (Nat.zero_le _) (fun r14 u14 q14 => ?_))
          obtain ⟨rfl, rfl⟩ := q14
          exact wk_yes h (fun q h => E _ _ _ _ d_Mo_written_209 (wk_nar q) (wk_ret h))
        · refine wk_cut (c_183 v13.2 h) ?_
          exact trivial
  have c_149 : ∀ (b0 : Nat) (b1 : Int32) (k0 : kd b0 = 8) (g : wm_Sg), mf_Mo_written_149 b0 b1 g = some v → wm_W G X 5 0 0 wm_n (wm_S G) g 149 [(0, .ref (G.B + b0)), (1, .int b1)] [] := by
    intro b0 b1 k0 g h
    unfold mf_Mo_written_149 at h
    refine wm_iconst (v := (1 : Int32)) C d_Mo_written_149 (by decide) ?_
    refine wm_goto (tgt := 154) C d_Mo_written_150 rfl ?_
    refine wk_cut (c_154 b0 b1 (1 : Int32) k0 g h) ?_
    exact ⟨rfl, rfl, trivial⟩
  have c_153 : ∀ (b0 : Nat) (b1 : Int32) (k0 : kd b0 = 8) (g : wm_Sg), mf_Mo_written_153 b0 b1 g = some v → wm_W G X 5 0 0 wm_n (wm_S G) g 153 [(0, .ref (G.B + b0)), (1, .int b1)] [] := by
    intro b0 b1 k0 g h
    unfold mf_Mo_written_153 at h
    refine wm_iconst (v := (0 : Int32)) C d_Mo_written_153 (by decide) ?_
    refine wk_cut (c_154 b0 b1 (0 : Int32) k0 g h) ?_
    exact ⟨rfl, rfl, trivial⟩
  have c_128 : ∀ (b0 : Nat) (b1 : Int32) (b2 : Int32) (k0 : kd b0 = 8) (g : wm_Sg), mf_Mo_written_128 b0 b1 b2 g = some v → wm_W G X 5 0 0 wm_n (wm_S G) g 128 [(0, .ref (G.B + b0)), (1, .int b1), (2, .int b2)] [] := by
    intro b0 b1 b2 k0 g h
    unfold mf_Mo_written_128 at h
    refine wm_iload_n C d_Mo_written_128 rfl ?_
    refine wm_iconst (v := (5 : Int32)) C d_Mo_written_129 (by decide) ?_
    refine wk_icmp_ne (tgt := 153) C d_Mo_written_130 rfl h (fun _ h => ?_) (fun _ h => ?_)
    · refine wm_aload_n C d_Mo_written_133 rfl ?_
      refine gt_8_13 C k0 (ws_in iw_8) (ws_1 mw_2_1) d_Mo_written_134 ?_
      refine wm_aload_n C d_Mo_written_137 rfl ?_
      refine gt_8_4 C k0 (ws_in iw_8) (ws_1 mw_1_232) d_Mo_written_138 ?_
      refine wm_iload_n C d_Mo_written_141 rfl ?_
      refine wk_iald C (kr_8_4 k0) d_Mo_written_142 h (fun h => ?_)
      refine wk_iald C (kr_8_13 k0) d_Mo_written_143 h (fun h => ?_)
      refine wm_iconst (v := (2 : Int32)) C d_Mo_written_144 (by decide) ?_
      refine wm_iand C d_Mo_written_145 ?_
      refine wk_if_ne (tgt := 153) C d_Mo_written_146 rfl h (fun _ h => ?_) (fun _ h => ?_)
      · refine wk_cut (c_149 b0 b1 k0 g h) ?_
        exact ⟨rfl, rfl, trivial⟩
      · refine wk_cut (c_153 b0 b1 k0 g h) ?_
        exact ⟨rfl, rfl, trivial⟩
    · refine wk_cut (c_153 b0 b1 k0 g h) ?_
      exact ⟨rfl, rfl, trivial⟩
  unfold mf_Mo_written at h
  refine wm_aload_n C d_Mo_written_0 rfl ?_
  refine gt_8_1 C k0 (ws_in iw_8) (ws_1 mw_1_229) d_Mo_written_1 ?_
  refine wm_iload_n C d_Mo_written_4 rfl ?_
  refine wk_iald C (kr_8_1 k0) d_Mo_written_5 h (fun h => ?_)
  refine wm_istore_n C d_Mo_written_6 (by decide) ?_
  refine wm_aload_n C d_Mo_written_7 rfl ?_
  refine gt_8_6 C k0 (ws_in iw_8) (ws_1 mw_1_234) d_Mo_written_8 ?_
  refine wm_iload_n C d_Mo_written_11 rfl ?_
  refine wk_zald C (kr_8_6 k0) d_Mo_written_12 h (fun h => ?_)
  refine wk_if_ne (tgt := 27) C d_Mo_written_13 rfl h (fun _ h => ?_) (fun _ h => ?_)
  · refine wm_aload_n C d_Mo_written_16 rfl ?_
    refine wm_iload_n C d_Mo_written_17 rfl ?_
    refine wm_bipush (v := (11 : Int32)) C d_Mo_written_18 (by decide) ?_
    refine wm_iconst (v := (0 : Int32)) C d_Mo_written_20 (by decide) ?_
    refine wm_iconst (v := (0 : Int32)) C d_Mo_written_21 (by decide) ?_
    refine wm_iconst (v := (0 : Int32)) C d_Mo_written_22 (by decide) ?_
    refine wk_bind h (fun v15 e15 h => wm_cVi (ci := 8) (q := (Rn_8, Tn_8, 25)) (na := 5) C (mc_Mo_place a0 a1 (11 : Int32) (0 : Int32) (0 : Int32) (0 : Int32) g v15 k0 e15) (gc_Mo_place mw_2_83) (kd_lt (by rw [k0]; decide)) rfl ⟨_, wm_S_8 k0 _⟩ rfl rfl (by decide +kernel) rfl (by decide) (by decide) d_Mo_written_23 rfl (Nat.le_of_ble_eq_true rfl) (Nat.zero_le _) (Nat.zero_le _) (fun r15 u15 q15 => ?_))
    obtain ⟨rfl, rfl⟩ := q15
    exact wk_yes h (fun q h => E _ _ _ _ d_Mo_written_26 (wk_nar q) (wk_ret h))
  · refine wm_aload_n C d_Mo_written_27 rfl ?_
    refine wm_iload_n C d_Mo_written_28 rfl ?_
    refine wk_bind h (fun v16 e16 h => wm_cVv (ci := 8) (q := (Rn_8, Tn_8, 25)) (na := 1) C (mc_Mo_load a0 a1 g v16 k0 e16) (gc_Mo_load mw_2_147) (kd_lt (by rw [k0]; decide)) rfl ⟨_, wm_S_8 k0 _⟩ rfl rfl (by decide +kernel) rfl (by decide) (by decide) d_Mo_written_29 rfl (Nat.le_of_ble_eq_true rfl) (Nat.zero_le _) (Nat.zero_le _) (fun u16 q16 => ?_))
    subst u16
    refine wm_iload_n C d_Mo_written_32 rfl ?_
    refine wm_bipush (v := (7 : Int32)) C d_Mo_written_33 (by decide) ?_
    refine wk_icmp_eq (tgt := 44) C d_Mo_written_35 rfl h (fun _ h => ?_) (fun _ h => ?_)
    · refine wk_cut (c_44 a0 a1 (g (sh_r a0 1) (a1).toNatClampNeg) k0 v16 h) ?_
      exact ⟨rfl, rfl, rfl, trivial⟩
    · refine wm_iload_n C d_Mo_written_38 rfl ?_
      refine wm_bipush (v := (8 : Int32)) C d_Mo_written_39 (by decide) ?_
      refine wk_icmp_ne (tgt := 119) C d_Mo_written_41 rfl h (fun _ h => ?_) (fun _ h => ?_)
      · refine wk_cut (c_44 a0 a1 (g (sh_r a0 1) (a1).toNatClampNeg) k0 v16 h) ?_
        exact ⟨rfl, rfl, rfl, trivial⟩
      · refine wm_iload_n C d_Mo_written_119 rfl ?_
        refine wk_if_le (tgt := 128) C d_Mo_written_120 rfl h (fun _ h => ?_) (fun _ h => ?_)
        · refine wk_cut (c_128 a0 a1 (g (sh_r a0 1) (a1).toNatClampNeg) k0 v16 h) ?_
          exact ⟨rfl, rfl, rfl, trivial⟩
        · refine wm_iload_n C d_Mo_written_123 rfl ?_
          refine wm_iconst (v := (5 : Int32)) C d_Mo_written_124 (by decide) ?_
          refine wk_icmp_lt (tgt := 149) C d_Mo_written_125 rfl h (fun _ h => ?_) (fun _ h => ?_)
          · refine wk_cut (c_149 a0 a1 k0 v16 h) ?_
            exact ⟨rfl, rfl, trivial⟩
          · refine wk_cut (c_128 a0 a1 (g (sh_r a0 1) (a1).toNatClampNeg) k0 v16 h) ?_
            exact ⟨rfl, rfl, rfl, trivial⟩
/-! FactFlowModel.rewrite()I -/
def mf_Mo_rewrite_31 (K8 : Int32 × Int32 × wm_Sg → Option (Int32 × wm_Sg)) (b0 : Nat) (b2 : Int32) (s0 : Int32) (g : wm_Sg) : Option (Int32 × wm_Sg) :=
  K8 (s0, (b2 + (1 : Int32)), g)
def mf_Mo_rewrite_8 (b0 : Nat) (K8 : Int32 × Int32 × wm_Sg → Option (Int32 × wm_Sg)) (a : Int32 × Int32 × wm_Sg) : Option (Int32 × wm_Sg) :=
  if (a.2.2 b0 0) ≤ a.2.1 then (some (a.1, wm_u a.2.2 b0 5 (0 : Int32))) else ((mf_Mo_written b0 a.2.1 a.2.2).bind fun v4 => if v4.1 = (0 : Int32) then (mf_Mo_rewrite_31 K8 b0 a.2.1 a.1 v4.2) else (mf_Mo_rewrite_31 K8 b0 a.2.1 (a.1 + (1 : Int32)) v4.2))
def mf_Mo_rewrite (a0 : Nat) (g : wm_Sg) : Option (Int32 × wm_Sg) :=
  (mf_Mo_solve a0 g).bind fun v5 => lp_it (mf_Mo_rewrite_8 a0) 2100 ((0 : Int32), (0 : Int32), v5)
set_option maxHeartbeats 4000000 in
set_option maxRecDepth 100000 in
theorem mc_Mo_rewrite {l : Launch} {G : wm_G} (a0 : Nat) (g : wm_Sg) (v : (Int32 × wm_Sg)) (k0 : kd a0 = 8) (h : mf_Mo_rewrite a0 g = some v) : wm_Mi l G y_Mo_rewrite ws_Mo_rewrite 7 wm_n (wm_S G) [.ref (G.B + a0)] g (fun r u => r = v.1 ∧ u = v.2) := by
  refine wm_in_i (cc := c_Mo_rewrite) (maxL := 3) (by decide) rfl (Nat.le_of_ble_eq_true rfl) (fun X C _ E => ?_)
  have c_31 : ∀ (b0 : Nat) (b2 : Int32) (s0 : Int32) (k0 : kd b0 = 8) (K8 : Int32 × Int32 × wm_Sg → Option (Int32 × wm_Sg)) (hK8 : ∀ a : Int32 × Int32 × wm_Sg, K8 a = some v → wm_W G X 3 0 0 wm_n (wm_S G) a.2.2 8 [(0, .ref (G.B + b0)), (1, .int a.1), (2, .int a.2.1)] []) (g : wm_Sg), mf_Mo_rewrite_31 K8 b0 b2 s0 g = some v → wm_W G X 3 0 0 wm_n (wm_S G) g 31 [(0, .ref (G.B + b0)), (2, .int b2)] [.int s0] := by
    intro b0 b2 s0 k0 K8 hK8 g h
    unfold mf_Mo_rewrite_31 at h
    refine wm_istore_n C d_Mo_rewrite_31 (by decide) ?_
    refine wk_iinc C (1 : Int32) d_Mo_rewrite_32 (by decide) rfl (by decide) ?_
    refine wm_goto (tgt := 8) C d_Mo_rewrite_35 rfl ?_
    refine wk_cut (hK8 (s0, (b2 + (1 : Int32)), g) h) ?_
    exact ⟨rfl, rfl, rfl, trivial⟩
  have c_8 : ∀ (b0 : Nat) (k0 : kd b0 = 8) (f : Nat) (a : Int32 × Int32 × wm_Sg), lp_it (mf_Mo_rewrite_8 b0) f a = some v → wm_W G X 3 0 0 wm_n (wm_S G) a.2.2 8 [(0, .ref (G.B + b0)), (1, .int a.1), (2, .int a.2.1)] [] := by
    intro b0 k0 f
    induction f with
    | zero => intro a h; cases h
    | succ f hK8 =>
      intro a h
      have h : mf_Mo_rewrite_8 b0 (lp_it (mf_Mo_rewrite_8 b0) f) a = some v := h
      unfold mf_Mo_rewrite_8 at h
      refine wm_iload_n C d_Mo_rewrite_8 rfl ?_
      refine wm_aload_n C d_Mo_rewrite_9 rfl ?_
      refine gt_8_0 C k0 (ws_in iw_8) (ws_1 mw_1_228) d_Mo_rewrite_10 ?_
      refine wk_icmp_ge (tgt := 38) C d_Mo_rewrite_13 rfl h (fun _ h => ?_) (fun _ h => ?_)
      · refine wm_aload_n C d_Mo_rewrite_38 rfl ?_
        refine wm_iconst (v := (0 : Int32)) C d_Mo_rewrite_39 (by decide) ?_
        refine pt_8_5 C k0 (Or.inl rfl) (ws_in iw_8) (ws_1 mw_1_233) d_Mo_rewrite_40 ?_
        refine wm_iload_n C d_Mo_rewrite_43 rfl ?_
        exact E _ _ _ _ d_Mo_rewrite_44 (wk_ret h)
      · refine wm_aload_n C d_Mo_rewrite_16 rfl ?_
        refine wm_iload_n C d_Mo_rewrite_17 rfl ?_
        refine wk_bind h (fun v4 e4 h => wm_cVi (ci := 8) (q := (Rn_8, Tn_8, 25)) (na := 1) C (mc_Mo_written b0 a.2.1 a.2.2 v4 k0 e4) (gc_Mo_written mw_2_209) (kd_lt (by rw [k0]; decide)) rfl ⟨_, wm_S_8 k0 _⟩ rfl rfl (by decide +kernel) rfl (by decide) (by decide) d_Mo_rewrite_18 rfl (Nat.le_of_ble_eq_true rfl) (Nat.zero_le _) (Nat.zero_le _) (fun r4 u4 q4 => ?_))
        obtain ⟨rfl, rfl⟩ := q4
        refine wk_if_eq (tgt := 30) C d_Mo_rewrite_21 rfl h (fun _ h => ?_) (fun _ h => ?_)
        · refine wm_iload_n C d_Mo_rewrite_30 rfl ?_
          refine wk_cut (c_31 b0 a.2.1 a.1 k0 _ hK8 v4.2 h) ?_
          exact ⟨rfl, rfl, trivial⟩
        · refine wm_iload_n C d_Mo_rewrite_24 rfl ?_
          refine wm_iconst (v := (1 : Int32)) C d_Mo_rewrite_25 (by decide) ?_
          refine wm_iadd C d_Mo_rewrite_26 ?_
          refine wm_goto (tgt := 31) C d_Mo_rewrite_27 rfl ?_
          refine wk_cut (c_31 b0 a.2.1 (a.1 + (1 : Int32)) k0 _ hK8 v4.2 h) ?_
          exact ⟨rfl, rfl, trivial⟩
  unfold mf_Mo_rewrite at h
  refine wm_aload_n C d_Mo_rewrite_0 rfl ?_
  refine wk_bind h (fun v5 e5 h => wm_cVv (ci := 8) (q := (Rn_8, Tn_8, 25)) (na := 0) C (mc_Mo_solve a0 g v5 k0 e5) (gc_Mo_solve mw_2_114) (kd_lt (by rw [k0]; decide)) rfl ⟨_, wm_S_8 k0 _⟩ rfl rfl (by decide +kernel) rfl (by decide) (by decide) d_Mo_rewrite_1 rfl (Nat.le_of_ble_eq_true rfl) (Nat.zero_le _) (Nat.zero_le _) (fun u5 q5 => ?_))
  subst u5
  refine wm_iconst (v := (0 : Int32)) C d_Mo_rewrite_4 (by decide) ?_
  refine wm_istore_n C d_Mo_rewrite_5 (by decide) ?_
  refine wm_iconst (v := (0 : Int32)) C d_Mo_rewrite_6 (by decide) ?_
  refine wm_istore_n C d_Mo_rewrite_7 (by decide) ?_
  refine wk_cut (c_8 a0 k0 2100 ((0 : Int32), (0 : Int32), v5) h) ?_
  exact ⟨rfl, rfl, rfl, trivial⟩
