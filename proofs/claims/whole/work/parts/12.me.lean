/-! FactFlow$Machine.placeBehind(LFactFlow$Instruction;I)I -/
def mf_Ma_placeBehind_62 (s0 : Int32) (g : wm_Sg) : Option (Int32 × wm_Sg) :=
  some (s0, g)
def mf_Ma_placeBehind_85 (s0 : Int32) (g : wm_Sg) : Option (Int32 × wm_Sg) :=
  some (s0, g)
def mf_Ma_placeBehind (a0 : Nat) (a1 : Nat) (a2 : Int32) (g : wm_Sg) : Option (Int32 × wm_Sg) :=
  if (g a1 0) = (7 : Int32) then (if (g a1 1) < 0 ∨ sh_n (sh_r a0 0) ≤ ((g a1 1)).toNatClampNeg then none else if (g (sh_r a0 0) ((g a1 1)).toNatClampNeg) = (0 : Int32) then (mf_Ma_placeBehind_62 (g a1 3) g) else (mf_Ma_placeBehind_62 (a2 + (1 : Int32)) g)) else if (g a1 0) = (8 : Int32) then (if (g a1 1) < 0 ∨ sh_n (sh_r a0 0) ≤ ((g a1 1)).toNatClampNeg then none else if (0 : Int32) ≤ (g (sh_r a0 0) ((g a1 1)).toNatClampNeg) then (mf_Ma_placeBehind_85 (a2 + (1 : Int32)) g) else (mf_Ma_placeBehind_85 (g a1 3) g)) else if (g a1 0) = (9 : Int32) then (some ((g a1 3), g)) else if (g a1 0) = (10 : Int32) then (some ((a2 + (1 : Int32)), g)) else if (g a1 0) = (11 : Int32) then (some ((24 : Int32), g)) else (some ((a2 + (1 : Int32)), g))
set_option maxHeartbeats 4000000 in
set_option maxRecDepth 100000 in
theorem mc_Ma_placeBehind {l : Launch} {G : wm_G} (a0 : Nat) (a1 : Nat) (a2 : Int32) (g : wm_Sg) (v : (Int32 × wm_Sg)) (k0 : kd a0 = 7) (k1 : kd a1 = 2) (h : mf_Ma_placeBehind a0 a1 a2 g = some v) : wm_Mi l G y_Ma_placeBehind ws_Ma_placeBehind 0 wm_n (wm_S G) [.ref (G.B + a0), .ref (G.B + a1), .int a2] g (fun r u => r = v.1 ∧ u = v.2) := by
  refine wm_in_i (cc := c_Ma_placeBehind) (maxL := 3) (by decide) rfl (Nat.le_of_ble_eq_true rfl) (fun X C _ E => ?_)
  have c_62 : ∀ (s0 : Int32) (g : wm_Sg), mf_Ma_placeBehind_62  s0 g = some v → wm_W G X 3 0 0 wm_n (wm_S G) g 62 [] [.int s0] := by
    intro s0 g h
    unfold mf_Ma_placeBehind_62 at h
    exact E _ _ _ _ d_Ma_placeBehind_62 (wk_ret h)
  have c_85 : ∀ (s0 : Int32) (g : wm_Sg), mf_Ma_placeBehind_85  s0 g = some v → wm_W G X 3 0 0 wm_n (wm_S G) g 85 [] [.int s0] := by
    intro s0 g h
    unfold mf_Ma_placeBehind_85 at h
    exact E _ _ _ _ d_Ma_placeBehind_85 (wk_ret h)
  unfold mf_Ma_placeBehind at h
  refine wm_aload_n C d_Ma_placeBehind_0 rfl ?_
  refine gt_2_0 C k1 (ws_in iw_2) (ws_1 mw_0_57) d_Ma_placeBehind_1 ?_
  refine wk_ite h (fun w6 h => ?_) (fun w6 h => ?_)
  · refine wk_tableEq (tgt := 40) C d_Ma_placeBehind_4 w6 (by decide) (by decide) rfl rfl ?_
    refine wm_aload_n C d_Ma_placeBehind_40 rfl ?_
    refine gt_7_0 C k0 (ws_in iw_7) (ws_1 mw_0_164) d_Ma_placeBehind_41 ?_
    refine wm_aload_n C d_Ma_placeBehind_44 rfl ?_
    refine gt_2_1 C k1 (ws_in iw_2) (ws_1 mw_0_63) d_Ma_placeBehind_45 ?_
    refine wk_iald C (kr_7_0 k0) d_Ma_placeBehind_48 h (fun h => ?_)
    refine wk_if_ne (tgt := 59) C d_Ma_placeBehind_49 rfl h (fun _ h => ?_) (fun _ h => ?_)
    · refine wm_aload_n C d_Ma_placeBehind_52 rfl ?_
      refine gt_2_3 C k1 (ws_in iw_2) (ws_1 mw_0_71) d_Ma_placeBehind_53 ?_
      refine wm_goto (tgt := 62) C d_Ma_placeBehind_56 rfl ?_
      refine wk_cut (c_62 (g a1 3) g h) ?_
      exact trivial
    · refine wm_iload_n C d_Ma_placeBehind_59 rfl ?_
      refine wm_iconst (v := (1 : Int32)) C d_Ma_placeBehind_60 (by decide) ?_
      refine wm_iadd C d_Ma_placeBehind_61 ?_
      refine wk_cut (c_62 (a2 + (1 : Int32)) g h) ?_
      exact trivial
  · refine wk_ite h (fun w7 h => ?_) (fun w7 h => ?_)
    · refine wk_tableEq (tgt := 63) C d_Ma_placeBehind_4 w7 (by decide) (by decide) rfl rfl ?_
      refine wm_aload_n C d_Ma_placeBehind_63 rfl ?_
      refine gt_7_0 C k0 (ws_in iw_7) (ws_1 mw_0_164) d_Ma_placeBehind_64 ?_
      refine wm_aload_n C d_Ma_placeBehind_67 rfl ?_
      refine gt_2_1 C k1 (ws_in iw_2) (ws_1 mw_0_63) d_Ma_placeBehind_68 ?_
      refine wk_iald C (kr_7_0 k0) d_Ma_placeBehind_71 h (fun h => ?_)
      refine wk_if_ge (tgt := 82) C d_Ma_placeBehind_72 rfl h (fun _ h => ?_) (fun _ h => ?_)
      · refine wm_iload_n C d_Ma_placeBehind_82 rfl ?_
        refine wm_iconst (v := (1 : Int32)) C d_Ma_placeBehind_83 (by decide) ?_
        refine wm_iadd C d_Ma_placeBehind_84 ?_
        refine wk_cut (c_85 (a2 + (1 : Int32)) g h) ?_
        exact trivial
      · refine wm_aload_n C d_Ma_placeBehind_75 rfl ?_
        refine gt_2_3 C k1 (ws_in iw_2) (ws_1 mw_0_71) d_Ma_placeBehind_76 ?_
        refine wm_goto (tgt := 85) C d_Ma_placeBehind_79 rfl ?_
        refine wk_cut (c_85 (g a1 3) g h) ?_
        exact trivial
    · refine wk_ite h (fun w8 h => ?_) (fun w8 h => ?_)
      · refine wk_tableEq (tgt := 86) C d_Ma_placeBehind_4 w8 (by decide) (by decide) rfl rfl ?_
        refine wm_aload_n C d_Ma_placeBehind_86 rfl ?_
        refine gt_2_3 C k1 (ws_in iw_2) (ws_1 mw_0_71) d_Ma_placeBehind_87 ?_
        exact E _ _ _ _ d_Ma_placeBehind_90 (wk_ret h)
      · refine wk_ite h (fun w9 h => ?_) (fun w9 h => ?_)
        · refine wk_tableEq (tgt := 94) C d_Ma_placeBehind_4 w9 (by decide) (by decide) rfl rfl ?_
          refine wm_iload_n C d_Ma_placeBehind_94 rfl ?_
          refine wm_iconst (v := (1 : Int32)) C d_Ma_placeBehind_95 (by decide) ?_
          refine wm_iadd C d_Ma_placeBehind_96 ?_
          exact E _ _ _ _ d_Ma_placeBehind_97 (wk_ret h)
        · refine wk_ite h (fun w10 h => ?_) (fun w10 h => ?_)
          · refine wk_tableEq (tgt := 91) C d_Ma_placeBehind_4 w10 (by decide) (by decide) rfl rfl ?_
            refine wm_bipush (v := (24 : Int32)) C d_Ma_placeBehind_91 (by decide) ?_
            exact E _ _ _ _ d_Ma_placeBehind_93 (wk_ret h)
          · have w6 := wk_nt (z := 7) w6 (by decide)
            have w7 := wk_nt (z := 8) w7 (by decide)
            have w8 := wk_nt (z := 9) w8 (by decide)
            have w9 := wk_nt (z := 10) w9 (by decide)
            have w10 := wk_nt (z := 11) w10 (by decide)
            refine wm_tableOut (tgt := 94) C d_Ma_placeBehind_4 (by omega) rfl ?_
            refine wm_iload_n C d_Ma_placeBehind_94 rfl ?_
            refine wm_iconst (v := (1 : Int32)) C d_Ma_placeBehind_95 (by decide) ?_
            refine wm_iadd C d_Ma_placeBehind_96 ?_
            exact E _ _ _ _ d_Ma_placeBehind_97 (wk_ret h)
/-! FactFlow$Machine.execute(LFactFlow$Program;LFactFlow$Inputs;I)I -/
def mf_Ma_execute_73 (K7 : Int32 × wm_Sg → Option (Int32 × wm_Sg)) (b0 : Nat) (b1 : Nat) (b2 : Nat) (b3 : Int32) (b4 : Int32) (b5 : Nat) (g : wm_Sg) : Option (Int32 × wm_Sg) :=
  (mf_Ma_change b0 b5 b2 g).bind fun v14 => (mf_Ma_placeBehind b0 b5 b4 v14).bind fun v15 => K7 (v15.1, v15.2)
def mf_Ma_execute_126 (s0 : Int32) (g : wm_Sg) : Option (Int32 × wm_Sg) :=
  some (s0, g)
def mf_Ma_execute_109 (b1 : Nat) (b4 : Int32) (s0 : Int32) (s1 : Nat) (g : wm_Sg) : Option (Int32 × wm_Sg) :=
  (mf_Pr_has b1 b4 (wm_u g s1 4 s0)).bind fun v16 => if v16.1 = (0 : Int32) then (mf_Ma_execute_126 (1 : Int32) v16.2) else (mf_Ma_execute_126 (0 : Int32) v16.2)
def mf_Ma_execute_93 (b0 : Nat) (b1 : Nat) (b4 : Int32) (g : wm_Sg) : Option (Int32 × wm_Sg) :=
  (mf_Pr_has b1 b4 g).bind fun v17 => if v17.1 = (0 : Int32) then (mf_Ma_execute_109 b1 b4 (-1 : Int32) b0 v17.2) else (mf_Ma_execute_109 b1 b4 b4 b0 v17.2)
def mf_Ma_execute_7 (b0 : Nat) (b1 : Nat) (b2 : Nat) (b3 : Int32) (K7 : Int32 × wm_Sg → Option (Int32 × wm_Sg)) (a : Int32 × wm_Sg) : Option (Int32 × wm_Sg) :=
  if b3 ≤ (a.2 b0 3) then (mf_Ma_execute_93 b0 b1 a.1 a.2) else ((mf_Pr_has b1 a.1 a.2).bind fun v18 => if v18.1 = (0 : Int32) then (mf_Ma_execute_93 b0 b1 a.1 v18.2) else (if a.1 < 0 ∨ sh_n (sh_r b1 0) ≤ (a.1).toNatClampNeg then none else if ((wm_u v18.2 b0 3 ((v18.2 b0 3) + (1 : Int32))) (sh_r (sh_r b1 0) (a.1).toNatClampNeg) 0) = (5 : Int32) then (if ((wm_u v18.2 b0 3 ((v18.2 b0 3) + (1 : Int32))) (sh_r (sh_r b1 0) (a.1).toNatClampNeg) 3) < 0 ∨ sh_n (sh_r b0 0) ≤ (((wm_u v18.2 b0 3 ((v18.2 b0 3) + (1 : Int32))) (sh_r (sh_r b1 0) (a.1).toNatClampNeg) 3)).toNatClampNeg then none else if ((wm_u v18.2 b0 3 ((v18.2 b0 3) + (1 : Int32))) (sh_r b0 0) (((wm_u v18.2 b0 3 ((v18.2 b0 3) + (1 : Int32))) (sh_r (sh_r b1 0) (a.1).toNatClampNeg) 3)).toNatClampNeg) = (0 : Int32) then (some ((2 : Int32), wm_u (wm_u v18.2 b0 3 ((v18.2 b0 3) + (1 : Int32))) b0 4 a.1)) else (mf_Ma_execute_73 K7 b0 b1 b2 b3 a.1 (sh_r (sh_r b1 0) (a.1).toNatClampNeg) (wm_u v18.2 b0 3 ((v18.2 b0 3) + (1 : Int32))))) else (mf_Ma_execute_73 K7 b0 b1 b2 b3 a.1 (sh_r (sh_r b1 0) (a.1).toNatClampNeg) (wm_u v18.2 b0 3 ((v18.2 b0 3) + (1 : Int32))))))
def mf_Ma_execute (a0 : Nat) (a1 : Nat) (a2 : Nat) (a3 : Int32) (g : wm_Sg) : Option (Int32 × wm_Sg) :=
  (mf_Ma_begin a0 g).bind fun v20 => lp_it (mf_Ma_execute_7 a0 a1 a2 a3) 2100 ((0 : Int32), v20)
set_option maxHeartbeats 4000000 in
set_option maxRecDepth 100000 in
theorem mc_Ma_execute {l : Launch} {G : wm_G} (a0 : Nat) (a1 : Nat) (a2 : Nat) (a3 : Int32) (g : wm_Sg) (v : (Int32 × wm_Sg)) (k0 : kd a0 = 7) (k1 : kd a1 = 1) (k2 : kd a2 = 6) (h : mf_Ma_execute a0 a1 a2 a3 g = some v) : wm_Mi l G y_Ma_execute ws_Ma_execute 2 wm_n (wm_S G) [.ref (G.B + a0), .ref (G.B + a1), .ref (G.B + a2), .int a3] g (fun r u => r = v.1 ∧ u = v.2) := by
  refine wm_in_i (cc := c_Ma_execute) (maxL := 6) (by decide) rfl (Nat.le_of_ble_eq_true rfl) (fun X C _ E => ?_)
  have c_73 : ∀ (b0 : Nat) (b1 : Nat) (b2 : Nat) (b3 : Int32) (b4 : Int32) (b5 : Nat) (k0 : kd b0 = 7) (k1 : kd b1 = 1) (k2 : kd b2 = 6) (k5 : kd b5 = 2) (K7 : Int32 × wm_Sg → Option (Int32 × wm_Sg)) (hK7 : ∀ a : Int32 × wm_Sg, K7 a = some v → wm_W G X 6 0 0 wm_n (wm_S G) a.2 7 [(0, .ref (G.B + b0)), (1, .ref (G.B + b1)), (2, .ref (G.B + b2)), (3, .int b3), (4, .int a.1)] []) (g : wm_Sg), mf_Ma_execute_73 K7 b0 b1 b2 b3 b4 b5 g = some v → wm_W G X 6 0 0 wm_n (wm_S G) g 73 [(0, .ref (G.B + b0)), (1, .ref (G.B + b1)), (2, .ref (G.B + b2)), (3, .int b3), (4, .int b4), (5, .ref (G.B + b5))] [] := by
    intro b0 b1 b2 b3 b4 b5 k0 k1 k2 k5 K7 hK7 g h
    unfold mf_Ma_execute_73 at h
    refine wm_aload_n C d_Ma_execute_73 rfl ?_
    refine wm_aload C d_Ma_execute_74 rfl ?_
    refine wm_aload_n C d_Ma_execute_76 rfl ?_
    refine wk_bind h (fun v14 e14 h => wm_cVv (ci := 7) (q := (Rn_7, Tn_7, 6)) (na := 2) C (mc_Ma_change b0 b5 b2 g v14 k0 k5 k2 e14) (gc_Ma_change mw_1_185) (kd_lt (by rw [k0]; decide)) rfl ⟨_, wm_S_7 k0 _⟩ rfl rfl (by decide +kernel) rfl (by decide) (by decide) d_Ma_execute_77 rfl (Nat.le_of_ble_eq_true rfl) (Nat.zero_le _) (Nat.zero_le _) (fun u14 q14 => ?_))
    subst u14
    refine wm_aload_n C d_Ma_execute_80 rfl ?_
    refine wm_aload C d_Ma_execute_81 rfl ?_
    refine wm_iload C d_Ma_execute_83 rfl ?_
    refine wk_bind h (fun v15 e15 h => wm_cVi (ci := 7) (q := (Rn_7, Tn_7, 6)) (na := 2) C (mc_Ma_placeBehind b0 b5 b4 v14 v15 k0 k5 e15) (gc_Ma_placeBehind mw_1_198) (kd_lt (by rw [k0]; decide)) rfl ⟨_, wm_S_7 k0 _⟩ rfl rfl (by decide +kernel) rfl (by decide) (by decide) d_Ma_execute_85 rfl (Nat.le_of_ble_eq_true rfl) (Nat.zero_le _) (Nat.zero_le _) (fun r15 u15 q15 => ?_))
    obtain ⟨rfl, rfl⟩ := q15
    refine wm_istore C d_Ma_execute_88 (by decide) ?_
    refine wm_goto (tgt := 7) C d_Ma_execute_90 rfl ?_
    refine wk_cut (hK7 (v15.1, v15.2) h) ?_
    exact ⟨rfl, rfl, rfl, rfl, rfl, trivial⟩
  have c_126 : ∀ (s0 : Int32) (g : wm_Sg), mf_Ma_execute_126  s0 g = some v → wm_W G X 6 0 0 wm_n (wm_S G) g 126 [] [.int s0] := by
    intro s0 g h
    unfold mf_Ma_execute_126 at h
    exact E _ _ _ _ d_Ma_execute_126 (wk_ret h)
  have c_109 : ∀ (b1 : Nat) (b4 : Int32) (s0 : Int32) (s1 : Nat) (k1 : kd b1 = 1) (ks1 : kd s1 = 7) (g : wm_Sg), mf_Ma_execute_109 b1 b4 s0 s1 g = some v → wm_W G X 6 0 0 wm_n (wm_S G) g 109 [(1, .ref (G.B + b1)), (4, .int b4)] [.int s0, .ref (G.B + s1)] := by
    intro b1 b4 s0 s1 k1 ks1 g h
    unfold mf_Ma_execute_109 at h
    refine pt_7_4 C ks1 (ws_in iw_7) (ws_1 mw_0_172) d_Ma_execute_109 ?_
    refine wm_aload_n C d_Ma_execute_112 rfl ?_
    refine wm_iload C d_Ma_execute_113 rfl ?_
    refine wk_bind h (fun v16 e16 h => wm_cVi (ci := 1) (q := (Rn_1, Tn_1, 3)) (na := 1) C (mc_Pr_has b1 b4 (wm_u g s1 4 s0) v16 k1 e16) (gc_Pr_has mw_1_184) (kd_lt (by rw [k1]; decide)) rfl ⟨_, wm_S_1 k1 _⟩ rfl rfl (by decide +kernel) rfl (by decide) (by decide) d_Ma_execute_115 rfl (Nat.le_of_ble_eq_true rfl) (Nat.zero_le _) (Nat.zero_le _) (fun r16 u16 q16 => ?_))
    obtain ⟨rfl, rfl⟩ := q16
    refine wk_if_eq (tgt := 125) C d_Ma_execute_118 rfl h (fun _ h => ?_) (fun _ h => ?_)
    · refine wm_iconst (v := (1 : Int32)) C d_Ma_execute_125 (by decide) ?_
      refine wk_cut (c_126 (1 : Int32) v16.2 h) ?_
      exact trivial
    · refine wm_iconst (v := (0 : Int32)) C d_Ma_execute_121 (by decide) ?_
      refine wm_goto (tgt := 126) C d_Ma_execute_122 rfl ?_
      refine wk_cut (c_126 (0 : Int32) v16.2 h) ?_
      exact trivial
  have c_93 : ∀ (b0 : Nat) (b1 : Nat) (b4 : Int32) (k0 : kd b0 = 7) (k1 : kd b1 = 1) (g : wm_Sg), mf_Ma_execute_93 b0 b1 b4 g = some v → wm_W G X 6 0 0 wm_n (wm_S G) g 93 [(0, .ref (G.B + b0)), (1, .ref (G.B + b1)), (4, .int b4)] [] := by
    intro b0 b1 b4 k0 k1 g h
    unfold mf_Ma_execute_93 at h
    refine wm_aload_n C d_Ma_execute_93 rfl ?_
    refine wm_aload_n C d_Ma_execute_94 rfl ?_
    refine wm_iload C d_Ma_execute_95 rfl ?_
    refine wk_bind h (fun v17 e17 h => wm_cVi (ci := 1) (q := (Rn_1, Tn_1, 3)) (na := 1) C (mc_Pr_has b1 b4 g v17 k1 e17) (gc_Pr_has mw_1_184) (kd_lt (by rw [k1]; decide)) rfl ⟨_, wm_S_1 k1 _⟩ rfl rfl (by decide +kernel) rfl (by decide) (by decide) d_Ma_execute_97 rfl (Nat.le_of_ble_eq_true rfl) (Nat.zero_le _) (Nat.zero_le _) (fun r17 u17 q17 => ?_))
    obtain ⟨rfl, rfl⟩ := q17
    refine wk_if_eq (tgt := 108) C d_Ma_execute_100 rfl h (fun _ h => ?_) (fun _ h => ?_)
    · refine wm_iconst (v := (-1 : Int32)) C d_Ma_execute_108 (by decide) ?_
      refine wk_cut (c_109 b1 b4 (-1 : Int32) b0 k1 k0 v17.2 h) ?_
      exact ⟨rfl, rfl, trivial⟩
    · refine wm_iload C d_Ma_execute_103 rfl ?_
      refine wm_goto (tgt := 109) C d_Ma_execute_105 rfl ?_
      refine wk_cut (c_109 b1 b4 b4 b0 k1 k0 v17.2 h) ?_
      exact ⟨rfl, rfl, trivial⟩
  have c_7 : ∀ (b0 : Nat) (b1 : Nat) (b2 : Nat) (b3 : Int32) (k0 : kd b0 = 7) (k1 : kd b1 = 1) (k2 : kd b2 = 6) (f : Nat) (a : Int32 × wm_Sg), lp_it (mf_Ma_execute_7 b0 b1 b2 b3) f a = some v → wm_W G X 6 0 0 wm_n (wm_S G) a.2 7 [(0, .ref (G.B + b0)), (1, .ref (G.B + b1)), (2, .ref (G.B + b2)), (3, .int b3), (4, .int a.1)] [] := by
    intro b0 b1 b2 b3 k0 k1 k2 f
    induction f with
    | zero => intro a h; cases h
    | succ f hK7 =>
      intro a h
      have h : mf_Ma_execute_7 b0 b1 b2 b3 (lp_it (mf_Ma_execute_7 b0 b1 b2 b3) f) a = some v := h
      unfold mf_Ma_execute_7 at h
      refine wm_aload_n C d_Ma_execute_7 rfl ?_
      refine gt_7_3 C k0 (ws_in iw_7) (ws_1 mw_0_170) d_Ma_execute_8 ?_
      refine wm_iload_n C d_Ma_execute_11 rfl ?_
      refine wk_icmp_ge (tgt := 93) C d_Ma_execute_12 rfl h (fun _ h => ?_) (fun _ h => ?_)
      · refine wk_cut (c_93 b0 b1 a.1 k0 k1 a.2 h) ?_
        exact ⟨rfl, rfl, rfl, trivial⟩
      · refine wm_aload_n C d_Ma_execute_15 rfl ?_
        refine wm_iload C d_Ma_execute_16 rfl ?_
        refine wk_bind h (fun v18 e18 h => wm_cVi (ci := 1) (q := (Rn_1, Tn_1, 3)) (na := 1) C (mc_Pr_has b1 a.1 a.2 v18 k1 e18) (gc_Pr_has mw_1_184) (kd_lt (by rw [k1]; decide)) rfl ⟨_, wm_S_1 k1 _⟩ rfl rfl (by decide +kernel) rfl (by decide) (by decide) d_Ma_execute_18 rfl (Nat.le_of_ble_eq_true rfl) (Nat.zero_le _) (Nat.zero_le _) (fun r18 u18 q18 => ?_))
        obtain ⟨rfl, rfl⟩ := q18
        refine wk_if_eq (tgt := 93) C d_Ma_execute_21 rfl h (fun _ h => ?_) (fun _ h => ?_)
        · refine wk_cut (c_93 b0 b1 a.1 k0 k1 v18.2 h) ?_
          exact ⟨rfl, rfl, rfl, trivial⟩
        · refine wm_aload_n C d_Ma_execute_24 rfl ?_
          refine gt_1_0 C k1 (ws_in iw_1) (ws_1 mw_0_85) d_Ma_execute_25 ?_
          refine wm_iload C d_Ma_execute_28 rfl ?_
          refine wk_no h (fun w19 h => ?_)
          refine wk_aald_22 C (kr_1_0 k1) w19 d_Ma_execute_30 ?_
          refine wm_astore C d_Ma_execute_31 (by decide) ?_
          refine wm_aload_n C d_Ma_execute_33 rfl ?_
          refine wm_dup C d_Ma_execute_34 rfl ?_
          refine gt_7_3 C k0 (ws_in iw_7) (ws_1 mw_0_170) d_Ma_execute_35 ?_
          refine wm_iconst (v := (1 : Int32)) C d_Ma_execute_38 (by decide) ?_
          refine wm_iadd C d_Ma_execute_39 ?_
          refine pt_7_3 C k0 (ws_in iw_7) (ws_1 mw_0_170) d_Ma_execute_40 ?_
          refine wm_aload C d_Ma_execute_43 rfl ?_
          refine gt_2_0 C (kr_22 (kr_1_0 k1) w19) (ws_in iw_2) (ws_1 mw_0_57) d_Ma_execute_45 ?_
          refine wm_iconst (v := (5 : Int32)) C d_Ma_execute_48 (by decide) ?_
          refine wk_icmp_ne (tgt := 73) C d_Ma_execute_49 rfl h (fun _ h => ?_) (fun _ h => ?_)
          · refine wm_aload_n C d_Ma_execute_52 rfl ?_
            refine gt_7_0 C k0 (ws_in iw_7) (ws_1 mw_0_164) d_Ma_execute_53 ?_
            refine wm_aload C d_Ma_execute_56 rfl ?_
            refine gt_2_3 C (kr_22 (kr_1_0 k1) w19) (ws_in iw_2) (ws_1 mw_0_71) d_Ma_execute_58 ?_
            refine wk_iald C (kr_7_0 k0) d_Ma_execute_61 h (fun h => ?_)
            refine wk_if_ne (tgt := 73) C d_Ma_execute_62 rfl h (fun _ h => ?_) (fun _ h => ?_)
            · refine wm_aload_n C d_Ma_execute_65 rfl ?_
              refine wm_iload C d_Ma_execute_66 rfl ?_
              refine pt_7_4 C k0 (ws_in iw_7) (ws_1 mw_0_172) d_Ma_execute_68 ?_
              refine wm_iconst (v := (2 : Int32)) C d_Ma_execute_71 (by decide) ?_
              exact E _ _ _ _ d_Ma_execute_72 (wk_ret h)
            · refine wk_cut (c_73 b0 b1 b2 b3 a.1 (sh_r (sh_r b1 0) (a.1).toNatClampNeg) k0 k1 k2 (kr_22 (kr_1_0 k1) w19) _ hK7 (wm_u v18.2 b0 3 ((v18.2 b0 3) + (1 : Int32))) h) ?_
              exact ⟨rfl, rfl, rfl, rfl, rfl, rfl, trivial⟩
          · refine wk_cut (c_73 b0 b1 b2 b3 a.1 (sh_r (sh_r b1 0) (a.1).toNatClampNeg) k0 k1 k2 (kr_22 (kr_1_0 k1) w19) _ hK7 (wm_u v18.2 b0 3 ((v18.2 b0 3) + (1 : Int32))) h) ?_
            exact ⟨rfl, rfl, rfl, rfl, rfl, rfl, trivial⟩
  unfold mf_Ma_execute at h
  refine wm_aload_n C d_Ma_execute_0 rfl ?_
  refine wk_bind h (fun v20 e20 h => wm_cVv (ci := 7) (q := (Rn_7, Tn_7, 6)) (na := 0) C (mc_Ma_begin a0 g v20 k0 e20) (gc_Ma_begin mw_1_180) (kd_lt (by rw [k0]; decide)) rfl ⟨_, wm_S_7 k0 _⟩ rfl rfl (by decide +kernel) rfl (by decide) (by decide) d_Ma_execute_1 rfl (Nat.le_of_ble_eq_true rfl) (Nat.zero_le _) (Nat.zero_le _) (fun u20 q20 => ?_))
  subst u20
  refine wm_iconst (v := (0 : Int32)) C d_Ma_execute_4 (by decide) ?_
  refine wm_istore C d_Ma_execute_5 (by decide) ?_
  refine wk_cut (c_7 a0 a1 a2 a3 k0 k1 k2 2100 ((0 : Int32), v20) h) ?_
  exact ⟨rfl, rfl, rfl, rfl, rfl, trivial⟩
/-! FactFlow.run(I)I -/
def mf_Ff_run_11  (g : wm_Sg) : Option (Int32 × wm_Sg) :=
  some ((-1 : Int32), g)
def mf_Ff_run (a0 : Nat) (a1 : Int32) (g : wm_Sg) : Option (Int32 × wm_Sg) :=
  if a1 < (0 : Int32) then (mf_Ff_run_11 g) else (if a1 ≤ (2000 : Int32) then ((mf_Ma_execute (sh_r a0 3) (sh_r a0 0) (sh_r a0 2) a1 g).bind fun v2 => some (v2.1, v2.2)) else (mf_Ff_run_11 g))
set_option maxHeartbeats 4000000 in
set_option maxRecDepth 100000 in
theorem mc_Ff_run {l : Launch} {G : wm_G} (a0 : Nat) (a1 : Int32) (g : wm_Sg) (v : (Int32 × wm_Sg)) (k0 : kd a0 = 0) (h : mf_Ff_run a0 a1 g = some v) : wm_Mi l G y_Ff_run ws_Ff_run 3 wm_n (wm_S G) [.ref (G.B + a0), .int a1] g (fun r u => r = v.1 ∧ u = v.2) := by
  refine wm_in_i (cc := c_Ff_run) (maxL := 2) (by decide) rfl (Nat.le_of_ble_eq_true rfl) (fun X C _ E => ?_)
  have c_11 : ∀ (g : wm_Sg), mf_Ff_run_11  g = some v → wm_W G X 2 0 0 wm_n (wm_S G) g 11 [] [] := by
    intro g h
    unfold mf_Ff_run_11 at h
    refine wm_iconst (v := (-1 : Int32)) C d_Ff_run_11 (by decide) ?_
    exact E _ _ _ _ d_Ff_run_12 (wk_ret h)
  unfold mf_Ff_run at h
  refine wm_iload_n C d_Ff_run_0 rfl ?_
  refine wk_if_lt (tgt := 11) C d_Ff_run_1 rfl h (fun _ h => ?_) (fun _ h => ?_)
  · refine wk_cut (c_11 g h) ?_
    exact trivial
  · refine wm_iload_n C d_Ff_run_4 rfl ?_
    refine wm_sipush (v := (2000 : Int32)) C d_Ff_run_5 (by decide) ?_
    refine wk_icmp_le (tgt := 13) C d_Ff_run_8 rfl h (fun _ h => ?_) (fun _ h => ?_)
    · refine wm_aload_n C d_Ff_run_13 rfl ?_
      refine gt_0_3 C k0 (ws_in iw_0) (ws_1 mw_0_191) d_Ff_run_14 ?_
      refine wm_aload_n C d_Ff_run_17 rfl ?_
      refine gt_0_0 C k0 (ws_in iw_0) (ws_1 mw_0_188) d_Ff_run_18 ?_
      refine wm_aload_n C d_Ff_run_21 rfl ?_
      refine gt_0_2 C k0 (ws_in iw_0) (ws_1 mw_0_190) d_Ff_run_22 ?_
      refine wm_iload_n C d_Ff_run_25 rfl ?_
      refine wk_bind h (fun v2 e2 h => wm_cVi (ci := 7) (q := (Rn_7, Tn_7, 6)) (na := 3) C (mc_Ma_execute (sh_r a0 3) (sh_r a0 0) (sh_r a0 2) a1 g v2 (kr_0_3 k0) (kr_0_0 k0) (kr_0_2 k0) e2) (gc_Ma_execute mw_1_176) (kd_lt (by rw [(kr_0_3 k0)]; decide)) rfl ⟨_, wm_S_7 (kr_0_3 k0) _⟩ rfl rfl (by decide +kernel) rfl (by decide) (by decide) d_Ff_run_26 rfl (Nat.le_of_ble_eq_true rfl) (Nat.zero_le _) (Nat.zero_le _) (fun r2 u2 q2 => ?_))
      obtain ⟨rfl, rfl⟩ := q2
      exact E _ _ _ _ d_Ff_run_29 (wk_ret h)
    · refine wk_cut (c_11 g h) ?_
      exact trivial
/-! FactFlow.steps()I -/
def mf_Ff_steps (a0 : Nat) (g : wm_Sg) : Option (Int32 × wm_Sg) :=
  some ((g (sh_r a0 3) 3), g)
set_option maxHeartbeats 4000000 in
set_option maxRecDepth 100000 in
theorem mc_Ff_steps {l : Launch} {G : wm_G} (a0 : Nat) (g : wm_Sg) (v : (Int32 × wm_Sg)) (k0 : kd a0 = 0) (h : mf_Ff_steps a0 g = some v) : wm_Mi l G y_Ff_steps ws_Ff_steps 0 wm_n (wm_S G) [.ref (G.B + a0)] g (fun r u => r = v.1 ∧ u = v.2) := by
  refine wm_in_i (cc := c_Ff_steps) (maxL := 1) (by decide) rfl (Nat.le_of_ble_eq_true rfl) (fun X C _ E => ?_)
  unfold mf_Ff_steps at h
  refine wm_aload_n C d_Ff_steps_0 rfl ?_
  refine gt_0_3 C k0 (ws_in iw_0) (ws_1 mw_0_191) d_Ff_steps_1 ?_
  refine gt_7_3 C (kr_0_3 k0) (ws_in iw_7) (ws_1 mw_0_171) d_Ff_steps_4 ?_
  exact E _ _ _ _ d_Ff_steps_7 (wk_ret h)
/-! FactFlow.next()I -/
def mf_Ff_next (a0 : Nat) (g : wm_Sg) : Option (Int32 × wm_Sg) :=
  some ((g (sh_r a0 3) 4), g)
set_option maxHeartbeats 4000000 in
set_option maxRecDepth 100000 in
theorem mc_Ff_next {l : Launch} {G : wm_G} (a0 : Nat) (g : wm_Sg) (v : (Int32 × wm_Sg)) (k0 : kd a0 = 0) (h : mf_Ff_next a0 g = some v) : wm_Mi l G y_Ff_next ws_Ff_next 0 wm_n (wm_S G) [.ref (G.B + a0)] g (fun r u => r = v.1 ∧ u = v.2) := by
  refine wm_in_i (cc := c_Ff_next) (maxL := 1) (by decide) rfl (Nat.le_of_ble_eq_true rfl) (fun X C _ E => ?_)
  unfold mf_Ff_next at h
  refine wm_aload_n C d_Ff_next_0 rfl ?_
  refine gt_0_3 C k0 (ws_in iw_0) (ws_1 mw_0_191) d_Ff_next_1 ?_
  refine gt_7_4 C (kr_0_3 k0) (ws_in iw_7) (ws_1 mw_0_173) d_Ff_next_4 ?_
  exact E _ _ _ _ d_Ff_next_7 (wk_ret h)
/-! FactFlow.variable(I)I -/
def mf_Ff_variable_20 (s0 : Int32) (g : wm_Sg) : Option (Int32 × wm_Sg) :=
  some (s0, g)
def mf_Ff_variable (a0 : Nat) (a1 : Int32) (g : wm_Sg) : Option (Int32 × wm_Sg) :=
  (mf_Ff_isVariable a1 g).bind fun v2 => if v2.1 = (0 : Int32) then (mf_Ff_variable_20 (0 : Int32) v2.2) else (if a1 < 0 ∨ sh_n (sh_r (sh_r a0 3) 0) ≤ (a1).toNatClampNeg then none else mf_Ff_variable_20 (v2.2 (sh_r (sh_r a0 3) 0) (a1).toNatClampNeg) v2.2)
set_option maxHeartbeats 4000000 in
set_option maxRecDepth 100000 in
theorem mc_Ff_variable {l : Launch} {G : wm_G} (a0 : Nat) (a1 : Int32) (g : wm_Sg) (v : (Int32 × wm_Sg)) (k0 : kd a0 = 0) (h : mf_Ff_variable a0 a1 g = some v) : wm_Mi l G y_Ff_variable ws_Ff_variable 1 wm_n (wm_S G) [.ref (G.B + a0), .int a1] g (fun r u => r = v.1 ∧ u = v.2) := by
  refine wm_in_i (cc := c_Ff_variable) (maxL := 2) (by decide) rfl (Nat.le_of_ble_eq_true rfl) (fun X C _ E => ?_)
  have c_20 : ∀ (s0 : Int32) (g : wm_Sg), mf_Ff_variable_20  s0 g = some v → wm_W G X 2 0 0 wm_n (wm_S G) g 20 [] [.int s0] := by
    intro s0 g h
    unfold mf_Ff_variable_20 at h
    exact E _ _ _ _ d_Ff_variable_20 (wk_ret h)
  unfold mf_Ff_variable at h
  refine wm_iload_n C d_Ff_variable_0 rfl ?_
  refine wk_bind h (fun v2 e2 h => wm_cSi (na := 1) C (mc_Ff_isVariable a1 g v2 e2) (gc_Ff_isVariable mw_1_130) rfl (by decide +kernel) rfl (by decide) (by decide) d_Ff_variable_1 rfl (Nat.le_of_ble_eq_true rfl) (Nat.zero_le _) (Nat.zero_le _) (fun r2 u2 q2 => ?_))
  obtain ⟨rfl, rfl⟩ := q2
  refine wk_if_eq (tgt := 19) C d_Ff_variable_4 rfl h (fun _ h => ?_) (fun _ h => ?_)
  · refine wm_iconst (v := (0 : Int32)) C d_Ff_variable_19 (by decide) ?_
    refine wk_cut (c_20 (0 : Int32) v2.2 h) ?_
    exact trivial
  · refine wm_aload_n C d_Ff_variable_7 rfl ?_
    refine gt_0_3 C k0 (ws_in iw_0) (ws_1 mw_0_191) d_Ff_variable_8 ?_
    refine gt_7_0 C (kr_0_3 k0) (ws_in iw_7) (ws_1 mw_0_165) d_Ff_variable_11 ?_
    refine wm_iload_n C d_Ff_variable_14 rfl ?_
    refine wk_iald C (kr_7_0 (kr_0_3 k0)) d_Ff_variable_15 h (fun h => ?_)
    refine wm_goto (tgt := 20) C d_Ff_variable_16 rfl ?_
    refine wk_cut (c_20 (v2.2 (sh_r (sh_r a0 3) 0) (a1).toNatClampNeg) v2.2 h) ?_
    exact trivial
/-! FactFlow.outputs()I -/
def mf_Ff_outputs (a0 : Nat) (g : wm_Sg) : Option (Int32 × wm_Sg) :=
  some ((g (sh_r a0 3) 2), g)
set_option maxHeartbeats 4000000 in
set_option maxRecDepth 100000 in
theorem mc_Ff_outputs {l : Launch} {G : wm_G} (a0 : Nat) (g : wm_Sg) (v : (Int32 × wm_Sg)) (k0 : kd a0 = 0) (h : mf_Ff_outputs a0 g = some v) : wm_Mi l G y_Ff_outputs ws_Ff_outputs 0 wm_n (wm_S G) [.ref (G.B + a0)] g (fun r u => r = v.1 ∧ u = v.2) := by
  refine wm_in_i (cc := c_Ff_outputs) (maxL := 1) (by decide) rfl (Nat.le_of_ble_eq_true rfl) (fun X C _ E => ?_)
  unfold mf_Ff_outputs at h
  refine wm_aload_n C d_Ff_outputs_0 rfl ?_
  refine gt_0_3 C k0 (ws_in iw_0) (ws_1 mw_0_191) d_Ff_outputs_1 ?_
  refine gt_7_2 C (kr_0_3 k0) (ws_in iw_7) (ws_1 mw_0_169) d_Ff_outputs_4 ?_
  exact E _ _ _ _ d_Ff_outputs_7 (wk_ret h)
/-! FactFlow.output(I)I -/
def mf_Ff_output_34 (s0 : Int32) (g : wm_Sg) : Option (Int32 × wm_Sg) :=
  some (s0, g)
def mf_Ff_output_33  (g : wm_Sg) : Option (Int32 × wm_Sg) :=
  mf_Ff_output_34 (0 : Int32) g
def mf_Ff_output (a0 : Nat) (a1 : Int32) (g : wm_Sg) : Option (Int32 × wm_Sg) :=
  if a1 < (0 : Int32) then (mf_Ff_output_33 g) else (if (40 : Int32) ≤ a1 then (mf_Ff_output_33 g) else (if (g (sh_r a0 3) 2) ≤ a1 then (mf_Ff_output_33 g) else (if a1 < 0 ∨ sh_n (sh_r (sh_r a0 3) 1) ≤ (a1).toNatClampNeg then none else mf_Ff_output_34 (g (sh_r (sh_r a0 3) 1) (a1).toNatClampNeg) g)))
set_option maxHeartbeats 4000000 in
set_option maxRecDepth 100000 in
theorem mc_Ff_output {l : Launch} {G : wm_G} (a0 : Nat) (a1 : Int32) (g : wm_Sg) (v : (Int32 × wm_Sg)) (k0 : kd a0 = 0) (h : mf_Ff_output a0 a1 g = some v) : wm_Mi l G y_Ff_output ws_Ff_output 0 wm_n (wm_S G) [.ref (G.B + a0), .int a1] g (fun r u => r = v.1 ∧ u = v.2) := by
  refine wm_in_i (cc := c_Ff_output) (maxL := 2) (by decide) rfl (Nat.le_of_ble_eq_true rfl) (fun X C _ E => ?_)
  have c_34 : ∀ (s0 : Int32) (g : wm_Sg), mf_Ff_output_34  s0 g = some v → wm_W G X 2 0 0 wm_n (wm_S G) g 34 [] [.int s0] := by
    intro s0 g h
    unfold mf_Ff_output_34 at h
    exact E _ _ _ _ d_Ff_output_34 (wk_ret h)
  have c_33 : ∀ (g : wm_Sg), mf_Ff_output_33  g = some v → wm_W G X 2 0 0 wm_n (wm_S G) g 33 [] [] := by
    intro g h
    unfold mf_Ff_output_33 at h
    refine wm_iconst (v := (0 : Int32)) C d_Ff_output_33 (by decide) ?_
    refine wk_cut (c_34 (0 : Int32) g h) ?_
    exact trivial
  unfold mf_Ff_output at h
  refine wm_iload_n C d_Ff_output_0 rfl ?_
  refine wk_if_lt (tgt := 33) C d_Ff_output_1 rfl h (fun _ h => ?_) (fun _ h => ?_)
  · refine wk_cut (c_33 g h) ?_
    exact trivial
  · refine wm_iload_n C d_Ff_output_4 rfl ?_
    refine wm_bipush (v := (40 : Int32)) C d_Ff_output_5 (by decide) ?_
    refine wk_icmp_ge (tgt := 33) C d_Ff_output_7 rfl h (fun _ h => ?_) (fun _ h => ?_)
    · refine wk_cut (c_33 g h) ?_
      exact trivial
    · refine wm_iload_n C d_Ff_output_10 rfl ?_
      refine wm_aload_n C d_Ff_output_11 rfl ?_
      refine gt_0_3 C k0 (ws_in iw_0) (ws_1 mw_0_191) d_Ff_output_12 ?_
      refine gt_7_2 C (kr_0_3 k0) (ws_in iw_7) (ws_1 mw_0_169) d_Ff_output_15 ?_
      refine wk_icmp_ge (tgt := 33) C d_Ff_output_18 rfl h (fun _ h => ?_) (fun _ h => ?_)
      · refine wk_cut (c_33 g h) ?_
        exact trivial
      · refine wm_aload_n C d_Ff_output_21 rfl ?_
        refine gt_0_3 C k0 (ws_in iw_0) (ws_1 mw_0_191) d_Ff_output_22 ?_
        refine gt_7_1 C (kr_0_3 k0) (ws_in iw_7) (ws_1 mw_0_167) d_Ff_output_25 ?_
        refine wm_iload_n C d_Ff_output_28 rfl ?_
        refine wk_iald C (kr_7_1 (kr_0_3 k0)) d_Ff_output_29 h (fun h => ?_)
        refine wm_goto (tgt := 34) C d_Ff_output_30 rfl ?_
        refine wk_cut (c_34 (g (sh_r (sh_r a0 3) 1) (a1).toNatClampNeg) g h) ?_
        exact trivial
/-! FactFlowModel.usesFirst(I)Z -/
def mf_Mo_usesFirst_23 (s0 : Int32) (g : wm_Sg) : Option (Int32 × wm_Sg) :=
  if s0 = 0 ∨ s0 = 1 then some (s0, g) else none
def mf_Mo_usesFirst_22  (g : wm_Sg) : Option (Int32 × wm_Sg) :=
  mf_Mo_usesFirst_23 (0 : Int32) g
def mf_Mo_usesFirst (a0 : Int32) (g : wm_Sg) : Option (Int32 × wm_Sg) :=
  if a0 = (9 : Int32) then (mf_Mo_usesFirst_22 g) else (if a0 = (11 : Int32) then (mf_Mo_usesFirst_22 g) else (if a0 = (12 : Int32) then (mf_Mo_usesFirst_22 g) else (mf_Mo_usesFirst_23 (1 : Int32) g)))
set_option maxHeartbeats 4000000 in
set_option maxRecDepth 100000 in
theorem mc_Mo_usesFirst {l : Launch} {G : wm_G} (a0 : Int32) (g : wm_Sg) (v : (Int32 × wm_Sg)) (h : mf_Mo_usesFirst a0 g = some v) : wm_Mi l G y_Mo_usesFirst ws_Mo_usesFirst 0 wm_n (wm_S G) [.int a0] g (fun r u => r = v.1 ∧ u = v.2) := by
  refine wm_in_z (cc := c_Mo_usesFirst) (maxL := 1) (by decide) rfl (Nat.le_of_ble_eq_true rfl) (fun X C _ E => ?_)
  have c_23 : ∀ (s0 : Int32) (g : wm_Sg), mf_Mo_usesFirst_23  s0 g = some v → wm_W G X 1 0 0 wm_n (wm_S G) g 23 [] [.int s0] := by
    intro s0 g h
    unfold mf_Mo_usesFirst_23 at h
    exact wk_yes h (fun q h => E _ _ _ _ d_Mo_usesFirst_23 (wk_nar q) (wk_ret h))
  have c_22 : ∀ (g : wm_Sg), mf_Mo_usesFirst_22  g = some v → wm_W G X 1 0 0 wm_n (wm_S G) g 22 [] [] := by
    intro g h
    unfold mf_Mo_usesFirst_22 at h
    refine wm_iconst (v := (0 : Int32)) C d_Mo_usesFirst_22 (by decide) ?_
    refine wk_cut (c_23 (0 : Int32) g h) ?_
    exact trivial
  unfold mf_Mo_usesFirst at h
  refine wm_iload_n C d_Mo_usesFirst_0 rfl ?_
  refine wm_bipush (v := (9 : Int32)) C d_Mo_usesFirst_1 (by decide) ?_
  refine wk_icmp_eq (tgt := 22) C d_Mo_usesFirst_3 rfl h (fun _ h => ?_) (fun _ h => ?_)
  · refine wk_cut (c_22 g h) ?_
    exact trivial
  · refine wm_iload_n C d_Mo_usesFirst_6 rfl ?_
    refine wm_bipush (v := (11 : Int32)) C d_Mo_usesFirst_7 (by decide) ?_
    refine wk_icmp_eq (tgt := 22) C d_Mo_usesFirst_9 rfl h (fun _ h => ?_) (fun _ h => ?_)
    · refine wk_cut (c_22 g h) ?_
      exact trivial
    · refine wm_iload_n C d_Mo_usesFirst_12 rfl ?_
      refine wm_bipush (v := (12 : Int32)) C d_Mo_usesFirst_13 (by decide) ?_
      refine wk_icmp_eq (tgt := 22) C d_Mo_usesFirst_15 rfl h (fun _ h => ?_) (fun _ h => ?_)
      · refine wk_cut (c_22 g h) ?_
        exact trivial
      · refine wm_iconst (v := (1 : Int32)) C d_Mo_usesFirst_18 (by decide) ?_
        refine wm_goto (tgt := 23) C d_Mo_usesFirst_19 rfl ?_
        refine wk_cut (c_23 (1 : Int32) g h) ?_
        exact trivial
/-! FactFlowModel.isVariable(I)Z -/
def mf_Mo_isVariable_14 (s0 : Int32) (g : wm_Sg) : Option (Int32 × wm_Sg) :=
  if s0 = 0 ∨ s0 = 1 then some (s0, g) else none
def mf_Mo_isVariable_13  (g : wm_Sg) : Option (Int32 × wm_Sg) :=
  mf_Mo_isVariable_14 (0 : Int32) g
def mf_Mo_isVariable (a0 : Int32) (g : wm_Sg) : Option (Int32 × wm_Sg) :=
  if a0 < (0 : Int32) then (mf_Mo_isVariable_13 g) else (if (4 : Int32) ≤ a0 then (mf_Mo_isVariable_13 g) else (mf_Mo_isVariable_14 (1 : Int32) g))
set_option maxHeartbeats 4000000 in
set_option maxRecDepth 100000 in
theorem mc_Mo_isVariable {l : Launch} {G : wm_G} (a0 : Int32) (g : wm_Sg) (v : (Int32 × wm_Sg)) (h : mf_Mo_isVariable a0 g = some v) : wm_Mi l G y_Mo_isVariable ws_Mo_isVariable 0 wm_n (wm_S G) [.int a0] g (fun r u => r = v.1 ∧ u = v.2) := by
  refine wm_in_z (cc := c_Mo_isVariable) (maxL := 1) (by decide) rfl (Nat.le_of_ble_eq_true rfl) (fun X C _ E => ?_)
  have c_14 : ∀ (s0 : Int32) (g : wm_Sg), mf_Mo_isVariable_14  s0 g = some v → wm_W G X 1 0 0 wm_n (wm_S G) g 14 [] [.int s0] := by
    intro s0 g h
    unfold mf_Mo_isVariable_14 at h
    exact wk_yes h (fun q h => E _ _ _ _ d_Mo_isVariable_14 (wk_nar q) (wk_ret h))
  have c_13 : ∀ (g : wm_Sg), mf_Mo_isVariable_13  g = some v → wm_W G X 1 0 0 wm_n (wm_S G) g 13 [] [] := by
    intro g h
    unfold mf_Mo_isVariable_13 at h
    refine wm_iconst (v := (0 : Int32)) C d_Mo_isVariable_13 (by decide) ?_
    refine wk_cut (c_14 (0 : Int32) g h) ?_
    exact trivial
  unfold mf_Mo_isVariable at h
  refine wm_iload_n C d_Mo_isVariable_0 rfl ?_
  refine wk_if_lt (tgt := 13) C d_Mo_isVariable_1 rfl h (fun _ h => ?_) (fun _ h => ?_)
  · refine wk_cut (c_13 g h) ?_
    exact trivial
  · refine wm_iload_n C d_Mo_isVariable_4 rfl ?_
    refine wm_iconst (v := (4 : Int32)) C d_Mo_isVariable_5 (by decide) ?_
    refine wk_icmp_ge (tgt := 13) C d_Mo_isVariable_6 rfl h (fun _ h => ?_) (fun _ h => ?_)
    · refine wk_cut (c_13 g h) ?_
      exact trivial
    · refine wm_iconst (v := (1 : Int32)) C d_Mo_isVariable_9 (by decide) ?_
      refine wm_goto (tgt := 14) C d_Mo_isVariable_10 rfl ?_
      refine wk_cut (c_14 (1 : Int32) g h) ?_
      exact trivial
/-! FactFlowModel.jumps(I)Z -/
def mf_Mo_jumps_17 (s0 : Int32) (g : wm_Sg) : Option (Int32 × wm_Sg) :=
  if s0 = 0 ∨ s0 = 1 then some (s0, g) else none
def mf_Mo_jumps_16  (g : wm_Sg) : Option (Int32 × wm_Sg) :=
  mf_Mo_jumps_17 (0 : Int32) g
def mf_Mo_jumps (a0 : Int32) (g : wm_Sg) : Option (Int32 × wm_Sg) :=
  if a0 ≤ (6 : Int32) then (mf_Mo_jumps_16 g) else (if (10 : Int32) ≤ a0 then (mf_Mo_jumps_16 g) else (mf_Mo_jumps_17 (1 : Int32) g))
set_option maxHeartbeats 4000000 in
set_option maxRecDepth 100000 in
theorem mc_Mo_jumps {l : Launch} {G : wm_G} (a0 : Int32) (g : wm_Sg) (v : (Int32 × wm_Sg)) (h : mf_Mo_jumps a0 g = some v) : wm_Mi l G y_Mo_jumps ws_Mo_jumps 0 wm_n (wm_S G) [.int a0] g (fun r u => r = v.1 ∧ u = v.2) := by
  refine wm_in_z (cc := c_Mo_jumps) (maxL := 1) (by decide) rfl (Nat.le_of_ble_eq_true rfl) (fun X C _ E => ?_)
  have c_17 : ∀ (s0 : Int32) (g : wm_Sg), mf_Mo_jumps_17  s0 g = some v → wm_W G X 1 0 0 wm_n (wm_S G) g 17 [] [.int s0] := by
    intro s0 g h
    unfold mf_Mo_jumps_17 at h
    exact wk_yes h (fun q h => E _ _ _ _ d_Mo_jumps_17 (wk_nar q) (wk_ret h))
  have c_16 : ∀ (g : wm_Sg), mf_Mo_jumps_16  g = some v → wm_W G X 1 0 0 wm_n (wm_S G) g 16 [] [] := by
    intro g h
    unfold mf_Mo_jumps_16 at h
    refine wm_iconst (v := (0 : Int32)) C d_Mo_jumps_16 (by decide) ?_
    refine wk_cut (c_17 (0 : Int32) g h) ?_
    exact trivial
  unfold mf_Mo_jumps at h
  refine wm_iload_n C d_Mo_jumps_0 rfl ?_
  refine wm_bipush (v := (6 : Int32)) C d_Mo_jumps_1 (by decide) ?_
  refine wk_icmp_le (tgt := 16) C d_Mo_jumps_3 rfl h (fun _ h => ?_) (fun _ h => ?_)
  · refine wk_cut (c_16 g h) ?_
    exact trivial
  · refine wm_iload_n C d_Mo_jumps_6 rfl ?_
    refine wm_bipush (v := (10 : Int32)) C d_Mo_jumps_7 (by decide) ?_
    refine wk_icmp_ge (tgt := 16) C d_Mo_jumps_9 rfl h (fun _ h => ?_) (fun _ h => ?_)
    · refine wk_cut (c_16 g h) ?_
      exact trivial
    · refine wm_iconst (v := (1 : Int32)) C d_Mo_jumps_12 (by decide) ?_
      refine wm_goto (tgt := 17) C d_Mo_jumps_13 rfl ?_
      refine wk_cut (c_17 (1 : Int32) g h) ?_
      exact trivial
/-! FactFlowModel.usesSecond(I)Z -/
def mf_Mo_usesSecond_15 (s0 : Int32) (g : wm_Sg) : Option (Int32 × wm_Sg) :=
  if s0 = 0 ∨ s0 = 1 then some (s0, g) else none
def mf_Mo_usesSecond_14  (g : wm_Sg) : Option (Int32 × wm_Sg) :=
  mf_Mo_usesSecond_15 (0 : Int32) g
def mf_Mo_usesSecond (a0 : Int32) (g : wm_Sg) : Option (Int32 × wm_Sg) :=
  if a0 ≤ (0 : Int32) then (mf_Mo_usesSecond_14 g) else (if (6 : Int32) ≤ a0 then (mf_Mo_usesSecond_14 g) else (mf_Mo_usesSecond_15 (1 : Int32) g))
set_option maxHeartbeats 4000000 in
set_option maxRecDepth 100000 in
theorem mc_Mo_usesSecond {l : Launch} {G : wm_G} (a0 : Int32) (g : wm_Sg) (v : (Int32 × wm_Sg)) (h : mf_Mo_usesSecond a0 g = some v) : wm_Mi l G y_Mo_usesSecond ws_Mo_usesSecond 0 wm_n (wm_S G) [.int a0] g (fun r u => r = v.1 ∧ u = v.2) := by
  refine wm_in_z (cc := c_Mo_usesSecond) (maxL := 1) (by decide) rfl (Nat.le_of_ble_eq_true rfl) (fun X C _ E => ?_)
  have c_15 : ∀ (s0 : Int32) (g : wm_Sg), mf_Mo_usesSecond_15  s0 g = some v → wm_W G X 1 0 0 wm_n (wm_S G) g 15 [] [.int s0] := by
    intro s0 g h
    unfold mf_Mo_usesSecond_15 at h
    exact wk_yes h (fun q h => E _ _ _ _ d_Mo_usesSecond_15 (wk_nar q) (wk_ret h))
  have c_14 : ∀ (g : wm_Sg), mf_Mo_usesSecond_14  g = some v → wm_W G X 1 0 0 wm_n (wm_S G) g 14 [] [] := by
    intro g h
    unfold mf_Mo_usesSecond_14 at h
    refine wm_iconst (v := (0 : Int32)) C d_Mo_usesSecond_14 (by decide) ?_
    refine wk_cut (c_15 (0 : Int32) g h) ?_
    exact trivial
  unfold mf_Mo_usesSecond at h
  refine wm_iload_n C d_Mo_usesSecond_0 rfl ?_
  refine wk_if_le (tgt := 14) C d_Mo_usesSecond_1 rfl h (fun _ h => ?_) (fun _ h => ?_)
  · refine wk_cut (c_14 g h) ?_
    exact trivial
  · refine wm_iload_n C d_Mo_usesSecond_4 rfl ?_
    refine wm_bipush (v := (6 : Int32)) C d_Mo_usesSecond_5 (by decide) ?_
    refine wk_icmp_ge (tgt := 14) C d_Mo_usesSecond_7 rfl h (fun _ h => ?_) (fun _ h => ?_)
    · refine wk_cut (c_14 g h) ?_
      exact trivial
    · refine wm_iconst (v := (1 : Int32)) C d_Mo_usesSecond_10 (by decide) ?_
      refine wm_goto (tgt := 15) C d_Mo_usesSecond_11 rfl ?_
      refine wk_cut (c_15 (1 : Int32) g h) ?_
      exact trivial
/-! FactFlowModel.wrong(IIII)Z -/
def mf_Mo_wrong_10  (g : wm_Sg) : Option (Int32 × wm_Sg) :=
  some ((1 : Int32), g)
def mf_Mo_wrong_92 (s0 : Int32) (g : wm_Sg) : Option (Int32 × wm_Sg) :=
  if s0 = 0 ∨ s0 = 1 then some (s0, g) else none
def mf_Mo_wrong_87  (g : wm_Sg) : Option (Int32 × wm_Sg) :=
  mf_Mo_wrong_92 (1 : Int32) g
def mf_Mo_wrong_91  (g : wm_Sg) : Option (Int32 × wm_Sg) :=
  mf_Mo_wrong_92 (0 : Int32) g
def mf_Mo_wrong_70 (b0 : Int32) (b3 : Int32) (g : wm_Sg) : Option (Int32 × wm_Sg) :=
  (mf_Mo_jumps b0 g).bind fun v11 => if v11.1 = (0 : Int32) then (mf_Mo_wrong_91 v11.2) else (if b3 < (0 : Int32) then (mf_Mo_wrong_87 v11.2) else (if b3 ≤ (24 : Int32) then (mf_Mo_wrong_91 v11.2) else (mf_Mo_wrong_87 v11.2)))
def mf_Mo_wrong_45 (b0 : Int32) (b3 : Int32) (s0 : Int32) (g : wm_Sg) : Option (Int32 × wm_Sg) :=
  if s0 = (0 : Int32) then (if b0 ≤ (1 : Int32) then (mf_Mo_wrong_70 b0 b3 g) else (if (6 : Int32) ≤ b0 then (mf_Mo_wrong_70 b0 b3 g) else ((mf_Mo_isVariable b3 g).bind fun v12 => if v12.1 = (0 : Int32) then (mf_Mo_wrong_87 v12.2) else (mf_Mo_wrong_70 b0 b3 v12.2)))) else (mf_Mo_wrong_87 g)
def mf_Mo_wrong_40 (b0 : Int32) (b3 : Int32) (g : wm_Sg) : Option (Int32 × wm_Sg) :=
  mf_Mo_wrong_45 b0 b3 (1 : Int32) g
def mf_Mo_wrong_44 (b0 : Int32) (b3 : Int32) (g : wm_Sg) : Option (Int32 × wm_Sg) :=
  mf_Mo_wrong_45 b0 b3 (0 : Int32) g
def mf_Mo_wrong_26 (b0 : Int32) (b2 : Int32) (b3 : Int32) (g : wm_Sg) : Option (Int32 × wm_Sg) :=
  (mf_Mo_usesSecond b0 g).bind fun v13 => if v13.1 = (0 : Int32) then (mf_Mo_wrong_44 b0 b3 v13.2) else ((mf_Mo_isVariable b2 v13.2).bind fun v14 => if v14.1 = (0 : Int32) then (mf_Mo_wrong_40 b0 b3 v14.2) else (mf_Mo_wrong_44 b0 b3 v14.2))
def mf_Mo_wrong (a0 : Int32) (a1 : Int32) (a2 : Int32) (a3 : Int32) (g : wm_Sg) : Option (Int32 × wm_Sg) :=
  if a0 < (0 : Int32) then (mf_Mo_wrong_10 g) else (if a0 ≤ (12 : Int32) then ((mf_Mo_usesFirst a0 g).bind fun v15 => if v15.1 = (0 : Int32) then (mf_Mo_wrong_26 a0 a2 a3 v15.2) else ((mf_Mo_isVariable a1 v15.2).bind fun v16 => if v16.1 = (0 : Int32) then (mf_Mo_wrong_40 a0 a3 v16.2) else (mf_Mo_wrong_26 a0 a2 a3 v16.2))) else (mf_Mo_wrong_10 g))
set_option maxHeartbeats 4000000 in
set_option maxRecDepth 100000 in
theorem mc_Mo_wrong {l : Launch} {G : wm_G} (a0 : Int32) (a1 : Int32) (a2 : Int32) (a3 : Int32) (g : wm_Sg) (v : (Int32 × wm_Sg)) (h : mf_Mo_wrong a0 a1 a2 a3 g = some v) : wm_Mi l G y_Mo_wrong ws_Mo_wrong 1 wm_n (wm_S G) [.int a0, .int a1, .int a2, .int a3] g (fun r u => r = v.1 ∧ u = v.2) := by
  refine wm_in_z (cc := c_Mo_wrong) (maxL := 5) (by decide) rfl (Nat.le_of_ble_eq_true rfl) (fun X C _ E => ?_)
  have c_10 : ∀ (g : wm_Sg), mf_Mo_wrong_10  g = some v → wm_W G X 5 0 0 wm_n (wm_S G) g 10 [] [] := by
    intro g h
    unfold mf_Mo_wrong_10 at h
    refine wm_iconst (v := (1 : Int32)) C d_Mo_wrong_10 (by decide) ?_
    exact E _ _ _ _ d_Mo_wrong_11 rfl (wk_ret h)
  have c_92 : ∀ (s0 : Int32) (g : wm_Sg), mf_Mo_wrong_92  s0 g = some v → wm_W G X 5 0 0 wm_n (wm_S G) g 92 [] [.int s0] := by
    intro s0 g h
    unfold mf_Mo_wrong_92 at h
    exact wk_yes h (fun q h => E _ _ _ _ d_Mo_wrong_92 (wk_nar q) (wk_ret h))
  have c_87 : ∀ (g : wm_Sg), mf_Mo_wrong_87  g = some v → wm_W G X 5 0 0 wm_n (wm_S G) g 87 [] [] := by
    intro g h
    unfold mf_Mo_wrong_87 at h
    refine wm_iconst (v := (1 : Int32)) C d_Mo_wrong_87 (by decide) ?_
    refine wm_goto (tgt := 92) C d_Mo_wrong_88 rfl ?_
    refine wk_cut (c_92 (1 : Int32) g h) ?_
    exact trivial
  have c_91 : ∀ (g : wm_Sg), mf_Mo_wrong_91  g = some v → wm_W G X 5 0 0 wm_n (wm_S G) g 91 [] [] := by
    intro g h
    unfold mf_Mo_wrong_91 at h
    refine wm_iconst (v := (0 : Int32)) C d_Mo_wrong_91 (by decide) ?_
    refine wk_cut (c_92 (0 : Int32) g h) ?_
    exact trivial
  have c_70 : ∀ (b0 : Int32) (b3 : Int32) (g : wm_Sg), mf_Mo_wrong_70 b0 b3 g = some v → wm_W G X 5 0 0 wm_n (wm_S G) g 70 [(0, .int b0), (3, .int b3)] [] := by
    intro b0 b3 g h
    unfold mf_Mo_wrong_70 at h
    refine wm_iload_n C d_Mo_wrong_70 rfl ?_
    refine wk_bind h (fun v11 e11 h => wm_cSi (na := 1) C (mc_Mo_jumps b0 g v11 e11) (gc_Mo_jumps mw_2_80) rfl (by decide +kernel) rfl (by decide) (by decide) d_Mo_wrong_71 rfl (Nat.le_of_ble_eq_true rfl) (Nat.zero_le _) (Nat.zero_le _) (fun r11 u11 q11 => ?_))
    obtain ⟨rfl, rfl⟩ := q11
    refine wk_if_eq (tgt := 91) C d_Mo_wrong_74 rfl h (fun _ h => ?_) (fun _ h => ?_)
    · refine wk_cut (c_91 v11.2 h) ?_
      exact trivial
    · refine wm_iload_n C d_Mo_wrong_77 rfl ?_
      refine wk_if_lt (tgt := 87) C d_Mo_wrong_78 rfl h (fun _ h => ?_) (fun _ h => ?_)
      · refine wk_cut (c_87 v11.2 h) ?_
        exact trivial
      · refine wm_iload_n C d_Mo_wrong_81 rfl ?_
        refine wm_bipush (v := (24 : Int32)) C d_Mo_wrong_82 (by decide) ?_
        refine wk_icmp_le (tgt := 91) C d_Mo_wrong_84 rfl h (fun _ h => ?_) (fun _ h => ?_)
        · refine wk_cut (c_91 v11.2 h) ?_
          exact trivial
        · refine wk_cut (c_87 v11.2 h) ?_
          exact trivial
  have c_45 : ∀ (b0 : Int32) (b3 : Int32) (s0 : Int32) (g : wm_Sg), mf_Mo_wrong_45 b0 b3 s0 g = some v → wm_W G X 5 0 0 wm_n (wm_S G) g 45 [(0, .int b0), (3, .int b3)] [.int s0] := by
    intro b0 b3 s0 g h
    unfold mf_Mo_wrong_45 at h
    refine wm_istore C d_Mo_wrong_45 (by decide) ?_
    refine wm_iload C d_Mo_wrong_47 rfl ?_
    refine wk_if_ne (tgt := 87) C d_Mo_wrong_49 rfl h (fun _ h => ?_) (fun _ h => ?_)
    · refine wm_iload_n C d_Mo_wrong_52 rfl ?_
      refine wm_iconst (v := (1 : Int32)) C d_Mo_wrong_53 (by decide) ?_
      refine wk_icmp_le (tgt := 70) C d_Mo_wrong_54 rfl h (fun _ h => ?_) (fun _ h => ?_)
      · refine wk_cut (c_70 b0 b3 g h) ?_
        exact ⟨rfl, rfl, trivial⟩
      · refine wm_iload_n C d_Mo_wrong_57 rfl ?_
        refine wm_bipush (v := (6 : Int32)) C d_Mo_wrong_58 (by decide) ?_
        refine wk_icmp_ge (tgt := 70) C d_Mo_wrong_60 rfl h (fun _ h => ?_) (fun _ h => ?_)
        · refine wk_cut (c_70 b0 b3 g h) ?_
          exact ⟨rfl, rfl, trivial⟩
        · refine wm_iload_n C d_Mo_wrong_63 rfl ?_
          refine wk_bind h (fun v12 e12 h => wm_cSi (na := 1) C (mc_Mo_isVariable b3 g v12 e12) (gc_Mo_isVariable mw_2_74) rfl (by decide +kernel) rfl (by decide) (by decide) d_Mo_wrong_64 rfl (Nat.le_of_ble_eq_true rfl) (Nat.zero_le _) (Nat.zero_le _) (fun r12 u12 q12 => ?_))
          obtain ⟨rfl, rfl⟩ := q12
          refine wk_if_eq (tgt := 87) C d_Mo_wrong_67 rfl h (fun _ h => ?_) (fun _ h => ?_)
          · refine wk_cut (c_87 v12.2 h) ?_
            exact trivial
          · refine wk_cut (c_70 b0 b3 v12.2 h) ?_
            exact ⟨rfl, rfl, trivial⟩
    · refine wk_cut (c_87 g h) ?_
      exact trivial
  have c_40 : ∀ (b0 : Int32) (b3 : Int32) (g : wm_Sg), mf_Mo_wrong_40 b0 b3 g = some v → wm_W G X 5 0 0 wm_n (wm_S G) g 40 [(0, .int b0), (3, .int b3)] [] := by
    intro b0 b3 g h
    unfold mf_Mo_wrong_40 at h
    refine wm_iconst (v := (1 : Int32)) C d_Mo_wrong_40 (by decide) ?_
    refine wm_goto (tgt := 45) C d_Mo_wrong_41 rfl ?_
    refine wk_cut (c_45 b0 b3 (1 : Int32) g h) ?_
    exact ⟨rfl, rfl, trivial⟩
  have c_44 : ∀ (b0 : Int32) (b3 : Int32) (g : wm_Sg), mf_Mo_wrong_44 b0 b3 g = some v → wm_W G X 5 0 0 wm_n (wm_S G) g 44 [(0, .int b0), (3, .int b3)] [] := by
    intro b0 b3 g h
    unfold mf_Mo_wrong_44 at h
    refine wm_iconst (v := (0 : Int32)) C d_Mo_wrong_44 (by decide) ?_
    refine wk_cut (c_45 b0 b3 (0 : Int32) g h) ?_
    exact ⟨rfl, rfl, trivial⟩
  have c_26 : ∀ (b0 : Int32) (b2 : Int32) (b3 : Int32) (g : wm_Sg), mf_Mo_wrong_26 b0 b2 b3 g = some v → wm_W G X 5 0 0 wm_n (wm_S G) g 26 [(0, .int b0), (2, .int b2), (3, .int b3)] [] := by
    intro b0 b2 b3 g h
    unfold mf_Mo_wrong_26 at h
    refine wm_iload_n C d_Mo_wrong_26 rfl ?_
    refine wk_bind h (fun v13 e13 h => wm_cSi (na := 1) C (mc_Mo_usesSecond b0 g v13 e13) (gc_Mo_usesSecond mw_2_77) rfl (by decide +kernel) rfl (by decide) (by decide) d_Mo_wrong_27 rfl (Nat.le_of_ble_eq_true rfl) (Nat.zero_le _) (Nat.zero_le _) (fun r13 u13 q13 => ?_))
    obtain ⟨rfl, rfl⟩ := q13
    refine wk_if_eq (tgt := 44) C d_Mo_wrong_30 rfl h (fun _ h => ?_) (fun _ h => ?_)
    · refine wk_cut (c_44 b0 b3 v13.2 h) ?_
      exact ⟨rfl, rfl, trivial⟩
    · refine wm_iload_n C d_Mo_wrong_33 rfl ?_
      refine wk_bind h (fun v14 e14 h => wm_cSi (na := 1) C (mc_Mo_isVariable b2 v13.2 v14 e14) (gc_Mo_isVariable mw_2_74) rfl (by decide +kernel) rfl (by decide) (by decide) d_Mo_wrong_34 rfl (Nat.le_of_ble_eq_true rfl) (Nat.zero_le _) (Nat.zero_le _) (fun r14 u14 q14 => ?_))
      obtain ⟨rfl, rfl⟩ := q14
      refine wk_if_ne (tgt := 44) C d_Mo_wrong_37 rfl h (fun _ h => ?_) (fun _ h => ?_)
      · refine wk_cut (c_40 b0 b3 v14.2 h) ?_
        exact ⟨rfl, rfl, trivial⟩
      · refine wk_cut (c_44 b0 b3 v14.2 h) ?_
        exact ⟨rfl, rfl, trivial⟩
  unfold mf_Mo_wrong at h
  refine wm_iload_n C d_Mo_wrong_0 rfl ?_
  refine wk_if_lt (tgt := 10) C d_Mo_wrong_1 rfl h (fun _ h => ?_) (fun _ h => ?_)
  · refine wk_cut (c_10 g h) ?_
    exact trivial
  · refine wm_iload_n C d_Mo_wrong_4 rfl ?_
    refine wm_bipush (v := (12 : Int32)) C d_Mo_wrong_5 (by decide) ?_
    refine wk_icmp_le (tgt := 12) C d_Mo_wrong_7 rfl h (fun _ h => ?_) (fun _ h => ?_)
    · refine wm_iload_n C d_Mo_wrong_12 rfl ?_
      refine wk_bind h (fun v15 e15 h => wm_cSi (na := 1) C (mc_Mo_usesFirst a0 g v15 e15) (gc_Mo_usesFirst mw_2_71) rfl (by decide +kernel) rfl (by decide) (by decide) d_Mo_wrong_13 rfl (Nat.le_of_ble_eq_true rfl) (Nat.zero_le _) (Nat.zero_le _) (fun r15 u15 q15 => ?_))
      obtain ⟨rfl, rfl⟩ := q15
      refine wk_if_eq (tgt := 26) C d_Mo_wrong_16 rfl h (fun _ h => ?_) (fun _ h => ?_)
      · refine wk_cut (c_26 a0 a2 a3 v15.2 h) ?_
        exact ⟨rfl, rfl, rfl, trivial⟩
      · refine wm_iload_n C d_Mo_wrong_19 rfl ?_
        refine wk_bind h (fun v16 e16 h => wm_cSi (na := 1) C (mc_Mo_isVariable a1 v15.2 v16 e16) (gc_Mo_isVariable mw_2_74) rfl (by decide +kernel) rfl (by decide) (by decide) d_Mo_wrong_20 rfl (Nat.le_of_ble_eq_true rfl) (Nat.zero_le _) (Nat.zero_le _) (fun r16 u16 q16 => ?_))
        obtain ⟨rfl, rfl⟩ := q16
        refine wk_if_eq (tgt := 40) C d_Mo_wrong_23 rfl h (fun _ h => ?_) (fun _ h => ?_)
        · refine wk_cut (c_40 a0 a3 v16.2 h) ?_
          exact ⟨rfl, rfl, trivial⟩
        · refine wk_cut (c_26 a0 a2 a3 v16.2 h) ?_
          exact ⟨rfl, rfl, rfl, trivial⟩
    · refine wk_cut (c_10 g h) ?_
      exact trivial
/-! FactFlowModel.usesThird(I)Z -/
def mf_Mo_usesThird_27 (s0 : Int32) (g : wm_Sg) : Option (Int32 × wm_Sg) :=
  if s0 = 0 ∨ s0 = 1 then some (s0, g) else none
def mf_Mo_usesThird_22  (g : wm_Sg) : Option (Int32 × wm_Sg) :=
  mf_Mo_usesThird_27 (1 : Int32) g
def mf_Mo_usesThird_15 (b0 : Int32) (g : wm_Sg) : Option (Int32 × wm_Sg) :=
  (mf_Mo_jumps b0 g).bind fun v3 => if v3.1 = (0 : Int32) then (mf_Mo_usesThird_27 (0 : Int32) v3.2) else (mf_Mo_usesThird_22 v3.2)
def mf_Mo_usesThird (a0 : Int32) (g : wm_Sg) : Option (Int32 × wm_Sg) :=
  if a0 = (0 : Int32) then (mf_Mo_usesThird_22 g) else (if a0 ≤ (1 : Int32) then (mf_Mo_usesThird_15 a0 g) else (if a0 < (6 : Int32) then (mf_Mo_usesThird_22 g) else (mf_Mo_usesThird_15 a0 g)))
set_option maxHeartbeats 4000000 in
set_option maxRecDepth 100000 in
theorem mc_Mo_usesThird {l : Launch} {G : wm_G} (a0 : Int32) (g : wm_Sg) (v : (Int32 × wm_Sg)) (h : mf_Mo_usesThird a0 g = some v) : wm_Mi l G y_Mo_usesThird ws_Mo_usesThird 1 wm_n (wm_S G) [.int a0] g (fun r u => r = v.1 ∧ u = v.2) := by
  refine wm_in_z (cc := c_Mo_usesThird) (maxL := 1) (by decide) rfl (Nat.le_of_ble_eq_true rfl) (fun X C _ E => ?_)
  have c_27 : ∀ (s0 : Int32) (g : wm_Sg), mf_Mo_usesThird_27  s0 g = some v → wm_W G X 1 0 0 wm_n (wm_S G) g 27 [] [.int s0] := by
    intro s0 g h
    unfold mf_Mo_usesThird_27 at h
    exact wk_yes h (fun q h => E _ _ _ _ d_Mo_usesThird_27 (wk_nar q) (wk_ret h))
  have c_22 : ∀ (g : wm_Sg), mf_Mo_usesThird_22  g = some v → wm_W G X 1 0 0 wm_n (wm_S G) g 22 [] [] := by
    intro g h
    unfold mf_Mo_usesThird_22 at h
    refine wm_iconst (v := (1 : Int32)) C d_Mo_usesThird_22 (by decide) ?_
    refine wm_goto (tgt := 27) C d_Mo_usesThird_23 rfl ?_
    refine wk_cut (c_27 (1 : Int32) g h) ?_
    exact trivial
  have c_15 : ∀ (b0 : Int32) (g : wm_Sg), mf_Mo_usesThird_15 b0 g = some v → wm_W G X 1 0 0 wm_n (wm_S G) g 15 [(0, .int b0)] [] := by
    intro b0 g h
    unfold mf_Mo_usesThird_15 at h
    refine wm_iload_n C d_Mo_usesThird_15 rfl ?_
    refine wk_bind h (fun v3 e3 h => wm_cSi (na := 1) C (mc_Mo_jumps b0 g v3 e3) (gc_Mo_jumps mw_2_80) rfl (by decide +kernel) rfl (by decide) (by decide) d_Mo_usesThird_16 rfl (Nat.le_of_ble_eq_true rfl) (Nat.zero_le _) (Nat.zero_le _) (fun r3 u3 q3 => ?_))
    obtain ⟨rfl, rfl⟩ := q3
    refine wk_if_eq (tgt := 26) C d_Mo_usesThird_19 rfl h (fun _ h => ?_) (fun _ h => ?_)
    · refine wm_iconst (v := (0 : Int32)) C d_Mo_usesThird_26 (by decide) ?_
      refine wk_cut (c_27 (0 : Int32) v3.2 h) ?_
      exact trivial
    · refine wk_cut (c_22 v3.2 h) ?_
      exact trivial
  unfold mf_Mo_usesThird at h
  refine wm_iload_n C d_Mo_usesThird_0 rfl ?_
  refine wk_if_eq (tgt := 22) C d_Mo_usesThird_1 rfl h (fun _ h => ?_) (fun _ h => ?_)
  · refine wk_cut (c_22 g h) ?_
    exact trivial
  · refine wm_iload_n C d_Mo_usesThird_4 rfl ?_
    refine wm_iconst (v := (1 : Int32)) C d_Mo_usesThird_5 (by decide) ?_
    refine wk_icmp_le (tgt := 15) C d_Mo_usesThird_6 rfl h (fun _ h => ?_) (fun _ h => ?_)
    · refine wk_cut (c_15 a0 g h) ?_
      exact ⟨rfl, trivial⟩
    · refine wm_iload_n C d_Mo_usesThird_9 rfl ?_
      refine wm_bipush (v := (6 : Int32)) C d_Mo_usesThird_10 (by decide) ?_
      refine wk_icmp_lt (tgt := 22) C d_Mo_usesThird_12 rfl h (fun _ h => ?_) (fun _ h => ?_)
      · refine wk_cut (c_22 g h) ?_
        exact trivial
      · refine wk_cut (c_15 a0 g h) ?_
        exact ⟨rfl, trivial⟩
/-! FactFlowModel.place(IIIII)Z -/
def mf_Mo_place_92 (b0 : Nat) (b1 : Int32) (b2 : Int32) (b6 : Int32) (b7 : Int32) (b8 : Int32) (s0 : Int32) (g : wm_Sg) : Option (Int32 × wm_Sg) :=
  if b1 < 0 ∨ sh_n (sh_r b0 1) ≤ (b1).toNatClampNeg then none else if b1 < 0 ∨ sh_n (sh_r b0 2) ≤ (b1).toNatClampNeg then none else if b1 < 0 ∨ sh_n (sh_r b0 3) ≤ (b1).toNatClampNeg then none else if b1 < 0 ∨ sh_n (sh_r b0 4) ≤ (b1).toNatClampNeg then none else if s0 = 0 ∨ s0 = 1 then some (s0, wm_u (wm_u (wm_u (wm_u g (sh_r b0 1) (b1).toNatClampNeg b2) (sh_r b0 2) (b1).toNatClampNeg b6) (sh_r b0 3) (b1).toNatClampNeg b7) (sh_r b0 4) (b1).toNatClampNeg b8) else none
def mf_Mo_place_87 (b0 : Nat) (b1 : Int32) (b2 : Int32) (b6 : Int32) (b7 : Int32) (b8 : Int32) (g : wm_Sg) : Option (Int32 × wm_Sg) :=
  mf_Mo_place_92 b0 b1 b2 b6 b7 b8 (1 : Int32) g
def mf_Mo_place_42 (b0 : Nat) (b1 : Int32) (b2 : Int32) (b6 : Int32) (b7 : Int32) (s0 : Int32) (g : wm_Sg) : Option (Int32 × wm_Sg) :=
  if b1 < 0 ∨ sh_n (sh_r b0 1) ≤ (b1).toNatClampNeg then none else if (g (sh_r b0 1) (b1).toNatClampNeg) = b2 then (if b1 < 0 ∨ sh_n (sh_r b0 2) ≤ (b1).toNatClampNeg then none else if (g (sh_r b0 2) (b1).toNatClampNeg) = b6 then (if b1 < 0 ∨ sh_n (sh_r b0 3) ≤ (b1).toNatClampNeg then none else if (g (sh_r b0 3) (b1).toNatClampNeg) = b7 then (if b1 < 0 ∨ sh_n (sh_r b0 4) ≤ (b1).toNatClampNeg then none else if (g (sh_r b0 4) (b1).toNatClampNeg) = s0 then (mf_Mo_place_92 b0 b1 b2 b6 b7 s0 (0 : Int32) g) else (mf_Mo_place_87 b0 b1 b2 b6 b7 s0 g)) else (mf_Mo_place_87 b0 b1 b2 b6 b7 s0 g)) else (mf_Mo_place_87 b0 b1 b2 b6 b7 s0 g)) else (mf_Mo_place_87 b0 b1 b2 b6 b7 s0 g)
def mf_Mo_place_27 (b0 : Nat) (b1 : Int32) (b2 : Int32) (b5 : Int32) (b6 : Int32) (s0 : Int32) (g : wm_Sg) : Option (Int32 × wm_Sg) :=
  (mf_Mo_usesThird b2 g).bind fun v6 => if v6.1 = (0 : Int32) then (mf_Mo_place_42 b0 b1 b2 b6 s0 (0 : Int32) v6.2) else (mf_Mo_place_42 b0 b1 b2 b6 s0 b5 v6.2)
def mf_Mo_place_12 (b0 : Nat) (b1 : Int32) (b2 : Int32) (b4 : Int32) (b5 : Int32) (s0 : Int32) (g : wm_Sg) : Option (Int32 × wm_Sg) :=
  (mf_Mo_usesSecond b2 g).bind fun v7 => if v7.1 = (0 : Int32) then (mf_Mo_place_27 b0 b1 b2 b5 s0 (0 : Int32) v7.2) else (mf_Mo_place_27 b0 b1 b2 b5 s0 b4 v7.2)
def mf_Mo_place (a0 : Nat) (a1 : Int32) (a2 : Int32) (a3 : Int32) (a4 : Int32) (a5 : Int32) (g : wm_Sg) : Option (Int32 × wm_Sg) :=
  (mf_Mo_usesFirst a2 g).bind fun v8 => if v8.1 = (0 : Int32) then (mf_Mo_place_12 a0 a1 a2 a4 a5 (0 : Int32) v8.2) else (mf_Mo_place_12 a0 a1 a2 a4 a5 a3 v8.2)
set_option maxHeartbeats 4000000 in
set_option maxRecDepth 100000 in
theorem mc_Mo_place {l : Launch} {G : wm_G} (a0 : Nat) (a1 : Int32) (a2 : Int32) (a3 : Int32) (a4 : Int32) (a5 : Int32) (g : wm_Sg) (v : (Int32 × wm_Sg)) (k0 : kd a0 = 8) (h : mf_Mo_place a0 a1 a2 a3 a4 a5 g = some v) : wm_Mi l G y_Mo_place ws_Mo_place 2 wm_n (wm_S G) [.ref (G.B + a0), .int a1, .int a2, .int a3, .int a4, .int a5] g (fun r u => r = v.1 ∧ u = v.2) := by
  refine wm_in_z (cc := c_Mo_place) (maxL := 10) (by decide) rfl (Nat.le_of_ble_eq_true rfl) (fun X C _ E => ?_)
  have c_92 : ∀ (b0 : Nat) (b1 : Int32) (b2 : Int32) (b6 : Int32) (b7 : Int32) (b8 : Int32) (s0 : Int32) (k0 : kd b0 = 8) (g : wm_Sg), mf_Mo_place_92 b0 b1 b2 b6 b7 b8 s0 g = some v → wm_W G X 10 0 0 wm_n (wm_S G) g 92 [(0, .ref (G.B + b0)), (1, .int b1), (2, .int b2), (6, .int b6), (7, .int b7), (8, .int b8)] [.int s0] := by
    intro b0 b1 b2 b6 b7 b8 s0 k0 g h
    unfold mf_Mo_place_92 at h
    refine wm_istore C d_Mo_place_92 (by decide) ?_
    refine wm_aload_n C d_Mo_place_94 rfl ?_
    refine gt_8_1 C k0 (ws_in iw_8) (ws_1 mw_1_229) d_Mo_place_95 ?_
    refine wm_iload_n C d_Mo_place_98 rfl ?_
    refine wm_iload_n C d_Mo_place_99 rfl ?_
    refine wk_iast C (kr_8_1 k0) d_Mo_place_100 h (fun h => ?_)
    refine wm_aload_n C d_Mo_place_101 rfl ?_
    refine gt_8_2 C k0 (ws_in iw_8) (ws_1 mw_1_230) d_Mo_place_102 ?_
    refine wm_iload_n C d_Mo_place_105 rfl ?_
    refine wm_iload C d_Mo_place_106 rfl ?_
    refine wk_iast C (kr_8_2 k0) d_Mo_place_108 h (fun h => ?_)
    refine wm_aload_n C d_Mo_place_109 rfl ?_
    refine gt_8_3 C k0 (ws_in iw_8) (ws_1 mw_1_231) d_Mo_place_110 ?_
    refine wm_iload_n C d_Mo_place_113 rfl ?_
    refine wm_iload C d_Mo_place_114 rfl ?_
    refine wk_iast C (kr_8_3 k0) d_Mo_place_116 h (fun h => ?_)
    refine wm_aload_n C d_Mo_place_117 rfl ?_
    refine gt_8_4 C k0 (ws_in iw_8) (ws_1 mw_1_232) d_Mo_place_118 ?_
    refine wm_iload_n C d_Mo_place_121 rfl ?_
    refine wm_iload C d_Mo_place_122 rfl ?_
    refine wk_iast C (kr_8_4 k0) d_Mo_place_124 h (fun h => ?_)
    refine wm_iload C d_Mo_place_125 rfl ?_
    exact wk_yes h (fun q h => E _ _ _ _ d_Mo_place_127 (wk_nar q) (wk_ret h))
  have c_87 : ∀ (b0 : Nat) (b1 : Int32) (b2 : Int32) (b6 : Int32) (b7 : Int32) (b8 : Int32) (k0 : kd b0 = 8) (g : wm_Sg), mf_Mo_place_87 b0 b1 b2 b6 b7 b8 g = some v → wm_W G X 10 0 0 wm_n (wm_S G) g 87 [(0, .ref (G.B + b0)), (1, .int b1), (2, .int b2), (6, .int b6), (7, .int b7), (8, .int b8)] [] := by
    intro b0 b1 b2 b6 b7 b8 k0 g h
    unfold mf_Mo_place_87 at h
    refine wm_iconst (v := (1 : Int32)) C d_Mo_place_87 (by decide) ?_
    refine wm_goto (tgt := 92) C d_Mo_place_88 rfl ?_
    refine wk_cut (c_92 b0 b1 b2 b6 b7 b8 (1 : Int32) k0 g h) ?_
    exact ⟨rfl, rfl, rfl, rfl, rfl, rfl, trivial⟩
  have c_42 : ∀ (b0 : Nat) (b1 : Int32) (b2 : Int32) (b6 : Int32) (b7 : Int32) (s0 : Int32) (k0 : kd b0 = 8) (g : wm_Sg), mf_Mo_place_42 b0 b1 b2 b6 b7 s0 g = some v → wm_W G X 10 0 0 wm_n (wm_S G) g 42 [(0, .ref (G.B + b0)), (1, .int b1), (2, .int b2), (6, .int b6), (7, .int b7)] [.int s0] := by
    intro b0 b1 b2 b6 b7 s0 k0 g h
    unfold mf_Mo_place_42 at h
    refine wm_istore C d_Mo_place_42 (by decide) ?_
    refine wm_aload_n C d_Mo_place_44 rfl ?_
    refine gt_8_1 C k0 (ws_in iw_8) (ws_1 mw_1_229) d_Mo_place_45 ?_
    refine wm_iload_n C d_Mo_place_48 rfl ?_
    refine wk_iald C (kr_8_1 k0) d_Mo_place_49 h (fun h => ?_)
    refine wm_iload_n C d_Mo_place_50 rfl ?_
    refine wk_icmp_ne (tgt := 87) C d_Mo_place_51 rfl h (fun _ h => ?_) (fun _ h => ?_)
    · refine wm_aload_n C d_Mo_place_54 rfl ?_
      refine gt_8_2 C k0 (ws_in iw_8) (ws_1 mw_1_230) d_Mo_place_55 ?_
      refine wm_iload_n C d_Mo_place_58 rfl ?_
      refine wk_iald C (kr_8_2 k0) d_Mo_place_59 h (fun h => ?_)
      refine wm_iload C d_Mo_place_60 rfl ?_
      refine wk_icmp_ne (tgt := 87) C d_Mo_place_62 rfl h (fun _ h => ?_) (fun _ h => ?_)
      · refine wm_aload_n C d_Mo_place_65 rfl ?_
        refine gt_8_3 C k0 (ws_in iw_8) (ws_1 mw_1_231) d_Mo_place_66 ?_
        refine wm_iload_n C d_Mo_place_69 rfl ?_
        refine wk_iald C (kr_8_3 k0) d_Mo_place_70 h (fun h => ?_)
        refine wm_iload C d_Mo_place_71 rfl ?_
        refine wk_icmp_ne (tgt := 87) C d_Mo_place_73 rfl h (fun _ h => ?_) (fun _ h => ?_)
        · refine wm_aload_n C d_Mo_place_76 rfl ?_
          refine gt_8_4 C k0 (ws_in iw_8) (ws_1 mw_1_232) d_Mo_place_77 ?_
          refine wm_iload_n C d_Mo_place_80 rfl ?_
          refine wk_iald C (kr_8_4 k0) d_Mo_place_81 h (fun h => ?_)
          refine wm_iload C d_Mo_place_82 rfl ?_
          refine wk_icmp_eq (tgt := 91) C d_Mo_place_84 rfl h (fun _ h => ?_) (fun _ h => ?_)
          · refine wm_iconst (v := (0 : Int32)) C d_Mo_place_91 (by decide) ?_
            refine wk_cut (c_92 b0 b1 b2 b6 b7 s0 (0 : Int32) k0 g h) ?_
            exact ⟨rfl, rfl, rfl, rfl, rfl, rfl, trivial⟩
          · refine wk_cut (c_87 b0 b1 b2 b6 b7 s0 k0 g h) ?_
            exact ⟨rfl, rfl, rfl, rfl, rfl, rfl, trivial⟩
        · refine wk_cut (c_87 b0 b1 b2 b6 b7 s0 k0 g h) ?_
          exact ⟨rfl, rfl, rfl, rfl, rfl, rfl, trivial⟩
      · refine wk_cut (c_87 b0 b1 b2 b6 b7 s0 k0 g h) ?_
        exact ⟨rfl, rfl, rfl, rfl, rfl, rfl, trivial⟩
    · refine wk_cut (c_87 b0 b1 b2 b6 b7 s0 k0 g h) ?_
      exact ⟨rfl, rfl, rfl, rfl, rfl, rfl, trivial⟩
  have c_27 : ∀ (b0 : Nat) (b1 : Int32) (b2 : Int32) (b5 : Int32) (b6 : Int32) (s0 : Int32) (k0 : kd b0 = 8) (g : wm_Sg), mf_Mo_place_27 b0 b1 b2 b5 b6 s0 g = some v → wm_W G X 10 0 0 wm_n (wm_S G) g 27 [(0, .ref (G.B + b0)), (1, .int b1), (2, .int b2), (5, .int b5), (6, .int b6)] [.int s0] := by
    intro b0 b1 b2 b5 b6 s0 k0 g h
    unfold mf_Mo_place_27 at h
    refine wm_istore C d_Mo_place_27 (by decide) ?_
    refine wm_iload_n C d_Mo_place_29 rfl ?_
    refine wk_bind h (fun v6 e6 h => wm_cSi (na := 1) C (mc_Mo_usesThird b2 g v6 e6) (gc_Mo_usesThird mw_2_87) rfl (by decide +kernel) rfl (by decide) (by decide) d_Mo_place_30 rfl (Nat.le_of_ble_eq_true rfl) (Nat.zero_le _) (Nat.zero_le _) (fun r6 u6 q6 => ?_))
    obtain ⟨rfl, rfl⟩ := q6
    refine wk_if_eq (tgt := 41) C d_Mo_place_33 rfl h (fun _ h => ?_) (fun _ h => ?_)
    · refine wm_iconst (v := (0 : Int32)) C d_Mo_place_41 (by decide) ?_
      refine wk_cut (c_42 b0 b1 b2 b6 s0 (0 : Int32) k0 v6.2 h) ?_
      exact ⟨rfl, rfl, rfl, rfl, rfl, trivial⟩
    · refine wm_iload C d_Mo_place_36 rfl ?_
      refine wm_goto (tgt := 42) C d_Mo_place_38 rfl ?_
      refine wk_cut (c_42 b0 b1 b2 b6 s0 b5 k0 v6.2 h) ?_
      exact ⟨rfl, rfl, rfl, rfl, rfl, trivial⟩
  have c_12 : ∀ (b0 : Nat) (b1 : Int32) (b2 : Int32) (b4 : Int32) (b5 : Int32) (s0 : Int32) (k0 : kd b0 = 8) (g : wm_Sg), mf_Mo_place_12 b0 b1 b2 b4 b5 s0 g = some v → wm_W G X 10 0 0 wm_n (wm_S G) g 12 [(0, .ref (G.B + b0)), (1, .int b1), (2, .int b2), (4, .int b4), (5, .int b5)] [.int s0] := by
    intro b0 b1 b2 b4 b5 s0 k0 g h
    unfold mf_Mo_place_12 at h
    refine wm_istore C d_Mo_place_12 (by decide) ?_
    refine wm_iload_n C d_Mo_place_14 rfl ?_
    refine wk_bind h (fun v7 e7 h => wm_cSi (na := 1) C (mc_Mo_usesSecond b2 g v7 e7) (gc_Mo_usesSecond mw_2_77) rfl (by decide +kernel) rfl (by decide) (by decide) d_Mo_place_15 rfl (Nat.le_of_ble_eq_true rfl) (Nat.zero_le _) (Nat.zero_le _) (fun r7 u7 q7 => ?_))
    obtain ⟨rfl, rfl⟩ := q7
    refine wk_if_eq (tgt := 26) C d_Mo_place_18 rfl h (fun _ h => ?_) (fun _ h => ?_)
    · refine wm_iconst (v := (0 : Int32)) C d_Mo_place_26 (by decide) ?_
      refine wk_cut (c_27 b0 b1 b2 b5 s0 (0 : Int32) k0 v7.2 h) ?_
      exact ⟨rfl, rfl, rfl, rfl, rfl, trivial⟩
    · refine wm_iload C d_Mo_place_21 rfl ?_
      refine wm_goto (tgt := 27) C d_Mo_place_23 rfl ?_
      refine wk_cut (c_27 b0 b1 b2 b5 s0 b4 k0 v7.2 h) ?_
      exact ⟨rfl, rfl, rfl, rfl, rfl, trivial⟩
  unfold mf_Mo_place at h
  refine wm_iload_n C d_Mo_place_0 rfl ?_
  refine wk_bind h (fun v8 e8 h => wm_cSi (na := 1) C (mc_Mo_usesFirst a2 g v8 e8) (gc_Mo_usesFirst mw_2_71) rfl (by decide +kernel) rfl (by decide) (by decide) d_Mo_place_1 rfl (Nat.le_of_ble_eq_true rfl) (Nat.zero_le _) (Nat.zero_le _) (fun r8 u8 q8 => ?_))
  obtain ⟨rfl, rfl⟩ := q8
  refine wk_if_eq (tgt := 11) C d_Mo_place_4 rfl h (fun _ h => ?_) (fun _ h => ?_)
  · refine wm_iconst (v := (0 : Int32)) C d_Mo_place_11 (by decide) ?_
    refine wk_cut (c_12 a0 a1 a2 a4 a5 (0 : Int32) k0 v8.2 h) ?_
    exact ⟨rfl, rfl, rfl, rfl, rfl, trivial⟩
  · refine wm_iload_n C d_Mo_place_7 rfl ?_
    refine wm_goto (tgt := 12) C d_Mo_place_8 rfl ?_
    refine wk_cut (c_12 a0 a1 a2 a4 a5 a3 k0 v8.2 h) ?_
    exact ⟨rfl, rfl, rfl, rfl, rfl, trivial⟩
