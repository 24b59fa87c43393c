/-! the constructors with loops, and the class's own -/
theorem kd_23f {o : Nat} (h : kd o = 4) (v : Nat) (hv : v < 4) : kd (o + 2 + v) = 3 := (by decide +kernel : ∀ o, o < 201 → kd o = 4 → ∀ v, v < 4 → kd (o + 2 + v) = 3) o (kd_lt (by rw [h]; decide)) h v hv
theorem kd_23a {o : Nat} (h : kd o = 4) : kd (o + 1) = 23 := (by decide +kernel : ∀ o, o < 201 → kd o = 4 → kd (o + 1) = 23) o (kd_lt (by rw [h]; decide)) h
theorem kd_23n {o : Nat} (h : kd o = 4) : o + 6 ≤ 201 := (by decide +kernel : ∀ o, o < 201 → kd o = 4 → o + 6 ≤ 201) o (kd_lt (by rw [h]; decide)) h
theorem kd_in (i : Nat) (h : i < 24) : kd (4 + i) = 2 := (by decide +kernel : ∀ i, i < 24 → kd (4 + i) = 2) i h
theorem lim_3 {o : Nat} (h : kd o = 3) : lim o = 0 := by unfold lim; rw [h]; rfl
theorem lim_2 {o : Nat} (h : kd o = 2) : lim o = 0 := by unfold lim; rw [h]; rfl
theorem df_0 : ∀ j, j < 4 → defaultValue (tn_0 j) = vp_V [.null, .null, .null, .null] j := by decide +kernel
theorem df_1 : ∀ j, j < 3 → defaultValue (tn_1 j) = vp_V [.null, .int 0, .null] j := by decide +kernel
theorem df_4 : ∀ j, j < 2 → defaultValue (tn_4 j) = vp_V [.null, .int 0] j := by decide +kernel
theorem df_5 : ∀ j, j < 4 → defaultValue (tn_5 j) = vp_V [.null, .int 0, .null, .null] j := by decide +kernel
theorem df_6 : ∀ j, j < 2 → defaultValue (tn_6 j) = vp_V [.null, .int 0] j := by decide +kernel
theorem df_7 : ∀ j, j < 6 → defaultValue (tn_7 j) = vp_V [.null, .null, .int 0, .int 0, .int 0, .int 0] j := by decide +kernel
theorem df_8 : ∀ j, j < 25 → defaultValue (tn_8 j) = vp_V [.int 0, .null, .null, .null, .null, .int 0, .null, .null, .null, .null, .int 0, .null, .null, .null, .int 0, .int 0, .int 0, .int 0, .null, .int 0, .int 0, .null, .int 0, .null, .int 0] j := by decide +kernel
set_option maxHeartbeats 4000000 in
set_option maxRecDepth 100000 in
theorem ci_St {l : Launch} {G : wm_G} (K : Nat → Nat) (g : wm_Sg) {o : Nat} (hk : kd o = 4) (hK : K o = 0) : wm_MI l G y_St_init ws_St_init 2 5 16 (o + 1) (wm_SC G K) [.ref (G.B + o)] g (fun n' S' g' => n' = o + 6 ∧ S' = wm_SC G (kf K o) ∧ ∀ a, a < o → g' a = g a) := by
  have hka := kd_23a hk
  have hn := kd_23n hk
  refine wm_in_I (cc := c_St_init) (maxL := 2) (by decide) rfl (Nat.le_of_ble_eq_true rfl) (fun X C _ hy E => ?_)
  have hl : ∀ m v, v + m = 4 → ∀ (cells slots : Nat) (K1 : Nat → Nat) (g1 : wm_Sg), cells + m ≤ 5 → slots + 3 * m ≤ 16 → (∀ k, k < o → K1 k = K k) → K1 o = 1 → K1 (o + 1) = v → (∀ a, a < o → g1 a = g a) → wm_W G X 2 cells slots (o + 2 + v) (wm_SC G K1) g1 19 [(1, .int (nI v)), (0, .ref (G.B + o))] [] := by
    intro m
    induction m with
    | zero =>
      intro v hv cells slots K1 g1 hc hs e1 e2 e3 e4
      have e : v = 4 := by omega
      subst e
      refine wm_iload_n C d_St_init_19 rfl ?_
      refine wm_iconst (v := (4 : Int32)) C d_St_init_20 (by decide) ?_
      refine wm_icmp_ge (tgt := 43) C d_St_init_21 rfl (fun _ => ?_) (fun q => absurd (show (4 : Int32) ≤ nI 4 by decide) q)
      refine wm_widen (show cells ≤ 5 by omega) (show slots ≤ 16 by omega) ?_
      refine wm_cv (cv_g (show o + 2 + 4 ≤ 201 by omega) e1 (fun k h1 h2 => ?_)) (E _ _ _ _ _ d_St_init_43 ⟨by omega, rfl, e4⟩)
      by_cases z0 : k = o
      · rw [z0, e2]; unfold lim; rw [hk]; exact Nat.le_refl 1
      · by_cases z1 : k = o + 1
        · rw [z1, e3]; unfold lim; rw [hka]; show sh_n (o + 1) ≤ 4; rw [st_n hk]; exact Nat.le_refl 4
        · have := lim_3 (kd_23f hk (k - (o + 2)) (by omega))
          rw [show o + 2 + (k - (o + 2)) = k by omega] at this
          rw [this]; omega
    | succ m ih =>
      intro v hv cells slots K1 g1 hc hs e1 e2 e3 e4
      have v4 : v < 4 := by omega
      have hkf := kd_23f hk v v4
      refine wm_iload_n C d_St_init_19 rfl ?_
      refine wm_iconst (v := (4 : Int32)) C d_St_init_20 (by decide) ?_
      refine wm_icmp_ge (tgt := 43) C d_St_init_21 rfl (fun q => absurd q (n_nle4 v4)) (fun _ => ?_)
      refine wm_aload_n C d_St_init_24 rfl ?_
      refine wm_get C 0 d_St_init_25 (show wm_SC G K1 o (g1 o) = .inr (4, [wp_r G 1 o 0, .int (g1 o 1)]) by unfold wm_SC; rw [e2]; exact wm_P_k hk) (show o < o + 2 + v by omega) (show vwCl[4]? = some (Rn_4, Tn_4, 2) from rfl) (ws_in iw_4) (by decide) (ws_1 mw_0_115) (show _ = some (.ref (G.B + (o + 1))) by rw [← st_r hk]; rfl) ?_
      refine wm_iload_n C d_St_init_28 rfl ?_
      refine wm_new (ci := 3) (N := 3) C tn_3 tk_3 d_St_init_29 (ws_1 mw_0_112) (ws_1 mw_0_29) (ws_1 mw_0_3) (ws_in iw_3) rfl (wm_P_k hkf) (by decide +kernel) (by omega) (by omega) ?_
      refine wm_dup C d_St_init_32 rfl ?_
      refine wm_cIN C (ci_Fa _ _ hkf) gn_Fa_init (List.mem_of_getElem? (i := 2) rfl) rfl (ws_1 mw_0_3) (ws_1 mw_0_31) rfl (by decide +kernel) (by decide) (by decide) d_St_init_33 (Nat.le_of_ble_eq_true rfl) (by omega) (by omega) (fun n' S' g' q => ?_)
      obtain ⟨rfl, rfl, q⟩ := q
      refine wm_ast (t0 := 3) (ci := 3) (i := v) (N := 4) (r := (Rn_3, Tn_3, 3)) C d_St_init_36 (by omega) (by omega) (fun c => by rw [wm_P_k hka]; show Sum.inl (_, sh_n (o + 1), _) = _; rw [st_n hk]) rfl ⟨_, wm_P_k hkf⟩ rfl v4 rfl (by decide) (by rw [cu_ne _ _ (by omega)]; exact e3) (st_e hk v) ?_
      refine wm_iinc (v := nI (v + 1)) C d_St_init_37 rfl (nI_1 v) (by decide) ?_
      refine wm_goto (tgt := 19) C d_St_init_40 rfl ?_
      refine wk_cut (L' := [(1, .int (nI (v + 1))), (0, .ref (G.B + o))]) ?_ ⟨rfl, rfl, trivial⟩
      have := ih (v + 1) (by omega) (cells + 1) (slots + 3) (cu (cu K1 (o + 2 + v) 0) (o + 1) (v + 1)) g' (by omega) (by omega) (fun k h => by rw [cu_ne _ _ (by omega), cu_ne _ _ (by omega)]; exact e1 k h) (by rw [cu_ne _ _ (by omega), cu_ne _ _ (by omega)]; exact e2) (cu_at _ _ _) (fun a h => by rw [q a (by omega), wm_z_ne _ (by omega)]; exact e4 a h)
      exact this
  refine wm_aload_n C d_St_init_0 rfl ?_
  refine wm_objInit C d_St_init_1 (ws_1 mw_0_111) (ws_1 mw_0_18) (ws_1 mw_0_19) (by decide) (Nat.le_of_ble_eq_true rfl) ?_
  refine wm_aload_n C d_St_init_4 rfl ?_
  refine wm_iconst (v := (4 : Int32)) C d_St_init_5 (by decide) ?_
  refine wm_newq (t0 := 3) (N := 4) (cn := "FactFlow$Fact") C rfl (by rw [wm_P_k hka]; show Sum.inl (_, sh_n (o + 1), _) = _; rw [st_n hk]) d_St_init_6 (ws_1 mw_0_112) (List.mem_of_getElem? (i := 10) rfl) (by decide) rfl (by decide) (by decide) (by decide) ?_
  refine pr_4_0 C hy hk (by omega) (by rw [cu_ne _ _ (by omega)]; exact hK) (st_r hk).symm (ws_in iw_4) (ws_1 mw_0_115) d_St_init_9 ?_
  refine wm_aload_n C d_St_init_12 rfl ?_
  refine wm_iconst (v := (1 : Int32)) C d_St_init_13 (by decide) ?_
  refine pi_4_1 C (Or.inr rfl) hk (by omega) (ws_in iw_4) (ws_1 mw_0_118) d_St_init_14 ?_
  refine wm_iconst (v := (0 : Int32)) C d_St_init_17 (by decide) ?_
  refine wm_istore_n C d_St_init_18 (by decide) ?_
  refine wk_cut (L' := [(1, .int (nI 0)), (0, .ref (G.B + o))]) ?_ ⟨rfl, rfl, trivial⟩
  exact hl 4 0 rfl _ _ _ _ (by decide) (by decide) (fun k h => by rw [cu_ne _ _ (by omega), cu_ne _ _ (by omega)]) (cu_at _ _ _) (by rw [cu_ne _ _ (by omega)]; exact cu_at _ _ _) (fun a h => by rw [wm_u_ne _ _ _ (by omega), wm_z_ne _ (by omega)])
set_option maxHeartbeats 4000000 in
set_option maxRecDepth 100000 in
theorem ci_Pr {l : Launch} {G : wm_G} (K : Nat → Nat) (g : wm_Sg) (hK : K 1 = 0) : wm_MI l G y_Pr_init ws_Pr_init 2 26 123 2 (wm_SC G K) [.ref (G.B + 1)] g (fun n' S' g' => n' = 28 ∧ S' = wm_SC G (kf K 1) ∧ (∀ a, a < 1 → g' a = g a) ∧ g' 1 1 = 0) := by
  refine wm_in_I (cc := c_Pr_init) (maxL := 2) (by decide) rfl (Nat.le_of_ble_eq_true rfl) (fun X C _ hy E => ?_)
  have hl : ∀ m v, v + m = 24 → ∀ (cells slots : Nat) (K1 : Nat → Nat) (g1 : wm_Sg), cells + m ≤ 26 → slots + 4 * m ≤ 123 → (∀ k, k < 1 → K1 k = K k) → K1 1 = 3 → K1 2 = v → (∀ a, a < 1 → g1 a = g a) → g1 1 1 = 0 → wm_W G X 2 cells slots (4 + v) (wm_SC G K1) g1 31 [(1, .int (nI v)), (0, .ref (G.B + 1))] [] := by
    intro m
    induction m with
    | zero =>
      intro v hv cells slots K1 g1 hc hs e1 e2 e3 e4 e5
      have e : v = 24 := by omega
      subst e
      refine wm_iload_n C d_Pr_init_31 rfl ?_
      refine wm_bipush (v := (24 : Int32)) C d_Pr_init_32 (by decide) ?_
      refine wm_icmp_ge (tgt := 56) C d_Pr_init_34 rfl (fun _ => ?_) (fun q => absurd (show (24 : Int32) ≤ nI 24 by decide) q)
      refine wm_widen (show cells ≤ 26 by omega) (show slots ≤ 123 by omega) ?_
      refine wm_cv (cv_g (show 4 + 24 ≤ 201 by omega) e1 (fun k h1 h2 => ?_)) (E _ _ _ _ _ d_Pr_init_56 ⟨rfl, rfl, e4, e5⟩)
      by_cases z0 : k = 1
      · rw [z0, e2]; decide +kernel
      · by_cases z1 : k = 2
        · rw [z1, e3]; decide +kernel
        · rw [(by decide +kernel : ∀ k, k < 28 → 2 < k → lim k = 0) k h2 (by omega)]; omega
    | succ m ih =>
      intro v hv cells slots K1 g1 hc hs e1 e2 e3 e4 e5
      have v4 : v < 24 := by omega
      have hkf := kd_in v v4
      refine wm_iload_n C d_Pr_init_31 rfl ?_
      refine wm_bipush (v := (24 : Int32)) C d_Pr_init_32 (by decide) ?_
      refine wm_icmp_ge (tgt := 56) C d_Pr_init_34 rfl (fun q => absurd q (n_nle24 v4)) (fun _ => ?_)
      refine wm_aload_n C d_Pr_init_37 rfl ?_
      refine wm_get C 0 d_Pr_init_38 (show wm_SC G K1 1 (g1 1) = .inr (1, [wp_r G 3 1 0, .int (g1 1 1), wp_r G 3 1 2]) by unfold wm_SC; rw [e2]; exact wm_P_k (by decide +kernel : kd 1 = 1)) (show 1 < 4 + v by omega) (show vwCl[1]? = some (Rn_1, Tn_1, 3) from rfl) (ws_in iw_1) (by decide) (ws_1 mw_0_84) (show _ = some (.ref (G.B + 2)) by rfl) ?_
      refine wm_iload_n C d_Pr_init_41 rfl ?_
      refine wm_new (ci := 2) (N := 4) C tn_2 tk_2 d_Pr_init_42 (ws_1 mw_0_26) (ws_1 mw_0_51) (ws_1 mw_0_4) (ws_in iw_2) rfl (wm_P_k hkf) (by decide +kernel) (by omega) (by omega) ?_
      refine wm_dup C d_Pr_init_45 rfl ?_
      refine wm_cIN C (ci_In _ _ hkf) gn_In_init (List.mem_of_getElem? (i := 1) rfl) rfl (ws_1 mw_0_4) (ws_1 mw_0_53) rfl (by decide +kernel) (by decide) (by decide) d_Pr_init_46 (Nat.le_of_ble_eq_true rfl) (by omega) (by omega) (fun n' S' g' q => ?_)
      obtain ⟨rfl, rfl, q⟩ := q
      refine wm_ast (t0 := 2) (ci := 2) (i := v) (N := 24) (r := (Rn_2, Tn_2, 4)) C d_Pr_init_49 (by omega) (by omega) (fun c => wm_P_k (by decide +kernel : kd 2 = 22)) rfl ⟨_, wm_P_k hkf⟩ rfl v4 rfl (by decide) (by rw [cu_ne _ _ (by omega)]; exact e3) rfl ?_
      refine wm_iinc (v := nI (v + 1)) C d_Pr_init_50 rfl (nI_1 v) (by decide) ?_
      refine wm_goto (tgt := 31) C d_Pr_init_53 rfl ?_
      refine wk_cut (L' := [(1, .int (nI (v + 1))), (0, .ref (G.B + 1))]) ?_ ⟨rfl, rfl, trivial⟩
      exact ih (v + 1) (by omega) (cells + 1) (slots + 4) (cu (cu K1 (4 + v) 0) 2 (v + 1)) g' (by omega) (by omega) (fun k h => by rw [cu_ne _ _ (by omega), cu_ne _ _ (by omega)]; exact e1 k h) (by rw [cu_ne _ _ (by omega), cu_ne _ _ (by omega)]; exact e2) (cu_at _ _ _) (fun a h => by rw [q a (by omega), wm_z_ne _ (by omega)]; exact e4 a h) (by rw [q 1 (by omega), wm_z_ne _ (by omega)]; exact e5)
  refine wm_aload_n C d_Pr_init_0 rfl ?_
  refine wm_objInit C d_Pr_init_1 (ws_1 mw_0_25) (ws_1 mw_0_18) (ws_1 mw_0_19) (by decide) (Nat.le_of_ble_eq_true rfl) ?_
  refine wm_aload_n C d_Pr_init_4 rfl ?_
  refine wm_bipush (v := (24 : Int32)) C d_Pr_init_5 (by decide) ?_
  refine wm_newq (t0 := 2) (N := 24) (cn := "FactFlow$Instruction") C rfl (wm_P_k (by decide +kernel : kd 2 = 22)) d_Pr_init_7 (ws_1 mw_0_26) (List.mem_of_getElem? (i := 8) rfl) (by decide) rfl (by decide) (by decide) (by decide) ?_
  refine pr_1_0 C hy (by decide +kernel) (by decide) (by rw [cu_ne _ _ (by decide)]; exact hK) (by decide +kernel) (ws_in iw_1) (ws_1 mw_0_84) d_Pr_init_10 ?_
  refine wm_aload_n C d_Pr_init_13 rfl ?_
  refine wm_iconst (v := (0 : Int32)) C d_Pr_init_14 (by decide) ?_
  refine pi_1_1 C (by decide +kernel) (by decide) (ws_in iw_1) (ws_1 mw_0_88) d_Pr_init_15 ?_
  refine wm_aload_n C d_Pr_init_18 rfl ?_
  refine wm_new (ci := 3) (N := 3) C tn_3 tk_3 d_Pr_init_19 (ws_1 mw_0_28) (ws_1 mw_0_29) (ws_1 mw_0_3) (ws_in iw_3) rfl (wm_P_k (by decide +kernel : kd 3 = 3)) (by decide +kernel) (by decide) (by decide) ?_
  refine wm_dup C d_Pr_init_22 rfl ?_
  refine wm_cIN C (ci_Fa _ _ (by decide +kernel : kd 3 = 3)) gn_Fa_init (List.mem_of_getElem? (i := 0) rfl) rfl (ws_1 mw_0_3) (ws_1 mw_0_31) rfl (by decide +kernel) (by decide) (by decide) d_Pr_init_23 (Nat.le_of_ble_eq_true rfl) (by decide) (by decide) (fun n' S' g' q => ?_)
  obtain ⟨rfl, rfl, q⟩ := q
  refine pr_1_2 C hy (by decide +kernel) (by decide) (by rw [cu_ne _ _ (by decide)]; exact cu_at _ _ _) (by decide +kernel) (ws_in iw_1) (ws_1 mw_0_91) d_Pr_init_26 ?_
  refine wm_iconst (v := (0 : Int32)) C d_Pr_init_29 (by decide) ?_
  refine wm_istore_n C d_Pr_init_30 (by decide) ?_
  refine wk_cut (L' := [(1, .int (nI 0)), (0, .ref (G.B + 1))]) ?_ ⟨rfl, rfl, trivial⟩
  exact hl 24 0 rfl _ _ _ _ (by decide) (by decide) (fun k h => by rw [cu_ne _ _ (by omega), cu_ne _ _ (by omega), cu_ne _ _ (by omega), cu_ne _ _ (by omega)]) (cu_at _ _ _) (by rw [cu_ne _ _ (by decide), cu_ne _ _ (by decide), cu_ne _ _ (by decide)]; exact cu_at _ _ _) (fun a h => by rw [q a (by omega), wm_z_ne _ (by omega), wm_u_ne _ _ _ (by omega), wm_z_ne _ (by omega)]) (by rw [q 1 (by decide), wm_z_ne _ (by decide), wm_u_app, if_pos ⟨rfl, rfl⟩])
set_option maxHeartbeats 4000000 in
set_option maxRecDepth 100000 in
theorem ci_So {l : Launch} {G : wm_G} (K : Nat → Nat) (g : wm_Sg) (hK : K 28 = 0) : wm_MI l G y_So_init ws_So_init 3 152 498 29 (wm_SC G K) [.ref (G.B + 28)] g (fun n' S' g' => n' = 181 ∧ S' = wm_SC G (kf K 28) ∧ (∀ a, a < 28 → g' a = g a) ∧ g' 28 1 = 0) := by
  refine wm_in_I (cc := c_So_init) (maxL := 2) (by decide) rfl (Nat.le_of_ble_eq_true rfl) (fun X C _ hy E => ?_)
  have hl : ∀ m v, v + m = 24 → ∀ (cells slots : Nat) (K1 : Nat → Nat) (g1 : wm_Sg), cells + 6 * m ≤ 152 → slots + 18 * m ≤ 498 → (∀ k, k < 28 → K1 k = K k) → K1 28 = 4 → K1 29 = v → (∀ k, 29 < k → k < 37 + 6 * v → lim k ≤ K1 k) → (∀ a, a < 28 → g1 a = g a) → g1 28 1 = 0 → wm_W G X 2 cells slots (37 + 6 * v) (wm_SC G K1) g1 39 [(1, .int (nI v)), (0, .ref (G.B + 28))] [] := by
    intro m
    induction m with
    | zero =>
      intro v hv cells slots K1 g1 hc hs e1 e2 e3 e6 e4 e5
      have e : v = 24 := by omega
      subst e
      refine wm_iload_n C d_So_init_39 rfl ?_
      refine wm_bipush (v := (24 : Int32)) C d_So_init_40 (by decide) ?_
      refine wm_icmp_ge (tgt := 64) C d_So_init_42 rfl (fun _ => ?_) (fun q => absurd (show (24 : Int32) ≤ nI 24 by decide) q)
      refine wm_widen (show cells ≤ 152 by omega) (show slots ≤ 498 by omega) ?_
      refine wm_cv (cv_g (show 37 + 6 * 24 ≤ 201 by omega) e1 (fun k h1 h2 => ?_)) (E _ _ _ _ _ d_So_init_64 ⟨rfl, rfl, e4, e5⟩)
      by_cases z0 : k = 28
      · rw [z0, e2]; decide +kernel
      · by_cases z1 : k = 29
        · rw [z1, e3]; decide +kernel
        · exact e6 k (by omega) h2
    | succ m ih =>
      intro v hv cells slots K1 g1 hc hs e1 e2 e3 e6 e4 e5
      have v4 : v < 24 := by omega
      have hkf := st_kd v v4
      refine wm_iload_n C d_So_init_39 rfl ?_
      refine wm_bipush (v := (24 : Int32)) C d_So_init_40 (by decide) ?_
      refine wm_icmp_ge (tgt := 64) C d_So_init_42 rfl (fun q => absurd q (n_nle24 v4)) (fun _ => ?_)
      refine wm_aload_n C d_So_init_45 rfl ?_
      refine wm_get C 0 d_So_init_46 (show wm_SC G K1 28 (g1 28) = .inr (5, [wp_r G 4 28 0, .int (g1 28 1), wp_r G 4 28 2, wp_r G 4 28 3]) by unfold wm_SC; rw [e2]; exact wm_P_k (by decide +kernel : kd 28 = 5)) (show 28 < 37 + 6 * v by omega) (show vwCl[5]? = some (Rn_5, Tn_5, 4) from rfl) (ws_in iw_5) (by decide) (ws_1 mw_0_128) (show _ = some (.ref (G.B + 29)) by rfl) ?_
      refine wm_iload_n C d_So_init_49 rfl ?_
      refine wm_new (ci := 4) (N := 2) C tn_4 tk_4 d_So_init_50 (ws_1 mw_0_105) (ws_1 mw_0_107) (ws_1 mw_0_6) (ws_in iw_4) rfl (wm_P_k hkf) df_4 (by omega) (by omega) ?_
      refine wm_dup C d_So_init_53 rfl ?_
      refine wm_cI C (ci_St _ _ hkf (cu_at _ _ _)) gn_St_init rfl (ws_1 mw_0_6) (ws_1 mw_0_108) (ws_1 mw_0_109) rfl (by decide +kernel) (by decide) (by decide) d_So_init_54 (Nat.le_of_ble_eq_true rfl) (by omega) (by omega) (fun n' S' g' q => ?_)
      obtain ⟨rfl, rfl, q⟩ := q
      have kfl : ∀ k, k < 37 + 6 * v → kf (cu K1 (37 + 6 * v) 0) (37 + 6 * v) k = K1 k := fun k h => by unfold kf; rw [if_pos h, cu_ne _ _ (by omega)]
      have kfg : ∀ k, 37 + 6 * v ≤ k → kf (cu K1 (37 + 6 * v) 0) (37 + 6 * v) k = 99 := fun k h => by unfold kf; rw [if_neg (by omega)]
      refine wm_ast (t0 := 4) (ci := 4) (i := v) (N := 24) (r := (Rn_4, Tn_4, 2)) C d_So_init_57 (by omega) (by omega) (fun c => wm_P_k (by decide +kernel : kd 29 = 24)) rfl ⟨_, wm_P_k hkf⟩ rfl v4 rfl (by decide) (by rw [kfl 29 (by omega)]; exact e3) rfl ?_
      refine wm_iinc (v := nI (v + 1)) C d_So_init_58 rfl (nI_1 v) (by decide) ?_
      refine wm_goto (tgt := 39) C d_So_init_61 rfl ?_
      refine wk_cut (L' := [(1, .int (nI (v + 1))), (0, .ref (G.B + 28))]) ?_ ⟨rfl, rfl, trivial⟩
      exact ih (v + 1) (by omega) _ _ (cu (kf (cu K1 (37 + 6 * v) 0) (37 + 6 * v)) 29 (v + 1)) g' (by omega) (by omega) (fun k h => by rw [cu_ne _ _ (by omega), kfl k (by omega)]; exact e1 k h) (by rw [cu_ne _ _ (by omega), kfl 28 (by omega)]; exact e2) (cu_at _ _ _) (fun k h1 h2 => by
        rw [cu_ne _ _ (by omega)]
        by_cases z : k < 37 + 6 * v
        · rw [kfl k z]; exact e6 k h1 z
        · rw [kfg k (by omega)]; exact lim_99 k (by omega)) (fun a h => by rw [q a (by omega), wm_z_ne _ (by omega)]; exact e4 a h) (by rw [q 28 (by omega), wm_z_ne _ (by omega)]; exact e5)
  refine wm_aload_n C d_So_init_0 rfl ?_
  refine wm_objInit C d_So_init_1 (ws_1 mw_0_104) (ws_1 mw_0_18) (ws_1 mw_0_19) (by decide) (Nat.le_of_ble_eq_true rfl) ?_
  refine wm_aload_n C d_So_init_4 rfl ?_
  refine wm_bipush (v := (24 : Int32)) C d_So_init_5 (by decide) ?_
  refine wm_newq (t0 := 4) (N := 24) (cn := "FactFlow$State") C rfl (wm_P_k (by decide +kernel : kd 29 = 24)) d_So_init_7 (ws_1 mw_0_105) (List.mem_of_getElem? (i := 9) rfl) (by decide) rfl (by decide) (by decide) (by decide) ?_
  refine pr_5_0 C hy (by decide +kernel) (by decide) (by rw [cu_ne _ _ (by decide)]; exact hK) (by decide +kernel) (ws_in iw_5) (ws_1 mw_0_128) d_So_init_10 ?_
  refine wm_aload_n C d_So_init_13 rfl ?_
  refine wm_iconst (v := (0 : Int32)) C d_So_init_14 (by decide) ?_
  refine pi_5_1 C (Or.inl rfl) (by decide +kernel) (by decide) (ws_in iw_5) (ws_1 mw_0_130) d_So_init_15 ?_
  refine wm_aload_n C d_So_init_18 rfl ?_
  refine wm_bipush (v := (24 : Int32)) C d_So_init_19 (by decide) ?_
  refine wm_newz (N := 24) C (by decide +kernel) (by decide +kernel) d_So_init_21 (ws_1 mw_0_127) (by decide) rfl (by decide) (by decide) (by decide) ?_
  refine pr_5_2 C hy (by decide +kernel) (by decide) (cu_at _ _ _) (by decide +kernel) (ws_in iw_5) (ws_1 mw_0_132) d_So_init_23 ?_
  refine wm_aload_n C d_So_init_26 rfl ?_
  refine wm_new (ci := 4) (N := 2) C tn_4 tk_4 d_So_init_27 (ws_1 mw_0_105) (ws_1 mw_0_107) (ws_1 mw_0_6) (ws_in iw_4) rfl (wm_P_k (by decide +kernel : kd 31 = 4)) df_4 (by decide) (by decide) ?_
  refine wm_dup C d_So_init_30 rfl ?_
  refine wm_cI C (ci_St _ _ (by decide +kernel : kd 31 = 4) (cu_at _ _ _)) gn_St_init rfl (ws_1 mw_0_6) (ws_1 mw_0_108) (ws_1 mw_0_109) rfl (by decide +kernel) (by decide) (by decide) d_So_init_31 (Nat.le_of_ble_eq_true rfl) (by decide) (by decide) (fun n' S' g' q => ?_)
  obtain ⟨rfl, rfl, q⟩ := q
  have kfl : ∀ K2 : Nat → Nat, ∀ k, k < 31 → kf (cu K2 31 0) 31 k = K2 k := fun K2 k h => by unfold kf; rw [if_pos h, cu_ne _ _ (by omega)]
  have kfg : ∀ K2 : Nat → Nat, ∀ k, 31 ≤ k → kf K2 31 k = 99 := fun K2 k h => by unfold kf; rw [if_neg (by omega)]
  refine pr_5_3 C hy (by decide +kernel) (by decide) (by rw [kfl _ 28 (by decide)]; exact cu_at _ _ _) (by decide +kernel) (ws_in iw_5) (ws_1 mw_0_133) d_So_init_34 ?_
  refine wm_iconst (v := (0 : Int32)) C d_So_init_37 (by decide) ?_
  refine wm_istore_n C d_So_init_38 (by decide) ?_
  refine wk_cut (L' := [(1, .int (nI 0)), (0, .ref (G.B + 28))]) ?_ ⟨rfl, rfl, trivial⟩
  exact hl 24 0 rfl _ _ _ _ (by decide) (by decide) (fun k h => by rw [cu_ne _ _ (by omega), kfl _ k (by omega), cu_ne _ _ (by omega), cu_ne _ _ (by omega), cu_ne _ _ (by omega)]) (cu_at _ _ _) (by rw [cu_ne _ _ (by decide), kfl _ 29 (by decide), cu_ne _ _ (by decide), cu_ne _ _ (by decide)]; exact cu_at _ _ _) (fun k h1 h2 => by
    rw [cu_ne _ _ (by omega)]
    by_cases z : k = 30
    · rw [z, show lim 30 = 0 by decide +kernel]; omega
    · rw [kfg _ k (by omega)]; exact lim_99 k (by omega)) (fun a h => by rw [q a (by omega), wm_z_ne _ (by omega), wm_z_ne _ (by omega), wm_u_ne _ _ _ (by omega), wm_z_ne _ (by omega)]) (by rw [q 28 (by decide), wm_z_ne _ (by decide), wm_z_ne _ (by decide), wm_u_app, if_pos ⟨rfl, rfl⟩])
set_option maxHeartbeats 4000000 in
set_option maxRecDepth 100000 in
theorem ci_Ff {l : Launch} {G : wm_G} (K : Nat → Nat) (g : wm_Sg) (hK : K 0 = 0) : wm_MI l G y_Ff_init ws_Ff_init 4 185 696 1 (wm_SC G K) [.ref (G.B + 0)] g (fun n' S' g' => n' = 186 ∧ (∃ K', S' = wm_SC G K' ∧ ∀ k, k < 186 → lim k ≤ K' k) ∧ g' 1 1 = 0 ∧ g' 28 1 = 0 ∧ g' 181 1 = 0 ∧ g' 183 2 = 0 ∧ g' 183 3 = 0 ∧ g' 183 4 = -1 ∧ ∀ v, g' 184 v = 0) := by
  refine wm_in_I (cc := c_Ff_init) (maxL := 1) (by decide) rfl (Nat.le_of_ble_eq_true rfl) (fun X C _ hy E => ?_)
  have kfl : ∀ (K2 : Nat → Nat) (o k : Nat), k < o → kf (cu K2 o 0) o k = K2 k := fun K2 o k h => by unfold kf; rw [if_pos h, cu_ne _ _ (by omega)]
  have kfg : ∀ (K2 : Nat → Nat) (o k : Nat), o ≤ k → kf K2 o k = 99 := fun K2 o k h => by unfold kf; rw [if_neg (by omega)]
  refine wm_aload_n C d_Ff_init_0 rfl ?_
  refine wm_objInit (o := 0) C d_Ff_init_1 (ws_1 mw_0_17) (ws_1 mw_0_18) (ws_1 mw_0_19) (by decide) (Nat.le_of_ble_eq_true rfl) ?_
  refine wm_aload_n C d_Ff_init_4 rfl ?_
  refine wm_new (ci := 1) (N := 3) C tn_1 tk_1 d_Ff_init_5 (ws_1 mw_0_20) (ws_1 mw_0_21) (ws_1 mw_0_2) (ws_in iw_1) rfl (wm_P_k (by decide +kernel : kd 1 = 1)) df_1 (by decide) (by decide) ?_
  refine wm_dup C d_Ff_init_8 rfl ?_
  refine wm_cI C (ci_Pr _ _ (cu_at _ _ _)) gn_Pr_init rfl (ws_1 mw_0_2) (ws_1 mw_0_22) (ws_1 mw_0_23) rfl (by decide +kernel) (by decide) (by decide) d_Ff_init_9 (Nat.le_of_ble_eq_true rfl) (by decide) (by decide) (fun n1 S1 g1 q1 => ?_)
  obtain ⟨rfl, rfl, -, q1⟩ := q1
  refine pr_0_0 (o := 0) C hy (by decide +kernel) (by decide) (by rw [kfl _ 1 0 (by decide)]; exact hK) (by decide +kernel) (ws_in iw_0) (ws_1 mw_0_188) d_Ff_init_12 ?_
  refine wm_aload_n C d_Ff_init_15 rfl ?_
  refine wm_new (ci := 5) (N := 4) C tn_5 tk_5 d_Ff_init_16 (ws_1 mw_0_99) (ws_1 mw_0_100) (ws_1 mw_0_5) (ws_in iw_5) rfl (wm_P_k (by decide +kernel : kd 28 = 5)) df_5 (by decide) (by decide) ?_
  refine wm_dup C d_Ff_init_19 rfl ?_
  refine wm_cI C (ci_So _ _ (cu_at _ _ _)) gn_So_init rfl (ws_1 mw_0_5) (ws_1 mw_0_101) (ws_1 mw_0_102) rfl (by decide +kernel) (by decide) (by decide) d_Ff_init_20 (Nat.le_of_ble_eq_true rfl) (by decide) (by decide) (fun n2 S2 g2 q2 => ?_)
  obtain ⟨rfl, rfl, f2, q2⟩ := q2
  refine pr_0_1 (o := 0) C hy (by decide +kernel) (by decide) (by rw [kfl _ 28 0 (by decide)]; exact cu_at _ _ _) (by decide +kernel) (ws_in iw_0) (ws_1 mw_0_189) d_Ff_init_23 ?_
  refine wm_aload_n C d_Ff_init_26 rfl ?_
  refine wm_new (ci := 6) (N := 2) C tn_6 tk_6 d_Ff_init_27 (ws_1 mw_0_143) (ws_1 mw_0_144) (ws_1 mw_0_7) (ws_in iw_6) rfl (wm_P_k (by decide +kernel : kd 181 = 6)) df_6 (by decide) (by decide) ?_
  refine wm_dup C d_Ff_init_30 rfl ?_
  refine wm_cIN C (ci_Ip _ _ (cu_at _ _ _)) gn_Ip_init (List.mem_of_getElem? (i := 3) rfl) rfl (ws_1 mw_0_7) (ws_1 mw_0_146) rfl (by decide +kernel) (by decide) (by decide) d_Ff_init_31 (Nat.le_of_ble_eq_true rfl) (by decide) (by decide) (fun n3 S3 g3 q3 => ?_)
  obtain ⟨rfl, rfl, f3, q3⟩ := q3
  refine pr_0_2 (o := 0) C hy (by decide +kernel) (by decide) (by rw [kfl _ 181 0 (by decide)]; exact cu_at _ _ _) (by decide +kernel) (ws_in iw_0) (ws_1 mw_0_190) d_Ff_init_34 ?_
  refine wm_aload_n C d_Ff_init_37 rfl ?_
  refine wm_new (ci := 7) (N := 6) C tn_7 tk_7 d_Ff_init_38 (ws_1 mw_0_158) (ws_1 mw_0_159) (ws_1 mw_0_8) (ws_in iw_7) rfl (wm_P_k (by decide +kernel : kd 183 = 7)) df_7 (by decide) (by decide) ?_
  refine wm_dup C d_Ff_init_41 rfl ?_
  refine wm_cIN C (ci_Ma _ _ (cu_at _ _ _)) gn_Ma_init (List.mem_of_getElem? (i := 4) rfl) rfl (ws_1 mw_0_8) (ws_1 mw_0_161) rfl (by decide +kernel) (by decide) (by decide) d_Ff_init_42 (Nat.le_of_ble_eq_true rfl) (by decide) (by decide) (fun n4 S4 g4 q4 => ?_)
  obtain ⟨rfl, rfl, f4, q4⟩ := q4
  refine pr_0_3 (o := 0) C hy (by decide +kernel) (by decide) (by rw [kfl _ 183 0 (by decide)]; exact cu_at _ _ _) (by decide +kernel) (ws_in iw_0) (ws_1 mw_0_191) d_Ff_init_45 ?_
  have fr : ∀ a, a < 28 → g4 a = g1 a := fun a h => by rw [f4 a (by omega), wm_z_ne _ (by omega), f3 a (by omega), wm_z_ne _ (by omega), f2 a (by omega), wm_z_ne _ (by omega)]
  refine E _ _ _ _ _ d_Ff_init_48 ⟨rfl, ⟨_, rfl, fun k hk => ?_⟩, by rw [fr 1 (by decide)]; exact q1, by rw [f4 28 (by decide), wm_z_ne _ (by decide), f3 28 (by decide), wm_z_ne _ (by decide)]; exact q2, by rw [f4 181 (by decide), wm_z_ne _ (by decide)]; exact q3, q4⟩
  by_cases z0 : k = 0
  · rw [z0, cu_at]; decide +kernel
  · rw [cu_ne _ _ z0]
    by_cases z1 : k < 183
    · rw [kfl _ 183 k z1, cu_ne _ _ z0]
      by_cases z2 : k < 181
      · rw [kfl _ 181 k z2, cu_ne _ _ z0]
        by_cases z3 : k < 28
        · rw [kfl _ 28 k z3, cu_ne _ _ z0, kfg _ 1 k (by omega)]; exact lim_99 k (by omega)
        · rw [kfg _ 28 k (by omega)]; exact lim_99 k (by omega)
      · rw [kfg _ 181 k (by omega)]; exact lim_99 k (by omega)
    · rw [kfg _ 183 k (by omega)]; exact lim_99 k (by omega)
