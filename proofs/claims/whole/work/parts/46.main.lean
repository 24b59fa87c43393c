/-! the law from its first instruction -/
set_option maxHeartbeats 4000000 in
set_option maxRecDepth 100000 in
theorem lw_main {G : wm_G} {X : wm_X} {b L : Nat} {xs : Nat → Int32} (C : wm_C G X code 4 (lw_w :: wsAll) "FactFlowLaw" 10 721390 6938078) (H : lw_H G X b L xs) (E : ∀ (g : wm_Sg) (L' : List (Nat × Value)), wm_W G X 4 721390 6938078 wm_n (wm_S G) g 577 L' [.int 1]) : wm_W G X 4 0 0 0 (wm_SC G (fun _ => 0)) (fun _ _ => 0) 0 (lv_args 0 [Value.ref b]) [] := by
  refine wm_new (ci := 0) (N := 4) C tn_0 tk_0 d_law_0 (ws_1 mw_0_12) (ws_1 mw_0_13) (ws_1 mw_0_1) (ws_in iw_0) rfl (wm_P_k lw_k0) df_0 (by decide) (by decide) ?_
  refine wm_dup C d_law_3 rfl ?_
  refine wm_cI (o := 0) C (ci_Ff _ _ (cu_at _ _ _)) gn_Ff_init rfl (ws_1 mw_0_1) (ws_1 mw_0_14) (ws_1 nw_1_15) rfl (by decide +kernel) (by decide) (by decide) d_law_4 (Nat.le_of_ble_eq_true rfl) (by decide) (by decide) (fun n1 S1 g1 q => ?_)
  obtain ⟨rfl, ⟨K1, rfl, hK1⟩, p1, p2, p3, p4, p5, p6, p7⟩ := q
  refine wm_astore_n C d_law_7 (by decide) ?_
  refine wm_new (ci := 8) (N := 25) C tn_8 tk_8 d_law_8 (ws_1 mw_1_222) (ws_1 mw_1_223) (ws_1 mw_0_9) (ws_in iw_8) rfl (wm_P_k lw_k8) df_8 (by decide) (by decide) ?_
  refine wm_dup C d_law_11 rfl ?_
  refine wm_cI C (ci_Mo _ _ (cu_at _ _ _) (wm_z_at _ _)) gn_Mo_init rfl (ws_1 mw_0_9) (ws_1 mw_1_224) (ws_1 nw_2_225) rfl (by decide +kernel) (by decide) (by decide) d_law_12 (Nat.le_of_ble_eq_true rfl) (by decide) (by decide) (fun n2 S2 g2 q => ?_)
  obtain ⟨rfl, rfl, fr, r1, r2, r3, r4⟩ := q
  refine wm_astore_n C d_law_15 (by decide) ?_
  refine wm_cS (fun k hk => ?_) ?_
  · unfold kf
    by_cases z : k < 186
    · rw [if_pos z, cu_ne _ _ (by omega)]; exact hK1 k z
    · rw [if_neg z]; exact lim_99 k hk
  refine wm_iconst (v := (0 : Int32)) C d_law_16 (by decide) ?_
  refine wm_istore_n C d_law_17 (by decide) ?_
  refine wk_cut (L' := lw_L G b 0) ?_ ⟨rfl, rfl, rfl, rfl, trivial⟩
  have g0 : ∀ a, a < 186 → g2 a = g1 a := fun a h => by rw [fr a h, wm_z_ne _ (by omega)]
  refine lw_loop C H (by decide) (by decide) (fun g L' => wm_widen (by decide) (by decide) (E g L')) 600 0 (by have := H.2.2.2; omega) (by decide) ((0, fun _ _ => 0), (0, fun _ => 0), (0, 0, -1, fun _ => 0, fun _ => 0)) g2 ⟨Nat.zero_le _, fun i h => absurd h (Nat.not_lt_zero i), Nat.zero_le _, Nat.zero_le _⟩ ⟨⟨by rw [g0 1 (by decide)]; exact p1, fun i h => absurd h (Nat.not_lt_zero i)⟩, Or.inl (by rw [g0 28 (by decide)]; exact p2), ⟨by rw [g0 181 (by decide)]; exact p3, fun i h => absurd h (Nat.not_lt_zero i)⟩, by rw [g0 183 (by decide)]; exact p4, by rw [g0 183 (by decide)]; exact p5, by rw [g0 183 (by decide)]; exact p6, fun v _ => by rw [g0 184 (by decide)]; exact p7 v, fun j _ h => absurd h (Nat.not_lt_zero j)⟩ ⟨⟨r1 0 (by decide), fun i h => absurd h (Nat.not_lt_zero i)⟩, ⟨Or.inl (r1 5 (by decide)), Or.inl (r1 10 (by decide))⟩, ⟨r1 17 (by decide), fun i h => absurd h (Nat.not_lt_zero i)⟩, r1 22 (by decide), r1 19 (by decide), r2, fun v _ => r3 v, fun j _ => ?_⟩
  rw [r4 j, if_neg (Nat.not_lt_zero j)]
