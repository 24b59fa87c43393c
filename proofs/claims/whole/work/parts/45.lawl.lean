/-! the law: its loop, its entry -/
theorem nw_1_15 : Cond.instanceMethod y_Ff_init ∈ wsAll := ws_mem (List.mem_append_right _ (List.mem_append_left _ (List.mem_of_getElem? (i := 15) rfl))) rfl
theorem nw_2_225 : Cond.instanceMethod y_Mo_init ∈ wsAll := ws_mem (List.mem_append_right _ (List.mem_append_right _ (List.mem_append_left _ (List.mem_of_getElem? (i := 225) rfl)))) rfl
theorem lw_nw {s : State} {b : Nat} (hts : ∀ w ∈ lw_tbl, w.before #[Value.ref b] s = true) : ∀ w ∈ wm_nw, va_Nw w s := List.forall_mem_cons.mpr ⟨va_Nw.of rfl (hts _ (List.mem_append_right _ (List.mem_append_left _ (List.mem_of_getElem? (i := 30) rfl)))), List.forall_mem_cons.mpr ⟨va_Nw.of rfl (hts _ (List.mem_append_right _ (List.mem_append_left _ (List.mem_of_getElem? (i := 52) rfl)))), List.forall_mem_cons.mpr ⟨va_Nw.of rfl (hts _ (List.mem_append_right _ (List.mem_append_left _ (List.mem_of_getElem? (i := 114) rfl)))), List.forall_mem_cons.mpr ⟨va_Nw.of rfl (hts _ (List.mem_append_right _ (List.mem_append_left _ (List.mem_of_getElem? (i := 145) rfl)))), List.forall_mem_cons.mpr ⟨va_Nw.of rfl (hts _ (List.mem_append_right _ (List.mem_append_left _ (List.mem_of_getElem? (i := 160) rfl)))), List.forall_mem_cons.mpr ⟨va_Nw.of rfl (hts _ (List.mem_append_right _ (List.mem_append_left _ (List.mem_of_getElem? (i := 211) rfl)))), List.forall_mem_cons.mpr ⟨va_Nw.of rfl (hts _ (List.mem_append_right _ (List.mem_append_right _ (List.mem_append_left _ (List.mem_of_getElem? (i := 100) rfl))))), List.forall_mem_cons.mpr ⟨va_Nw.of rfl (hts _ (List.mem_append_right _ (List.mem_append_right _ (List.mem_append_left _ (List.mem_of_getElem? (i := 189) rfl))))), List.forall_mem_cons.mpr ⟨va_AO.of (hts _ (List.mem_append_right _ (List.mem_append_left _ (List.mem_of_getElem? (i := 27) rfl)))), List.forall_mem_cons.mpr ⟨va_AO.of (hts _ (List.mem_append_right _ (List.mem_append_left _ (List.mem_of_getElem? (i := 106) rfl)))), List.forall_mem_cons.mpr ⟨va_AO.of (hts _ (List.mem_append_right _ (List.mem_append_left _ (List.mem_of_getElem? (i := 113) rfl)))), fun _ h => absurd h List.not_mem_nil⟩⟩⟩⟩⟩⟩⟩⟩⟩⟩⟩
theorem lw_cmp {L i : Nat} (hL : L ≤ 3072) (hi : i ≤ 4000) : nI L - 6 < nI i ↔ L < i + 6 := by
  by_cases h : 6 ≤ L
  · obtain ⟨a, rfl⟩ : ∃ a, L = a + 6 := ⟨L - 6, by omega⟩
    have e : nI (a + 6) - 6 = nI a := by
      rw [← nI_add a 6]
      exact Int32.add_sub_cancel (nI a) (nI 6)
    rw [e, nI_ltI (by omega) (by omega)]
    omega
  · have h0 : nI L - 6 < 0 := (by decide +kernel : ∀ l, l < 6 → nI l - 6 < 0) L (by omega)
    have h1 : (0 : Int32) ≤ nI i := n_le (a := 0) (by decide) (by omega) (by omega)
    exact ⟨fun _ => by omega, fun _ => Int32.lt_of_lt_of_le h0 h1⟩
section LP
variable {G : wm_G} {X : wm_X} {b L : Nat} {xs : Nat → Int32} {cells slots : Nat}
set_option maxHeartbeats 4000000 in
theorem lw_sw (C : wm_C G X code 4 (lw_w :: wsAll) "FactFlowLaw" 10 721390 6938078) (H : lw_H G X b L xs) {i : Nat} (hi : i + 6 ≤ L) (hcs : cells ≤ 721390) (hss : slots ≤ 6938078) (next : ∀ (A : ab_T) (g : wm_Sg), ab_ok A → cl_R A g → md_R A g → wm_W G X 4 cells slots wm_n (wm_S G) g 570 (lw_L G b i) []) {A : ab_T} {g : wm_Sg} (ok : ab_ok A) (hc : cl_R A g) (hm : md_R A g) (x : Int32) : wm_W G X 4 cells slots wm_n (wm_S G) g 33 (lw_L G b i) [.int x] := by
  by_cases q0 : x = 0
  · exact wk_tableEq (tgt := 120) C d_law_33 q0 (by decide) (by decide) rfl rfl (lw_c0 C H hi hcs hss next ok hc hm)
  by_cases q1 : x = 1
  · exact wk_tableEq (tgt := 173) C d_law_33 q1 (by decide) (by decide) rfl rfl (lw_c1 C H hi hcs hss next ok hc hm)
  by_cases q2 : x = 2
  · exact wk_tableEq (tgt := 236) C d_law_33 q2 (by decide) (by decide) rfl rfl (lw_c2 C H hi hcs hss next ok hc hm)
  by_cases q3 : x = 3
  · exact wk_tableEq (tgt := 247) C d_law_33 q3 (by decide) (by decide) rfl rfl (lw_c3 C H hi hcs hss next ok hc hm)
  by_cases q4 : x = 4
  · exact wk_tableEq (tgt := 260) C d_law_33 q4 (by decide) (by decide) rfl rfl (lw_c4 C H hi hcs hss next ok hc hm)
  by_cases q5 : x = 5
  · exact wk_tableEq (tgt := 293) C d_law_33 q5 (by decide) (by decide) rfl rfl (lw_c5 C H hi hcs hss next ok hc hm)
  by_cases q6 : x = 6
  · exact wk_tableEq (tgt := 316) C d_law_33 q6 (by decide) (by decide) rfl rfl (lw_c6 C H hi hcs hss next ok hc hm)
  by_cases q7 : x = 7
  · exact wk_tableEq (tgt := 349) C d_law_33 q7 (by decide) (by decide) rfl rfl (lw_c7 C H hi hcs hss next ok hc hm)
  by_cases q8 : x = 8
  · exact wk_tableEq (tgt := 382) C d_law_33 q8 (by decide) (by decide) rfl rfl (lw_c8 C H hi hcs hss next ok hc hm)
  by_cases q9 : x = 9
  · exact wk_tableEq (tgt := 415) C d_law_33 q9 (by decide) (by decide) rfl rfl (lw_c9 C H hi hcs hss next ok hc hm)
  by_cases q10 : x = 10
  · exact wk_tableEq (tgt := 428) C d_law_33 q10 (by decide) (by decide) rfl rfl (lw_c10 C H hi hcs hss next ok hc hm)
  by_cases q11 : x = 11
  · exact wk_tableEq (tgt := 451) C d_law_33 q11 (by decide) (by decide) rfl rfl (lw_c11 C H hi hcs hss next ok hc hm)
  by_cases q12 : x = 12
  · exact wk_tableEq (tgt := 462) C d_law_33 q12 (by decide) (by decide) rfl rfl (lw_c12 C H hi hcs hss next ok hc hm)
  by_cases q13 : x = 13
  · exact wk_tableEq (tgt := 485) C d_law_33 q13 (by decide) (by decide) rfl rfl (lw_c13 C H hi hcs hss next ok hc hm)
  by_cases q14 : x = 14
  · exact wk_tableEq (tgt := 498) C d_law_33 q14 (by decide) (by decide) rfl rfl (lw_c14 C H hi hcs hss next ok hc hm)
  by_cases q15 : x = 15
  · exact wk_tableEq (tgt := 511) C d_law_33 q15 (by decide) (by decide) rfl rfl (lw_c15 C H hi hcs hss next ok hc hm)
  by_cases q16 : x = 16
  · exact wk_tableEq (tgt := 534) C d_law_33 q16 (by decide) (by decide) rfl rfl (lw_c16 C H hi hcs hss next ok hc hm)
  by_cases q17 : x = 17
  · exact wk_tableEq (tgt := 547) C d_law_33 q17 (by decide) (by decide) rfl rfl (lw_c17 C H hi hcs hss next ok hc hm)
  have n0 : ¬ x.toInt = 0 := wk_nt q0 (by decide)
  have n1 : ¬ x.toInt = 1 := wk_nt q1 (by decide)
  have n2 : ¬ x.toInt = 2 := wk_nt q2 (by decide)
  have n3 : ¬ x.toInt = 3 := wk_nt q3 (by decide)
  have n4 : ¬ x.toInt = 4 := wk_nt q4 (by decide)
  have n5 : ¬ x.toInt = 5 := wk_nt q5 (by decide)
  have n6 : ¬ x.toInt = 6 := wk_nt q6 (by decide)
  have n7 : ¬ x.toInt = 7 := wk_nt q7 (by decide)
  have n8 : ¬ x.toInt = 8 := wk_nt q8 (by decide)
  have n9 : ¬ x.toInt = 9 := wk_nt q9 (by decide)
  have n10 : ¬ x.toInt = 10 := wk_nt q10 (by decide)
  have n11 : ¬ x.toInt = 11 := wk_nt q11 (by decide)
  have n12 : ¬ x.toInt = 12 := wk_nt q12 (by decide)
  have n13 : ¬ x.toInt = 13 := wk_nt q13 (by decide)
  have n14 : ¬ x.toInt = 14 := wk_nt q14 (by decide)
  have n15 : ¬ x.toInt = 15 := wk_nt q15 (by decide)
  have n16 : ¬ x.toInt = 16 := wk_nt q16 (by decide)
  have n17 : ¬ x.toInt = 17 := wk_nt q17 (by decide)
  exact wm_tableOut (tgt := 570) C d_law_33 (by omega) rfl (next A g ok hc hm)
theorem lw_loop (C : wm_C G X code 4 (lw_w :: wsAll) "FactFlowLaw" 10 721390 6938078) (H : lw_H G X b L xs) (hcs : cells ≤ 721390) (hss : slots ≤ 6938078) (E : ∀ (g : wm_Sg) (L' : List (Nat × Value)), wm_W G X 4 cells slots wm_n (wm_S G) g 577 L' [.int 1]) : ∀ k i, L < i + 6 * k → i ≤ 3100 → ∀ (A : ab_T) (g : wm_Sg), ab_ok A → cl_R A g → md_R A g → wm_W G X 4 cells slots wm_n (wm_S G) g 18 (lw_L G b i) [] := by
  have hL : L ≤ 3072 := H.2.2.2
  intro k
  induction k with
  | zero =>
    intro i hk hi A g ok hc hm
    refine wm_iload_n C d_law_18 rfl ?_
    refine wm_aload_n C d_law_19 rfl ?_
    refine lw_sln C H d_law_20 ?_
    refine wm_bipush (v := (6 : Int32)) C d_law_21 (by decide) ?_
    refine wm_isub C d_law_23 ?_
    refine wm_icmp_gt (tgt := 576) C d_law_24 rfl (fun _ => ?_) (fun q => absurd ((lw_cmp hL (by omega)).mpr (by omega)) q)
    refine wm_iconst (v := (1 : Int32)) C d_law_576 (by decide) ?_
    exact E g _
  | succ k ih =>
    intro i hk hi A g ok hc hm
    refine wm_iload_n C d_law_18 rfl ?_
    refine wm_aload_n C d_law_19 rfl ?_
    refine lw_sln C H d_law_20 ?_
    refine wm_bipush (v := (6 : Int32)) C d_law_21 (by decide) ?_
    refine wm_isub C d_law_23 ?_
    refine wm_icmp_gt (tgt := 576) C d_law_24 rfl (fun _ => ?_) (fun q => ?_)
    · refine wm_iconst (v := (1 : Int32)) C d_law_576 (by decide) ?_
      exact E g _
    · have h6 : i + 6 ≤ L := Nat.le_of_not_lt (fun z => q ((lw_cmp hL (by omega)).mpr z))
      refine wm_aload_n C d_law_27 rfl ?_
      refine wm_iload_n C d_law_28 rfl ?_
      refine lw_sld C H (j := i) (by omega) rfl d_law_29 ?_
      refine wm_bipush (v := (31 : Int32)) C d_law_30 (by decide) ?_
      refine wm_iand C d_law_32 ?_
      refine lw_sw C H h6 hcs hss (fun A' g' ok' hc' hm' => ?_) ok hc hm _
      refine wm_iinc (v := nI (i + 6)) C d_law_570 rfl (nI_add i 6) (by decide) ?_
      refine wm_goto (tgt := 18) C d_law_573 rfl ?_
      refine wk_cut (L' := lw_L G b (i + 6)) ?_ ⟨rfl, rfl, rfl, rfl, trivial⟩
      exact ih (i + 6) (by omega) (by omega) A' g' ok' hc' hm'
end LP
theorem lw_tb {s : State} {b : Nat} {n : String} (i : Nat) (hlay : (Cond.laysStatic wm_TC n "[I").before #[Value.ref b] s = true) (hini : (Cond.initialized wm_TC).before #[Value.ref b] s = true) (harr : (Cond.arrayOf (.static wm_TC n "[I") .int).before #[Value.ref b] s = true) (hlen : (Cond.eq (.length (.static wm_TC n "[I")) (.int 9)).before #[Value.ref b] s = true) (hel : ∀ j : Nat, j < 9 → (Cond.eq (.elem (.static wm_TC n "[I") (.int (Int32.ofNat j))) (.int (fc_tab i j))).before #[Value.ref b] s = true) : ∃ t : Nat, va_Z wm_TC n "[I" (.ref t) (fun q => s.heap.size ≤ q) s s.heap ∧ va_T .int t 9 (fun j => .int (fc_tab i j)) (fun q => s.heap.size ≤ q) s s.heap := by
  obtain ⟨t, h1, h2⟩ := va_Tof (tm := .static wm_TC n "[I") (ty := .int) (N := 9) (f := fun j => .int (fc_tab i j)) (A := fun q => s.heap.size ≤ q) (by decide) harr (va_eqt hlen) (fun j hj => va_eqt (hel j hj)) (fun a ha q => by have q : s.heap.size ≤ a := q; omega)
  exact ⟨t, va_Zof hlay hini h1 (fun a ha q => by have q : s.heap.size ≤ a := q; omega), h2⟩
theorem lw_t0 {s : State} {b : Nat} (hts : ∀ w ∈ lw_tbl, w.before #[Value.ref b] s = true) (hgv : (Jvm.Cond.and given_1 narrow_1).before #[Value.ref b] s = true) : ∃ t : Nat, va_Z wm_TC "SUM_SIGNS" "[I" (.ref t) (fun q => s.heap.size ≤ q) s s.heap ∧ va_T .int t 9 (fun j => .int (fc_tab 0 j)) (fun q => s.heap.size ≤ q) s s.heap := by
  have hs := flat_of_before _ hgv
  exact lw_tb 0 (hts _ (List.mem_append_right _ (List.mem_append_right _ (List.mem_append_left _ (List.mem_of_getElem? (i := 107) rfl))))) (hts _ (List.mem_append_right _ (List.mem_append_left _ (List.mem_of_getElem? (i := 3) rfl)))) (hs _ (by decide +kernel)) (hs _ (by decide +kernel)) (fun j hj => hs _ ((by decide +kernel : ∀ j, j < 9 → Cond.eq (.elem (.static wm_TC "SUM_SIGNS" "[I") (.int (Int32.ofNat j))) (.int (fc_tab 0 j)) ∈ flatC (Jvm.Cond.and given_1 narrow_1)) j hj))
theorem lw_t1 {s : State} {b : Nat} (hts : ∀ w ∈ lw_tbl, w.before #[Value.ref b] s = true) (hgv : (Jvm.Cond.and given_1 narrow_1).before #[Value.ref b] s = true) : ∃ t : Nat, va_Z wm_TC "DIFFERENCE_SIGNS" "[I" (.ref t) (fun q => s.heap.size ≤ q) s s.heap ∧ va_T .int t 9 (fun j => .int (fc_tab 1 j)) (fun q => s.heap.size ≤ q) s s.heap := by
  have hs := flat_of_before _ hgv
  exact lw_tb 1 (hts _ (List.mem_append_right _ (List.mem_append_right _ (List.mem_append_left _ (List.mem_of_getElem? (i := 109) rfl))))) (hts _ (List.mem_append_right _ (List.mem_append_left _ (List.mem_of_getElem? (i := 3) rfl)))) (hs _ (by decide +kernel)) (hs _ (by decide +kernel)) (fun j hj => hs _ ((by decide +kernel : ∀ j, j < 9 → Cond.eq (.elem (.static wm_TC "DIFFERENCE_SIGNS" "[I") (.int (Int32.ofNat j))) (.int (fc_tab 1 j)) ∈ flatC (Jvm.Cond.and given_1 narrow_1)) j hj))
theorem lw_t2 {s : State} {b : Nat} (hts : ∀ w ∈ lw_tbl, w.before #[Value.ref b] s = true) (hgv : (Jvm.Cond.and given_1 narrow_1).before #[Value.ref b] s = true) : ∃ t : Nat, va_Z wm_TC "PRODUCT_SIGNS" "[I" (.ref t) (fun q => s.heap.size ≤ q) s s.heap ∧ va_T .int t 9 (fun j => .int (fc_tab 2 j)) (fun q => s.heap.size ≤ q) s s.heap := by
  have hs := flat_of_before _ hgv
  exact lw_tb 2 (hts _ (List.mem_append_right _ (List.mem_append_right _ (List.mem_append_left _ (List.mem_of_getElem? (i := 111) rfl))))) (hts _ (List.mem_append_right _ (List.mem_append_left _ (List.mem_of_getElem? (i := 3) rfl)))) (hs _ (by decide +kernel)) (hs _ (by decide +kernel)) (fun j hj => hs _ ((by decide +kernel : ∀ j, j < 9 → Cond.eq (.elem (.static wm_TC "PRODUCT_SIGNS" "[I") (.int (Int32.ofNat j))) (.int (fc_tab 2 j)) ∈ flatC (Jvm.Cond.and given_1 narrow_1)) j hj))
theorem lw_t3 {s : State} {b : Nat} (hts : ∀ w ∈ lw_tbl, w.before #[Value.ref b] s = true) (hgv : (Jvm.Cond.and given_1 narrow_1).before #[Value.ref b] s = true) : ∃ t : Nat, va_Z wm_TC "QUOTIENT_SIGNS" "[I" (.ref t) (fun q => s.heap.size ≤ q) s s.heap ∧ va_T .int t 9 (fun j => .int (fc_tab 3 j)) (fun q => s.heap.size ≤ q) s s.heap := by
  have hs := flat_of_before _ hgv
  exact lw_tb 3 (hts _ (List.mem_append_right _ (List.mem_append_right _ (List.mem_append_left _ (List.mem_of_getElem? (i := 113) rfl))))) (hts _ (List.mem_append_right _ (List.mem_append_left _ (List.mem_of_getElem? (i := 3) rfl)))) (hs _ (by decide +kernel)) (hs _ (by decide +kernel)) (fun j hj => hs _ ((by decide +kernel : ∀ j, j < 9 → Cond.eq (.elem (.static wm_TC "QUOTIENT_SIGNS" "[I") (.int (Int32.ofNat j))) (.int (fc_tab 3 j)) ∈ flatC (Jvm.Cond.and given_1 narrow_1)) j hj))
theorem lw_K {s : State} {b : Nat} (hts : ∀ w ∈ lw_tbl, w.before #[Value.ref b] s = true) : ∃ (D : va_G) (cA : Nat → ClassId), ∀ (B : Nat) (T : Nat → Nat), va_K D vwCl (wm_G.t (D, cA, B, T)) s := by
  have hw : ∀ w ∈ wsAll, w.before #[Value.ref b] s = true := fun w h => hts w (List.mem_filter.mp h).1
  obtain ⟨c0, s0, k0⟩ := u_known (T := Tn_0) (N := 4) hw iw_0 (hw _ mw_0_13)
  obtain ⟨c1, s1, k1⟩ := u_known (T := Tn_1) (N := 3) hw iw_1 (hw _ mw_0_21)
  obtain ⟨c2, s2, k2⟩ := u_known (T := Tn_2) (N := 4) hw iw_2 (hw _ mw_0_51)
  obtain ⟨c3, s3, k3⟩ := u_known (T := Tn_3) (N := 3) hw iw_3 (hw _ mw_0_29)
  obtain ⟨c4, s4, k4⟩ := u_known (T := Tn_4) (N := 2) hw iw_4 (hw _ mw_0_107)
  obtain ⟨c5, s5, k5⟩ := u_known (T := Tn_5) (N := 4) hw iw_5 (hw _ mw_0_100)
  obtain ⟨c6, s6, k6⟩ := u_known (T := Tn_6) (N := 2) hw iw_6 (hw _ mw_0_144)
  obtain ⟨c7, s7, k7⟩ := u_known (T := Tn_7) (N := 6) hw iw_7 (hw _ mw_0_159)
  obtain ⟨c8, s8, k8⟩ := u_known (T := Tn_8) (N := 25) hw iw_8 (hw _ mw_1_223)
  obtain ⟨a0, ka0, m0, f0, g0, h0⟩ := Cond.arrayClass_spec (hw _ mw_0_157)
  obtain ⟨a1, ka1, m1, f1, g1, h1⟩ := Cond.arrayClass_spec (hw _ mw_0_127)
  obtain ⟨m2, a2, ka2, e2, -, g2, h2, f2⟩ := Cond.arrayOver_spec (n := "FactFlow$Instruction") (hts _ (List.mem_append_right _ (List.mem_append_left _ (List.mem_of_getElem? (i := 27) rfl))))
  obtain ⟨m3, a3, ka3, e3, -, g3, h3, f3⟩ := Cond.arrayOver_spec (n := "FactFlow$Fact") (hts _ (List.mem_append_right _ (List.mem_append_left _ (List.mem_of_getElem? (i := 113) rfl))))
  obtain ⟨m4, a4, ka4, e4, -, g4, h4, f4⟩ := Cond.arrayOver_spec (n := "FactFlow$State") (hts _ (List.mem_append_right _ (List.mem_append_left _ (List.mem_of_getElem? (i := 106) rfl))))
  refine ⟨(fun c => match c with | 0 => c0 | 1 => c1 | 2 => c2 | 3 => c3 | 4 => c4 | 5 => c5 | 6 => c6 | 7 => c7 | _ => c8, fun c => match c with | 0 => s0 | 1 => s1 | 2 => s2 | 3 => s3 | 4 => s4 | 5 => s5 | 6 => s6 | 7 => s7 | _ => s8), fun t => match t with | 0 => a0 | 1 => a1 | 2 => a2 | 3 => a3 | _ => a4, fun B T => ⟨fun c q hq => ?_, fun k q hq => ?_⟩⟩
  · match c, hq with
    | 0, hq => cases hq; exact k0
    | 1, hq => cases hq; exact k1
    | 2, hq => cases hq; exact k2
    | 3, hq => cases hq; exact k3
    | 4, hq => cases hq; exact k4
    | 5, hq => cases hq; exact k5
    | 6, hq => cases hq; exact k6
    | 7, hq => cases hq; exact k7
    | 8, hq => cases hq; exact k8
    | c + 9, hq => cases hq
  · match k, hq with
    | 0, hq => cases hq; exact ⟨fun n z => ⟨fun k h => (by cases h), ka0, g0, m0, h0⟩, f0⟩
    | 1, hq => cases hq; exact ⟨fun n z => ⟨fun k h => (by cases h), ka1, g1, m1, h1⟩, f1⟩
    | 2, hq => cases hq; exact ⟨fun n z => ⟨fun k h => (by cases h), ka2, g2, m2, h2⟩, ka2, m2, g2, h2, e2, f2⟩
    | 3, hq => cases hq; exact ⟨fun n z => ⟨fun k h => (by cases h), ka3, g3, m3, h3⟩, ka3, m3, g3, h3, e3, f3⟩
    | 4, hq => cases hq; exact ⟨fun n z => ⟨fun k h => (by cases h), ka4, g4, m4, h4⟩, ka4, m4, g4, h4, e4, f4⟩
    | k + 5, hq => cases hq
