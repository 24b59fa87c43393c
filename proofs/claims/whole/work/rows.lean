section
-- ===== PART A: goes FIRST, ahead of the names: the tables' words, and 'selects' of the private methods out of them =====
/-- a private method of a class that the tables say can be made, by its rows of tables_1 -/
def lw_okq (q : MethodName × Nat) : Prop := (q.1.cls ≠ "java/lang/invoke/MethodHandle" ∧ q.1.cls ≠ "java/lang/invoke/VarHandle") ∧ Cond.instantiable q.1.cls q.2 ∈ tables_1 ∧ Cond.privateMethod q.1 ∈ tables_1 ∧ Cond.instanceMethod q.1 ∈ tables_1
theorem lw_p0 : lw_okq (⟨"FactFlow$Solution", "begin", "()V"⟩, 4) := ⟨⟨by decide +kernel, by decide +kernel⟩, List.mem_of_getElem? (i := 100) (by decide +kernel), List.mem_of_getElem? (i := 263) (by decide +kernel), List.mem_of_getElem? (i := 264) (by decide +kernel)⟩
theorem lw_p1 : lw_okq (⟨"FactFlow$Fact", "reduce", "()V"⟩, 3) := ⟨⟨by decide +kernel, by decide +kernel⟩, List.mem_of_getElem? (i := 29) (by decide +kernel), List.mem_of_getElem? (i := 275) (by decide +kernel), List.mem_of_getElem? (i := 276) (by decide +kernel)⟩
theorem lw_p2 : lw_okq (⟨"FactFlow$Solution", "carry", "(LFactFlow$Program;I)V"⟩, 4) := ⟨⟨by decide +kernel, by decide +kernel⟩, List.mem_of_getElem? (i := 100) (by decide +kernel), List.mem_of_getElem? (i := 279) (by decide +kernel), List.mem_of_getElem? (i := 280) (by decide +kernel)⟩
theorem lw_p3 : lw_okq (⟨"FactFlow$Solution", "arrive", "(LFactFlow$Program;I)V"⟩, 4) := ⟨⟨by decide +kernel, by decide +kernel⟩, List.mem_of_getElem? (i := 100) (by decide +kernel), List.mem_of_getElem? (i := 291) (by decide +kernel), List.mem_of_getElem? (i := 292) (by decide +kernel)⟩
theorem lw_p4 : lw_okq (⟨"FactFlow", "comesTo", "(I)Z"⟩, 4) := ⟨⟨by decide +kernel, by decide +kernel⟩, List.mem_of_getElem? (i := 13) (by decide +kernel), List.mem_of_getElem? (i := 363) (by decide +kernel), List.mem_of_getElem? (i := 364) (by decide +kernel)⟩
theorem lw_p5 : lw_okq (⟨"FactFlow$Machine", "begin", "()V"⟩, 6) := ⟨⟨by decide +kernel, by decide +kernel⟩, List.mem_of_getElem? (i := 159) (by decide +kernel), List.mem_of_getElem? (i := 421) (by decide +kernel), List.mem_of_getElem? (i := 422) (by decide +kernel)⟩
theorem lw_p6 : lw_okq (⟨"FactFlow$Machine", "change", "(LFactFlow$Instruction;LFactFlow$Inputs;)V"⟩, 6) := ⟨⟨by decide +kernel, by decide +kernel⟩, List.mem_of_getElem? (i := 159) (by decide +kernel), List.mem_of_getElem? (i := 426) (by decide +kernel), List.mem_of_getElem? (i := 427) (by decide +kernel)⟩
theorem lw_p7 : lw_okq (⟨"FactFlow$Machine", "print", "(I)V"⟩, 6) := ⟨⟨by decide +kernel, by decide +kernel⟩, List.mem_of_getElem? (i := 159) (by decide +kernel), List.mem_of_getElem? (i := 435) (by decide +kernel), List.mem_of_getElem? (i := 436) (by decide +kernel)⟩
theorem lw_p8 : lw_okq (⟨"FactFlow$Machine", "placeBehind", "(LFactFlow$Instruction;I)I"⟩, 6) := ⟨⟨by decide +kernel, by decide +kernel⟩, List.mem_of_getElem? (i := 159) (by decide +kernel), List.mem_of_getElem? (i := 439) (by decide +kernel), List.mem_of_getElem? (i := 440) (by decide +kernel)⟩
theorem lw_p9 : lw_okq (⟨"FactFlowModel", "place", "(IIIII)Z"⟩, 25) := ⟨⟨by decide +kernel, by decide +kernel⟩, List.mem_of_getElem? (i := 463) (by decide +kernel), List.mem_of_getElem? (i := 564) (by decide +kernel), List.mem_of_getElem? (i := 565) (by decide +kernel)⟩
theorem lw_p10 : lw_okq (⟨"FactFlowModel", "none", "(I)Z"⟩, 25) := ⟨⟨by decide +kernel, by decide +kernel⟩, List.mem_of_getElem? (i := 463) (by decide +kernel), List.mem_of_getElem? (i := 575) (by decide +kernel), List.mem_of_getElem? (i := 576) (by decide +kernel)⟩
theorem lw_p11 : lw_okq (⟨"FactFlowModel", "solve", "()V"⟩, 25) := ⟨⟨by decide +kernel, by decide +kernel⟩, List.mem_of_getElem? (i := 463) (by decide +kernel), List.mem_of_getElem? (i := 595) (by decide +kernel), List.mem_of_getElem? (i := 596) (by decide +kernel)⟩
theorem lw_p12 : lw_okq (⟨"FactFlowModel", "result", "(III)V"⟩, 25) := ⟨⟨by decide +kernel, by decide +kernel⟩, List.mem_of_getElem? (i := 463) (by decide +kernel), List.mem_of_getElem? (i := 599) (by decide +kernel), List.mem_of_getElem? (i := 600) (by decide +kernel)⟩
theorem lw_p13 : lw_okq (⟨"FactFlowModel", "take", "(I)V"⟩, 25) := ⟨⟨by decide +kernel, by decide +kernel⟩, List.mem_of_getElem? (i := 463) (by decide +kernel), List.mem_of_getElem? (i := 603) (by decide +kernel), List.mem_of_getElem? (i := 604) (by decide +kernel)⟩
theorem lw_p14 : lw_okq (⟨"FactFlowModel", "join", "(I)V"⟩, 25) := ⟨⟨by decide +kernel, by decide +kernel⟩, List.mem_of_getElem? (i := 463) (by decide +kernel), List.mem_of_getElem? (i := 607) (by decide +kernel), List.mem_of_getElem? (i := 608) (by decide +kernel)⟩
theorem lw_p15 : lw_okq (⟨"FactFlowModel", "joinFact", "(II)V"⟩, 25) := ⟨⟨by decide +kernel, by decide +kernel⟩, List.mem_of_getElem? (i := 463) (by decide +kernel), List.mem_of_getElem? (i := 611) (by decide +kernel), List.mem_of_getElem? (i := 612) (by decide +kernel)⟩
def lw_privs_1 : List (MethodName × Nat) := [(⟨"FactFlow$Solution", "begin", "()V"⟩, 4), (⟨"FactFlow$Fact", "reduce", "()V"⟩, 3), (⟨"FactFlow$Solution", "carry", "(LFactFlow$Program;I)V"⟩, 4), (⟨"FactFlow$Solution", "arrive", "(LFactFlow$Program;I)V"⟩, 4), (⟨"FactFlow", "comesTo", "(I)Z"⟩, 4), (⟨"FactFlow$Machine", "begin", "()V"⟩, 6), (⟨"FactFlow$Machine", "change", "(LFactFlow$Instruction;LFactFlow$Inputs;)V"⟩, 6), (⟨"FactFlow$Machine", "print", "(I)V"⟩, 6), (⟨"FactFlow$Machine", "placeBehind", "(LFactFlow$Instruction;I)I"⟩, 6), (⟨"FactFlowModel", "place", "(IIIII)Z"⟩, 25), (⟨"FactFlowModel", "none", "(I)Z"⟩, 25), (⟨"FactFlowModel", "solve", "()V"⟩, 25), (⟨"FactFlowModel", "result", "(III)V"⟩, 25), (⟨"FactFlowModel", "take", "(I)V"⟩, 25), (⟨"FactFlowModel", "join", "(I)V"⟩, 25), (⟨"FactFlowModel", "joinFact", "(II)V"⟩, 25)]
theorem lw_r1 : ∀ q ∈ lw_privs_1, lw_okq q := List.forall_mem_cons.mpr ⟨lw_p0, List.forall_mem_cons.mpr ⟨lw_p1, List.forall_mem_cons.mpr ⟨lw_p2, List.forall_mem_cons.mpr ⟨lw_p3, List.forall_mem_cons.mpr ⟨lw_p4, List.forall_mem_cons.mpr ⟨lw_p5, List.forall_mem_cons.mpr ⟨lw_p6, List.forall_mem_cons.mpr ⟨lw_p7, List.forall_mem_cons.mpr ⟨lw_p8, List.forall_mem_cons.mpr ⟨lw_p9, List.forall_mem_cons.mpr ⟨lw_p10, List.forall_mem_cons.mpr ⟨lw_p11, List.forall_mem_cons.mpr ⟨lw_p12, List.forall_mem_cons.mpr ⟨lw_p13, List.forall_mem_cons.mpr ⟨lw_p14, List.forall_mem_cons.mpr ⟨lw_p15, fun _ h => absurd h List.not_mem_nil⟩⟩⟩⟩⟩⟩⟩⟩⟩⟩⟩⟩⟩⟩⟩⟩
theorem lw_p16 : lw_okq (⟨"FactFlowModel", "pass", "(I)V"⟩, 25) := ⟨⟨by decide +kernel, by decide +kernel⟩, List.mem_of_getElem? (i := 463) (by decide +kernel), List.mem_of_getElem? (i := 624) (by decide +kernel), List.mem_of_getElem? (i := 625) (by decide +kernel)⟩
theorem lw_p17 : lw_okq (⟨"FactFlowModel", "load", "(I)V"⟩, 25) := ⟨⟨by decide +kernel, by decide +kernel⟩, List.mem_of_getElem? (i := 463) (by decide +kernel), List.mem_of_getElem? (i := 628) (by decide +kernel), List.mem_of_getElem? (i := 629) (by decide +kernel)⟩
theorem lw_p18 : lw_okq (⟨"FactFlowModel", "only", "(II)Z"⟩, 25) := ⟨⟨by decide +kernel, by decide +kernel⟩, List.mem_of_getElem? (i := 463) (by decide +kernel), List.mem_of_getElem? (i := 632) (by decide +kernel), List.mem_of_getElem? (i := 633) (by decide +kernel)⟩
theorem lw_p19 : lw_okq (⟨"FactFlowModel", "reduced", "()Z"⟩, 25) := ⟨⟨by decide +kernel, by decide +kernel⟩, List.mem_of_getElem? (i := 463) (by decide +kernel), List.mem_of_getElem? (i := 636) (by decide +kernel), List.mem_of_getElem? (i := 637) (by decide +kernel)⟩
theorem lw_p20 : lw_okq (⟨"FactFlowModel", "worked", "(I)Z"⟩, 25) := ⟨⟨by decide +kernel, by decide +kernel⟩, List.mem_of_getElem? (i := 463) (by decide +kernel), List.mem_of_getElem? (i := 643) (by decide +kernel), List.mem_of_getElem? (i := 644) (by decide +kernel)⟩
theorem lw_p21 : lw_okq (⟨"FactFlowModel", "reckon", "(III)Z"⟩, 25) := ⟨⟨by decide +kernel, by decide +kernel⟩, List.mem_of_getElem? (i := 463) (by decide +kernel), List.mem_of_getElem? (i := 647) (by decide +kernel), List.mem_of_getElem? (i := 648) (by decide +kernel)⟩
theorem lw_p22 : lw_okq (⟨"FactFlowModel", "signsBy", "(III)I"⟩, 25) := ⟨⟨by decide +kernel, by decide +kernel⟩, List.mem_of_getElem? (i := 463) (by decide +kernel), List.mem_of_getElem? (i := 651) (by decide +kernel), List.mem_of_getElem? (i := 652) (by decide +kernel)⟩
theorem lw_p23 : lw_okq (⟨"FactFlowModel", "untold", "(II)Z"⟩, 25) := ⟨⟨by decide +kernel, by decide +kernel⟩, List.mem_of_getElem? (i := 463) (by decide +kernel), List.mem_of_getElem? (i := 674) (by decide +kernel), List.mem_of_getElem? (i := 675) (by decide +kernel)⟩
theorem lw_p24 : lw_okq (⟨"FactFlowModel", "written", "(I)Z"⟩, 25) := ⟨⟨by decide +kernel, by decide +kernel⟩, List.mem_of_getElem? (i := 463) (by decide +kernel), List.mem_of_getElem? (i := 690) (by decide +kernel), List.mem_of_getElem? (i := 691) (by decide +kernel)⟩
theorem lw_p25 : lw_okq (⟨"FactFlowModel", "step", "()I"⟩, 25) := ⟨⟨by decide +kernel, by decide +kernel⟩, List.mem_of_getElem? (i := 463) (by decide +kernel), List.mem_of_getElem? (i := 706) (by decide +kernel), List.mem_of_getElem? (i := 707) (by decide +kernel)⟩
theorem lw_p26 : lw_okq (⟨"FactFlowModel", "worth", "(III)I"⟩, 25) := ⟨⟨by decide +kernel, by decide +kernel⟩, List.mem_of_getElem? (i := 463) (by decide +kernel), List.mem_of_getElem? (i := 710) (by decide +kernel), List.mem_of_getElem? (i := 711) (by decide +kernel)⟩
theorem lw_p27 : lw_okq (⟨"FactFlowModel", "read", "(I)V"⟩, 25) := ⟨⟨by decide +kernel, by decide +kernel⟩, List.mem_of_getElem? (i := 463) (by decide +kernel), List.mem_of_getElem? (i := 714) (by decide +kernel), List.mem_of_getElem? (i := 715) (by decide +kernel)⟩
theorem lw_p28 : lw_okq (⟨"FactFlowModel", "print", "(I)V"⟩, 25) := ⟨⟨by decide +kernel, by decide +kernel⟩, List.mem_of_getElem? (i := 463) (by decide +kernel), List.mem_of_getElem? (i := 718) (by decide +kernel), List.mem_of_getElem? (i := 719) (by decide +kernel)⟩
def lw_privs_2 : List (MethodName × Nat) := [(⟨"FactFlowModel", "pass", "(I)V"⟩, 25), (⟨"FactFlowModel", "load", "(I)V"⟩, 25), (⟨"FactFlowModel", "only", "(II)Z"⟩, 25), (⟨"FactFlowModel", "reduced", "()Z"⟩, 25), (⟨"FactFlowModel", "worked", "(I)Z"⟩, 25), (⟨"FactFlowModel", "reckon", "(III)Z"⟩, 25), (⟨"FactFlowModel", "signsBy", "(III)I"⟩, 25), (⟨"FactFlowModel", "untold", "(II)Z"⟩, 25), (⟨"FactFlowModel", "written", "(I)Z"⟩, 25), (⟨"FactFlowModel", "step", "()I"⟩, 25), (⟨"FactFlowModel", "worth", "(III)I"⟩, 25), (⟨"FactFlowModel", "read", "(I)V"⟩, 25), (⟨"FactFlowModel", "print", "(I)V"⟩, 25)]
theorem lw_r2 : ∀ q ∈ lw_privs_2, lw_okq q := List.forall_mem_cons.mpr ⟨lw_p16, List.forall_mem_cons.mpr ⟨lw_p17, List.forall_mem_cons.mpr ⟨lw_p18, List.forall_mem_cons.mpr ⟨lw_p19, List.forall_mem_cons.mpr ⟨lw_p20, List.forall_mem_cons.mpr ⟨lw_p21, List.forall_mem_cons.mpr ⟨lw_p22, List.forall_mem_cons.mpr ⟨lw_p23, List.forall_mem_cons.mpr ⟨lw_p24, List.forall_mem_cons.mpr ⟨lw_p25, List.forall_mem_cons.mpr ⟨lw_p26, List.forall_mem_cons.mpr ⟨lw_p27, List.forall_mem_cons.mpr ⟨lw_p28, fun _ h => absurd h List.not_mem_nil⟩⟩⟩⟩⟩⟩⟩⟩⟩⟩⟩⟩⟩
def lw_privs : List (MethodName × Nat) := lw_privs_1 ++ (lw_privs_2)
def lw_tbl : List Cond := k2_sels lw_privs ++ tables_1
theorem lw_privs_ok : ∀ q ∈ lw_privs, lw_okq q := by
  show ∀ q ∈ lw_privs_1 ++ (lw_privs_2), lw_okq q
  exact List.forall_mem_append.mpr ⟨lw_r1, lw_r2⟩
end
section
/-! Facts, in the numbers that the class and the reference hold: (bits, rest, signs). The first rows (bt, b_ ..) began as rows of kit/laws/BITS.to-paste. -/
def bt (x : Int32) (i : Nat) : Bool := x.toBitVec.getLsbD i
theorem b_ext {x y : Int32} (h : ∀ i, i < 32 → bt x i = bt y i) : x = y := Int32.toBitVec_inj.mp (BitVec.eq_of_getLsbD_eq (fun i hi => h i hi))
theorem b_or (x y : Int32) (i : Nat) : bt (x ||| y) i = (bt x i || bt y i) := by unfold bt; rw [Int32.toBitVec_or, BitVec.getLsbD_or]
theorem b_and (x y : Int32) (i : Nat) : bt (x &&& y) i = (bt x i && bt y i) := by unfold bt; rw [Int32.toBitVec_and, BitVec.getLsbD_and]
theorem b_xor (x y : Int32) (i : Nat) : bt (x ^^^ y) i = (bt x i ^^ bt y i) := by unfold bt; rw [Int32.toBitVec_xor, BitVec.getLsbD_xor]
theorem b_big {x : Int32} {i : Nat} (h : 32 ≤ i) : bt x i = false := BitVec.getLsbD_of_ge _ _ h
theorem b_0 (i : Nat) : bt 0 i = false := BitVec.getLsbD_zero
theorem s_l : ∀ n, n < 32 → ((nI n &&& 31).toBitVec.smod 32).toNat = n := by decide +kernel
theorem b_sshr (n : Nat) (hn : n < 32) (x : Int32) {i : Nat} (hi : i < 32) : bt (x >>> (nI n &&& 31)) i = if n + i < 32 then bt x (n + i) else bt x 31 := by
  unfold bt
  rw [Int32.toBitVec_shiftRight]
  show (x.toBitVec.sshiftRight ((nI n &&& 31).toBitVec.smod 32).toNat).getLsbD i = _
  rw [s_l n hn, BitVec.getLsbD_sshiftRight, BitVec.msb_eq_getLsbD_last]
  simp [hi]
theorem b_n (m i : Nat) : bt (nI m) i = (decide (i < 32) && m.testBit i) := by
  show (BitVec.ofNat 32 m).getLsbD i = _
  rw [BitVec.getLsbD_ofNat]
theorem b_zero {x : Int32} (h : ∀ i, i < 32 → bt x i = false) : x = 0 := b_ext (fun i hi => by rw [h i hi, b_0])
/-! numbers -/
def fc_min (x y : Int32) : Int32 := if y < x then y else x
def fc_cut (x k : Int32) : Int32 := if k = 32 then x else x &&& (1 <<< (k &&& 31) - 1)
def fc_sg (x : Int32) : Int32 := if x < 0 then 1 else if x = 0 then 2 else 4
def tz_go (x : Int32) : Nat → Nat → Nat
  | _, 0 => 32
  | n, f + 1 => if bt x n then n else tz_go x (n + 1) f
def tz_n (x : Int32) : Nat := tz_go x 0 32
def fc_tz (x : Int32) : Int32 := nI (tz_n x)
theorem tz_go_spec (x : Int32) : ∀ (f n : Nat), n + f = 32 → (∀ i, i < n → bt x i = false) → n ≤ tz_go x n f ∧ tz_go x n f ≤ 32 ∧ (∀ i, i < tz_go x n f → bt x i = false) ∧ (tz_go x n f < 32 → bt x (tz_go x n f) = true)
  | 0, n, hn, h => by
    have e : n = 32 := by omega
    subst e
    exact ⟨Nat.le_refl _, Nat.le_refl _, h, fun q => absurd q (Nat.lt_irrefl _)⟩
  | f + 1, n, hn, h => by
    unfold tz_go
    by_cases hb : bt x n = true
    · rw [if_pos hb]
      exact ⟨Nat.le_refl _, by omega, h, fun _ => hb⟩
    · rw [if_neg hb]
      have hb' : bt x n = false := by cases hq : bt x n <;> simp_all
      obtain ⟨h1, h2, h3, h4⟩ := tz_go_spec x f (n + 1) (by omega) (fun i hi => by
        rcases Nat.lt_or_ge i n with q | q
        · exact h i q
        · have : i = n := by omega
          rw [this]; exact hb')
      exact ⟨by omega, h2, h3, h4⟩
theorem tz_spec (x : Int32) : tz_n x ≤ 32 ∧ (∀ i, i < tz_n x → bt x i = false) ∧ (tz_n x < 32 → bt x (tz_n x) = true) := by
  obtain ⟨-, h1, h2, h3⟩ := tz_go_spec x 32 0 rfl (fun i h => absurd h (Nat.not_lt_zero _))
  exact ⟨h1, h2, h3⟩
theorem tz_0 : tz_n 0 = 32 := by decide +kernel
theorem tz_le {x : Int32} {j : Nat} (h : ∀ i, i < j → bt x i = false) (hj : j ≤ 32) : j ≤ tz_n x := by
  obtain ⟨h1, h2, h3⟩ := tz_spec x
  rcases Nat.lt_or_ge (tz_n x) j with q | q
  · have := h _ q
    rw [h3 (by omega)] at this
    cases this
  · exact q
theorem n_32 {k : Nat} (h : k < 2 ^ 31) : nI k = 32 ↔ k = 32 := nI_eq (b := 32) h (by decide)
theorem fc_min_n {a b : Nat} (ha : a < 2 ^ 31) (hb : b < 2 ^ 31) : fc_min (nI a) (nI b) = nI (min a b) := by
  unfold fc_min
  by_cases h : b < a
  · rw [if_pos ((nI_ltI hb ha).mpr h), Nat.min_eq_right (Nat.le_of_lt h)]
  · rw [if_neg (fun q => h ((nI_ltI hb ha).mp q)), Nat.min_eq_left (Nat.le_of_not_lt h)]
theorem fc_cut_m : ∀ k, k < 17 → ∀ i, i < 32 → bt (1 <<< (nI k &&& 31) - 1) i = decide (i < k) := by decide +kernel
theorem fc_cut_b {k : Nat} (hk : k ≤ 16 ∨ k = 32) (x : Int32) (i : Nat) : bt (fc_cut x (nI k)) i = (decide (i < k) && bt x i) := by
  unfold fc_cut
  rcases hk with hk | hk
  · rw [if_neg (fun q => by have := (n_32 (by omega)).mp q; omega), b_and]
    rcases Nat.lt_or_ge i 32 with h | h
    · rw [fc_cut_m k (by omega) i h, Bool.and_comm]
    · rw [b_big h]; simp
  · subst hk
    rw [if_pos (show nI 32 = 32 from rfl)]
    rcases Nat.lt_or_ge i 32 with h | h
    · simp [h]
    · rw [b_big h]; simp
/-! a fact -/
abbrev ft_T : Type := Int32 × Int32 × Int32
/-- a fact as both sides keep it: reduced, some int is told -/
def ft_ok (f : ft_T) : Prop := ∃ k s : Nat, f.1 = nI k ∧ f.2.2 = nI s ∧ (k ≤ 16 ∨ k = 32) ∧ 0 < s ∧ s < 8 ∧ (∀ i, k ≤ i → bt f.2.1 i = false) ∧ (k = 32 → nI s = fc_sg f.2.1) ∧ (k ≠ 32 → f.2.1 ≠ 0 → s &&& 2 = 0) ∧ (s = 2 → k = 32)
/-- f tells no int that h doesn't -/
def ft_le (f h : ft_T) : Prop := ∃ k j : Nat, f.1 = nI k ∧ h.1 = nI j ∧ j ≤ k ∧ k ≤ 32 ∧ (∀ i, i < j → bt h.2.1 i = bt f.2.1 i) ∧ h.2.2 ||| f.2.2 = h.2.2
def ft_jn (f h : ft_T) : ft_T :=
  ((if fc_min f.1 h.1 = 32 ∧ f.2.1 ^^^ h.2.1 = 0 then 32 else fc_min 16 (fc_min (fc_min f.1 h.1) (fc_tz (f.2.1 ^^^ h.2.1)))),
   fc_cut f.2.1 (if fc_min f.1 h.1 = 32 ∧ f.2.1 ^^^ h.2.1 = 0 then 32 else fc_min 16 (fc_min (fc_min f.1 h.1) (fc_tz (f.2.1 ^^^ h.2.1)))),
   f.2.2 ||| h.2.2)
theorem sg_or : ∀ s, s < 8 → ∀ t, t < 8 → nI s ||| nI t = nI (s ||| t) ∧ (s ||| t) < 8 ∧ nI s &&& nI t = nI (s &&& t) ∧ (s &&& t) < 8 := by decide +kernel
theorem sg_lt (x : Int32) : ∃ s, s < 8 ∧ 0 < s ∧ fc_sg x = nI s ∧ (s = 1 ∨ s = 2 ∨ s = 4) ∧ (s = 2 ↔ x = 0) := by
  unfold fc_sg
  by_cases h : x < 0
  · rw [if_pos h]
    refine ⟨1, by decide, by decide, rfl, Or.inl rfl, ⟨fun q => (by cases q), fun q => ?_⟩⟩
    subst q
    exact absurd h (by decide)
  · rw [if_neg h]
    by_cases h0 : x = 0
    · rw [if_pos h0]
      exact ⟨2, by decide, by decide, rfl, Or.inr (Or.inl rfl), ⟨fun _ => h0, fun _ => rfl⟩⟩
    · rw [if_neg h0]
      exact ⟨4, by decide, by decide, rfl, Or.inr (Or.inr rfl), ⟨fun q => (by cases q), fun q => absurd q h0⟩⟩
/-- the bits of a join -/
def jn_k (k j : Nat) (d : Int32) : Nat := if min k j = 32 ∧ d = 0 then 32 else min 16 (min (min k j) (tz_n d))
theorem jn_k_eq {k j : Nat} (hk : k ≤ 32) (hj : j ≤ 32) (d : Int32) : (if fc_min (nI k) (nI j) = 32 ∧ d = 0 then (32 : Int32) else fc_min 16 (fc_min (fc_min (nI k) (nI j)) (fc_tz d))) = nI (jn_k k j d) := by
  have h3 := (tz_spec d).1
  have e0 : (fc_min (nI k) (nI j) = 32) ↔ min k j = 32 := by
    rw [fc_min_n (by omega) (by omega)]
    exact n_32 (by omega)
  unfold jn_k
  by_cases h : min k j = 32 ∧ d = 0
  · rw [if_pos h, if_pos ⟨e0.mpr h.1, h.2⟩]; rfl
  · rw [if_neg h, if_neg (fun q => h ⟨e0.mp q.1, q.2⟩), fc_min_n (by omega) (by omega)]
    unfold fc_tz
    rw [fc_min_n (by omega) (by omega)]
    exact fc_min_n (by decide) (by omega)
theorem jn_k_in (k j : Nat) (d : Int32) : jn_k k j d ≤ 16 ∨ jn_k k j d = 32 := by
  unfold jn_k
  by_cases h : min k j = 32 ∧ d = 0
  · rw [if_pos h]; exact Or.inr rfl
  · rw [if_neg h]; exact Or.inl (by omega)
theorem jn_k_le {k j : Nat} (d : Int32) : jn_k k j d ≤ k ∧ jn_k k j d ≤ j := by
  unfold jn_k
  by_cases h : min k j = 32 ∧ d = 0
  · rw [if_pos h]; omega
  · rw [if_neg h]; omega
theorem jn_k_bits {k j : Nat} {x y : Int32} {i : Nat} (hi : i < jn_k k j (x ^^^ y)) : bt x i = bt y i := by
  have key : bt (x ^^^ y) i = false := by
    unfold jn_k at hi
    by_cases h : min k j = 32 ∧ x ^^^ y = 0
    · rw [h.2, b_0]
    · rw [if_neg h] at hi
      exact (tz_spec _).2.1 i (by omega)
  rw [b_xor] at key
  cases h1 : bt x i <;> cases h2 : bt y i <;> simp_all
theorem ft_jn_eq {f h : ft_T} {k j : Nat} (hf : f.1 = nI k) (hh : h.1 = nI j) (hk : k ≤ 32) (hj : j ≤ 32) : ft_jn f h = (nI (jn_k k j (f.2.1 ^^^ h.2.1)), fc_cut f.2.1 (nI (jn_k k j (f.2.1 ^^^ h.2.1))), f.2.2 ||| h.2.2) := by
  unfold ft_jn
  rw [hf, hh, jn_k_eq hk hj]
theorem ft_le_refl {f : ft_T} (hf : ft_ok f) : ft_le f f := by
  obtain ⟨k, s, h1, h2, h3, h4, h5, -⟩ := hf
  exact ⟨k, k, h1, h1, Nat.le_refl _, by omega, fun _ _ => rfl, by rw [h2]; exact (by decide +kernel : ∀ s, s < 8 → nI s ||| nI s = nI s) s h5⟩
theorem ft_le_trans {f h q : ft_T} (a : ft_le f h) (b : ft_le h q) : ft_le f q := by
  obtain ⟨k, j, a1, a2, a3, a4, a5, a6⟩ := a
  obtain ⟨k', i, b1, b2, b3, b4, b5, b6⟩ := b
  have e : k' = j := (nI_eq (by omega) (by omega)).mp (b1.symm.trans a2)
  subst e
  refine ⟨k, i, a1, b2, by omega, a4, fun t ht => (b5 t ht).trans (a5 t (by omega)), ?_⟩
  rw [← b6, Int32.or_assoc, a6]
theorem ft_le_jn {f h : ft_T} (hf : ft_ok f) (hh : ft_ok h) : ft_le f (ft_jn f h) ∧ ft_le h (ft_jn f h) := by
  obtain ⟨k, s, h1, h2, h3, h4, h5, -⟩ := hf
  obtain ⟨j, t, g1, g2, g3, g4, g5, -⟩ := hh
  rw [ft_jn_eq h1 g1 (by omega) (by omega)]
  have hl := jn_k_le (k := k) (j := j) (f.2.1 ^^^ h.2.1)
  have hin := jn_k_in k j (f.2.1 ^^^ h.2.1)
  have or1 : (f.2.2 ||| h.2.2) ||| f.2.2 = f.2.2 ||| h.2.2 := by
    rw [h2, g2]
    exact (by decide +kernel : ∀ s, s < 8 → ∀ t, t < 8 → (nI s ||| nI t) ||| nI s = nI s ||| nI t) s h5 t g5
  have or2 : (f.2.2 ||| h.2.2) ||| h.2.2 = f.2.2 ||| h.2.2 := by
    rw [h2, g2]
    exact (by decide +kernel : ∀ s, s < 8 → ∀ t, t < 8 → (nI s ||| nI t) ||| nI t = nI s ||| nI t) s h5 t g5
  refine ⟨⟨k, _, h1, rfl, hl.1, by omega, fun i hi => ?_, or1⟩, ⟨j, _, g1, rfl, hl.2, by omega, fun i hi => ?_, or2⟩⟩
  · rw [fc_cut_b hin, decide_eq_true hi, Bool.true_and]
  · rw [fc_cut_b hin, decide_eq_true hi, Bool.true_and]
    exact jn_k_bits hi
theorem ft_jn_abs {f h : ft_T} (hf : ft_ok f) (hl : ft_le h f) : ft_jn f h = f := by
  obtain ⟨k, s, h1, h2, h3, h4, h5, h6, h7, h8, h9⟩ := hf
  obtain ⟨j, k', l1, l2, l3, l4, l5, l6⟩ := hl
  have e : k' = k := (nI_eq (by omega) (by omega)).mp (l2.symm.trans h1)
  subst e
  rw [ft_jn_eq h1 l1 (by omega) (by omega), l6]
  have ha : jn_k k' j (f.2.1 ^^^ h.2.1) = k' := by
    have hz : ∀ i, i < k' → bt (f.2.1 ^^^ h.2.1) i = false := fun i hi => by rw [b_xor, l5 i hi]; simp
    unfold jn_k
    rcases h3 with h3 | h3
    · rw [if_neg (fun q => by have := q.1; omega)]
      have := tz_le hz (by omega)
      omega
    · subst h3
      rw [if_pos ⟨by omega, b_zero hz⟩]
  rw [ha]
  have hr : fc_cut f.2.1 (nI k') = f.2.1 := b_ext (fun i _ => by
    rw [fc_cut_b h3]
    rcases Nat.lt_or_ge i k' with q | q
    · simp [q]
    · rw [h6 i q]; simp)
  rw [hr, ← h1]
theorem ft_jn_ok {f h : ft_T} (hf : ft_ok f) (hh : ft_ok h) : ft_ok (ft_jn f h) := by
  obtain ⟨k, s, h1, h2, h3, h4, h5, h6, h7, h8, h9⟩ := hf
  obtain ⟨j, t, g1, g2, g3, g4, g5, g6, g7, g8, g9⟩ := hh
  rw [ft_jn_eq h1 g1 (by omega) (by omega)]
  have hl := jn_k_le (k := k) (j := j) (f.2.1 ^^^ h.2.1)
  have hin := jn_k_in k j (f.2.1 ^^^ h.2.1)
  have hbits : ∀ i, i < jn_k k j (f.2.1 ^^^ h.2.1) → bt f.2.1 i = bt h.2.1 i := fun i hi => jn_k_bits hi
  have hor := sg_or s h5 t g5
  have hpos : 0 < (s ||| t) := (by decide +kernel : ∀ s, s < 8 → ∀ t, t < 8 → 0 < s → 0 < (s ||| t)) s h5 t g5 h4
  have full : jn_k k j (f.2.1 ^^^ h.2.1) = 32 → k = 32 ∧ j = 32 ∧ f.2.1 = h.2.1 := by
    intro q
    refine ⟨by omega, by omega, b_ext (fun i hi => hbits i (by omega))⟩
  refine ⟨jn_k k j (f.2.1 ^^^ h.2.1), s ||| t, rfl, by show f.2.2 ||| h.2.2 = _; rw [h2, g2]; exact hor.1, hin, hpos, hor.2.1, fun i hi => ?_, fun q => ?_, fun q hne => ?_, fun q => ?_⟩
  · show bt (fc_cut _ _) i = false
    rw [fc_cut_b hin, decide_eq_false (by omega)]; rfl
  · obtain ⟨e1, e2, e3⟩ := full q
    have c1 := h7 e1
    have c2 := g7 e2
    rw [← e3] at c2
    show nI (s ||| t) = fc_sg (fc_cut f.2.1 (nI (jn_k k j (f.2.1 ^^^ h.2.1))))
    rw [q, show fc_cut f.2.1 (nI 32) = f.2.1 from if_pos rfl, ← c1]
    have e4 : s = t := (nI_eq (by omega) (by omega)).mp (c1.trans c2.symm)
    subst e4
    rw [Nat.or_self]
  · -- the rest isn't 0: neither holds ZERO
    have hne2 : ¬ fc_cut f.2.1 (nI (jn_k k j (f.2.1 ^^^ h.2.1))) = 0 := hne
    have hf0 : f.2.1 ≠ 0 := fun e => hne2 (b_zero (fun i _ => by rw [fc_cut_b hin, e, b_0]; simp))
    have hh0 : h.2.1 ≠ 0 := fun e => hne2 (b_zero (fun i _ => by
      rw [fc_cut_b hin]
      rcases Nat.lt_or_ge i (jn_k k j (f.2.1 ^^^ h.2.1)) with z | z
      · rw [hbits i z, e, b_0]; simp
      · rw [decide_eq_false (by omega)]; rfl))
    have z1 : s &&& 2 = 0 := by
      by_cases e : k = 32
      · have c := h7 e
        obtain ⟨s0, -, -, q1, q2, q3⟩ := sg_lt f.2.1
        have : s = s0 := (nI_eq (by omega) (by omega)).mp (c.trans q1)
        subst this
        rcases q2 with q2 | q2 | q2
        · subst q2; rfl
        · exact absurd (q3.mp q2) hf0
        · subst q2; rfl
      · exact h8 e hf0
    have z2 : t &&& 2 = 0 := by
      by_cases e : j = 32
      · have c := g7 e
        obtain ⟨s0, -, -, q1, q2, q3⟩ := sg_lt h.2.1
        have : t = s0 := (nI_eq (by omega) (by omega)).mp (c.trans q1)
        subst this
        rcases q2 with q2 | q2 | q2
        · subst q2; rfl
        · exact absurd (q3.mp q2) hh0
        · subst q2; rfl
      · exact g8 e hh0
    exact (by decide +kernel : ∀ s, s < 8 → ∀ t, t < 8 → s &&& 2 = 0 → t &&& 2 = 0 → (s ||| t) &&& 2 = 0) s h5 t g5 z1 z2
  · have e := (by decide +kernel : ∀ s, s < 8 → ∀ t, t < 8 → (0 < s ∧ 0 < t ∧ (s ||| t) = 2 → s = 2 ∧ t = 2)) s h5 t g5 ⟨h4, g4, q⟩
    have e1 := h9 e.1
    have e2 := g9 e.2
    have z0 : ∀ {x : Int32} {s : Nat}, s < 8 → nI s = fc_sg x → s = 2 → x = 0 := by
      intro x s hs hx e
      obtain ⟨s0, w1, -, q1, q2, q3⟩ := sg_lt x
      have : s = s0 := (nI_eq (by omega) (by omega)).mp (hx.trans q1)
      exact q3.mp (this ▸ e)
    have r1 := z0 h5 (h7 e1) e.1
    have r2 := z0 g5 (g7 e2) e.2
    unfold jn_k
    rw [if_pos ⟨by omega, by rw [r1, r2]; rfl⟩]
/-! the measure: it falls when a join makes a fact tell more -/
def mu_b (b : Int32) : Nat := if b = 32 then 17 else b.toNatClampNeg
def mu_s (s : Int32) : Nat := 3 - ((if bt s 0 then 1 else 0) + (if bt s 1 then 1 else 0) + (if bt s 2 then 1 else 0))
def mu_f (f : ft_T) : Nat := mu_b f.1 + mu_s f.2.2
theorem mu_b_n {k : Nat} (h : k ≤ 16 ∨ k = 32) : mu_b (nI k) = if k = 32 then 17 else k := by
  unfold mu_b
  by_cases e : k = 32
  · subst e; rfl
  · rw [if_neg e, if_neg (fun q => e ((n_32 (by omega)).mp q)), nI_clamp (by omega)]
theorem mu_f_le {f : ft_T} (hf : ft_ok f) : mu_f f ≤ 19 := by
  obtain ⟨k, s, h1, h2, h3, h4, h5, -⟩ := hf
  unfold mu_f
  rw [h1, h2, mu_b_n h3]
  have := (by decide +kernel : ∀ s, s < 8 → 0 < s → mu_s (nI s) ≤ 2) s h5 h4
  by_cases e : k = 32
  · rw [if_pos e]; omega
  · rw [if_neg e]; omega
theorem mu_jn {f h : ft_T} (hf : ft_ok f) (hh : ft_ok h) : mu_f (ft_jn f h) ≤ mu_f f ∧ (¬ ((ft_jn f h).1 = f.1 ∧ (ft_jn f h).2.2 = f.2.2) → mu_f (ft_jn f h) < mu_f f) := by
  obtain ⟨k, s, h1, h2, h3, h4, h5, -⟩ := hf
  obtain ⟨j, t, g1, g2, g3, g4, g5, -⟩ := hh
  rw [ft_jn_eq h1 g1 (by omega) (by omega)]
  have hl := jn_k_le (k := k) (j := j) (f.2.1 ^^^ h.2.1)
  have hin := jn_k_in k j (f.2.1 ^^^ h.2.1)
  generalize jn_k k j (f.2.1 ^^^ h.2.1) = a at hl hin
  unfold mu_f
  dsimp only
  rw [h1, h2, g2, mu_b_n h3, mu_b_n hin]
  have c := (by decide +kernel : ∀ s, s < 8 → ∀ t, t < 8 → mu_s (nI s ||| nI t) ≤ mu_s (nI s) ∧ (¬ nI s ||| nI t = nI s → mu_s (nI s ||| nI t) < mu_s (nI s))) s h5 t g5
  have cb : (if a = 32 then 17 else a) ≤ (if k = 32 then 17 else k) ∧ (a ≠ k → (if a = 32 then 17 else a) < (if k = 32 then 17 else k)) := by
    by_cases e1 : a = 32 <;> by_cases e2 : k = 32 <;> simp [e1, e2] <;> omega
  refine ⟨by omega, fun q => ?_⟩
  by_cases e : a = k
  · subst e
    have : ¬ nI s ||| nI t = nI s := fun z => q ⟨rfl, z⟩
    have := c.2 this
    omega
  · have := cb.2 e
    omega
/-- unchanged in bits and signs: unchanged -/
theorem ft_jn_same {f h : ft_T} (hf : ft_ok f) (hh : ft_ok h) (e1 : (ft_jn f h).1 = f.1) (e2 : (ft_jn f h).2.2 = f.2.2) : ft_jn f h = f := by
  have hj := ft_le_jn hf hh
  obtain ⟨k, s, h1, h2, h3, h4, h5, h6, -⟩ := hf
  obtain ⟨j, t, g1, g2, g3, g4, g5, -⟩ := hh
  rw [ft_jn_eq h1 g1 (by omega) (by omega)] at e1 e2 ⊢
  have hin := jn_k_in k j (f.2.1 ^^^ h.2.1)
  have e : jn_k k j (f.2.1 ^^^ h.2.1) = k := (nI_eq (by omega) (by omega)).mp (e1.trans h1)
  rw [e] at hin ⊢
  have hr : fc_cut f.2.1 (nI k) = f.2.1 := b_ext (fun i _ => by
    rw [fc_cut_b hin]
    rcases Nat.lt_or_ge i k with q | q
    · simp [q]
    · rw [h6 i q]; simp)
  have e2 : f.2.2 ||| h.2.2 = f.2.2 := e2
  rw [hr, e2, ← h1]
end
section
/-! reducing; what comes of an operation -/
def ft_red (f : ft_T) : ft_T :=
  if (if f.1 = 32 then f.2.2 &&& fc_sg f.2.1 else if f.2.1 = 0 then f.2.2 else f.2.2 &&& (-3)) = 2 then (32, 0, 2)
  else (f.1, f.2.1, if f.1 = 32 then f.2.2 &&& fc_sg f.2.1 else if f.2.1 = 0 then f.2.2 else f.2.2 &&& (-3))
def ft_num (x : Int32) : ft_T := (32, x, fc_sg x)
def ft_any : ft_T := (0, 0, 7)
def ft_keep (f : ft_T) (kept : Int32) : ft_T := ft_red (f.1, f.2.1, f.2.2 &&& kept)
def fc_calc (o x y : Int32) : Int32 := if o = 2 then x + y else if o = 3 then x - y else if o = 4 then x * y else if y = 0 then 0 else x / y
def fc_tab (i j : Nat) : Int32 := match i with
  | 0 => [7, 1, 7, 1, 2, 4, 7, 4, 5].getD j 0
  | 1 => [7, 1, 5, 5, 2, 1, 5, 4, 7].getD j 0
  | 2 => [7, 2, 7, 2, 2, 2, 7, 2, 7].getD j 0
  | _ => [7, 0, 3, 2, 0, 2, 3, 0, 6].getD j 0
/-- the table of an operation -/
def fc_ti (o : Int32) : Nat := if o = 2 then 0 else if o = 3 then 1 else if o = 4 then 2 else 3
/-- the signs that come of the first n pairs -/
def fc_rs (i : Nat) (x y : Int32) : Nat → Int32
  | 0 => 0
  | n + 1 => if (x >>> (nI (n / 3) &&& 31)) &&& (y >>> (nI (n % 3) &&& 31)) &&& 1 = 0 then fc_rs i x y n else fc_rs i x y n ||| fc_tab i n
def fc_pb (f h : ft_T) : Int32 :=
  if 32 ≤ fc_min (f.1 + h.1) (fc_min (f.1 + fc_tz h.2.1) (h.1 + fc_tz f.2.1)) then 32 else fc_min 16 (fc_min (f.1 + h.1) (fc_min (f.1 + fc_tz h.2.1) (h.1 + fc_tz f.2.1)))
def fc_ob (o : Int32) (f h : ft_T) : Int32 := if o = 5 ∧ fc_min f.1 h.1 ≠ 32 then 0 else fc_min f.1 h.1
def fc_kb (o : Int32) (f h : ft_T) : Int32 := if o = 4 then fc_pb f h else fc_ob o f h
def ft_res (o : Int32) (f h : ft_T) : ft_T :=
  ft_red (fc_kb o f h, fc_cut (if fc_kb o f h = 0 then 0 else fc_calc o f.2.1 h.2.1) (fc_kb o f h), fc_rs (fc_ti o) f.2.2 h.2.2 9)
theorem ft_z0 {x : Int32} {s : Nat} (hs : s < 8) (hx : nI s = fc_sg x) : s = 2 ↔ x = 0 := by
  obtain ⟨s0, w1, -, q1, q2, q3⟩ := sg_lt x
  have : s = s0 := (nI_eq (by omega) (by omega)).mp (hx.trans q1)
  rw [this]; exact q3
theorem ft_cut_self {k : Nat} (hk : k ≤ 16 ∨ k = 32) {x : Int32} (h : ∀ i, k ≤ i → bt x i = false) : fc_cut x (nI k) = x := b_ext (fun i _ => by
  rw [fc_cut_b hk]
  rcases Nat.lt_or_ge i k with q | q
  · simp [q]
  · rw [h i q]; simp)
/-- the signs that reducing leaves -/
def rd_s (k : Nat) (x : Int32) (s : Nat) : Nat := if k = 32 then (if x < 0 then s &&& 1 else if x = 0 then s &&& 2 else s &&& 4) else if x = 0 then s else s &&& 5
theorem rd_s_eq {k s : Nat} (hk : k ≤ 32) (hs : s < 8) (x : Int32) : (if nI k = 32 then nI s &&& fc_sg x else if x = 0 then nI s else nI s &&& (-3)) = nI (rd_s k x s) ∧ rd_s k x s < 8 := by
  have e0 : (nI k = 32) ↔ k = 32 := nI_eq (b := 32) (by omega) (by omega)
  have c := (by decide +kernel : ∀ s, s < 8 → (nI s &&& 1 = nI (s &&& 1) ∧ nI s &&& 2 = nI (s &&& 2) ∧ nI s &&& 4 = nI (s &&& 4) ∧ nI s &&& (-3) = nI (s &&& 5)) ∧ (s &&& 1) < 8 ∧ (s &&& 2) < 8 ∧ (s &&& 4) < 8 ∧ (s &&& 5) < 8) s hs
  unfold rd_s fc_sg
  by_cases h : k = 32
  · rw [if_pos h, if_pos (e0.mpr h)]
    by_cases h1 : x < 0
    · rw [if_pos h1, if_pos h1]; exact ⟨c.1.1, c.2.1⟩
    · rw [if_neg h1, if_neg h1]
      by_cases h2 : x = 0
      · rw [if_pos h2, if_pos h2]; exact ⟨c.1.2.1, c.2.2.1⟩
      · rw [if_neg h2, if_neg h2]; exact ⟨c.1.2.2.1, c.2.2.2.1⟩
  · rw [if_neg h, if_neg (fun q => h (e0.mp q))]
    by_cases h2 : x = 0
    · rw [if_pos h2, if_pos h2]; exact ⟨rfl, hs⟩
    · rw [if_neg h2, if_neg h2]; exact ⟨c.1.2.2.2, c.2.2.2.2⟩
theorem ft_red_eq {k s : Nat} (hk : k ≤ 32) (hs : s < 8) (x : Int32) : ft_red (nI k, x, nI s) = if rd_s k x s = 2 then (32, 0, 2) else (nI k, x, nI (rd_s k x s)) := by
  obtain ⟨e, hlt⟩ := rd_s_eq hk hs x
  unfold ft_red
  dsimp only
  rw [e]
  by_cases h : rd_s k x s = 2
  · rw [if_pos h, if_pos (by rw [h]; rfl)]
  · rw [if_neg h, if_neg (show ¬ nI (rd_s k x s) = 2 from fun q => h ((nI_eq (b := 2) (by omega) (by decide)).mp q))]
theorem ft_zero_ok : ft_ok (32, 0, 2) := ⟨32, 2, rfl, rfl, Or.inr rfl, by decide, by decide, fun i _ => b_0 i, fun _ => rfl, fun h => absurd rfl h, fun _ => rfl⟩
theorem ft_red_ok {k s : Nat} (hk : k ≤ 16 ∨ k = 32) (hs : s < 8) {x : Int32} (hx : ∀ i, k ≤ i → bt x i = false) (hne : rd_s k x s ≠ 0) : ft_ok (ft_red (nI k, x, nI s)) := by
  rw [ft_red_eq (by omega) hs]
  obtain ⟨-, hlt⟩ := rd_s_eq (k := k) (by omega) hs x
  by_cases h : rd_s k x s = 2
  · rw [if_pos h]; exact ft_zero_ok
  · rw [if_neg h]
    refine ⟨k, rd_s k x s, rfl, rfl, hk, Nat.pos_of_ne_zero hne, hlt, hx, fun e => ?_, fun e e0 => ?_, fun e => absurd e h⟩
    · show nI (rd_s k x s) = fc_sg x
      unfold rd_s at hne ⊢
      unfold fc_sg
      rw [if_pos e] at hne ⊢
      have c := (by decide +kernel : ∀ s, s < 8 → (s &&& 1 ≠ 0 → s &&& 1 = 1) ∧ (s &&& 2 ≠ 0 → s &&& 2 = 2) ∧ (s &&& 4 ≠ 0 → s &&& 4 = 4)) s hs
      by_cases h1 : x < 0
      · rw [if_pos h1] at hne ⊢; rw [if_pos h1, c.1 hne]; rfl
      · rw [if_neg h1] at hne ⊢; rw [if_neg h1]
        by_cases h2 : x = 0
        · rw [if_pos h2] at hne ⊢; rw [if_pos h2, c.2.1 hne]; rfl
        · rw [if_neg h2] at hne ⊢; rw [if_neg h2, c.2.2 hne]; rfl
    · have e0 : ¬ x = 0 := e0
      show rd_s k x s &&& 2 = 0
      unfold rd_s
      rw [if_neg e, if_neg e0]
      exact (by decide +kernel : ∀ s, s < 8 → (s &&& 5) &&& 2 = 0) s hs
theorem ft_num_ok (x : Int32) : ft_ok (ft_num x) := by
  obtain ⟨s, h1, h2, h3, h4, h5⟩ := sg_lt x
  exact ⟨32, s, rfl, h3, Or.inr rfl, h2, h1, fun i hi => b_big hi, fun _ => h3.symm, fun h => absurd rfl h, fun _ => rfl⟩
theorem ft_num_red (x : Int32) : ft_red (32, x, 7) = ft_num x := by
  have e : (32, x, 7) = ((nI 32, x, nI 7) : ft_T) := rfl
  rw [e, ft_red_eq (by decide) (by decide)]
  unfold rd_s ft_num fc_sg
  rw [if_pos rfl]
  by_cases h1 : x < 0
  · rw [if_pos h1, if_pos h1]; rfl
  · rw [if_neg h1, if_neg h1]
    by_cases h2 : x = 0
    · rw [if_pos h2, if_pos h2, h2]; rfl
    · rw [if_neg h2, if_neg h2]; rfl
theorem ft_any_ok : ft_ok ft_any := ⟨0, 7, rfl, rfl, Or.inl (by decide), by decide, by decide, fun i _ => b_0 i, fun h => (by cases h), fun _ h => absurd rfl h, fun h => by cases h⟩
/-- a fact of which some signs are kept: nothing is left, or a good fact with no other signs -/
theorem ft_keep_ok {f : ft_T} (hf : ft_ok f) {t : Nat} (ht : t < 8) {kept : Int32} (hk : ∀ s, s < 8 → nI s &&& kept = nI (s &&& t)) : ((ft_keep f kept).2.2 = 0) ∨ (ft_ok (ft_keep f kept) ∧ ∃ s, s < 8 ∧ (ft_keep f kept).2.2 = nI s ∧ s &&& t = s) := by
  obtain ⟨k, s, h1, h2, h3, h4, h5, h6, -⟩ := hf
  have hs : (s &&& t) < 8 := (sg_or s h5 t ht).2.2.2
  have e : ft_keep f kept = ft_red (nI k, f.2.1, nI (s &&& t)) := by unfold ft_keep; rw [h1, h2, hk s h5]
  rw [e]
  obtain ⟨-, hlt⟩ := rd_s_eq (k := k) (by omega) hs f.2.1
  by_cases hne : rd_s k f.2.1 (s &&& t) = 0
  · left
    rw [ft_red_eq (by omega) hs, if_neg (by omega), hne]; rfl
  · right
    refine ⟨ft_red_ok h3 hs h6 hne, rd_s k f.2.1 (s &&& t), hlt, ?_, ?_⟩
    · rw [ft_red_eq (by omega) hs]
      by_cases h : rd_s k f.2.1 (s &&& t) = 2
      · rw [if_pos h, h]; rfl
      · rw [if_neg h]
    · have c := (by decide +kernel : ∀ s, s < 8 → ∀ t, t < 8 → (((s &&& t) &&& 1) &&& t = (s &&& t) &&& 1) ∧ (((s &&& t) &&& 2) &&& t = (s &&& t) &&& 2) ∧ (((s &&& t) &&& 4) &&& t = (s &&& t) &&& 4) ∧ (((s &&& t) &&& 5) &&& t = (s &&& t) &&& 5) ∧ ((s &&& t) &&& t = s &&& t)) s h5 t ht
      unfold rd_s
      by_cases q : k = 32
      · rw [if_pos q]
        by_cases q1 : f.2.1 < 0
        · rw [if_pos q1]; exact c.1
        · rw [if_neg q1]
          by_cases q2 : f.2.1 = 0
          · rw [if_pos q2]; exact c.2.1
          · rw [if_neg q2]; exact c.2.2.1
      · rw [if_neg q]
        by_cases q2 : f.2.1 = 0
        · rw [if_pos q2]; exact c.2.2.2.2
        · rw [if_neg q2]; exact c.2.2.2.1
/-- a good fact is reduced -/
theorem ft_red_self {f : ft_T} (hf : ft_ok f) : ft_red f = f := by
  obtain ⟨k, s, h1, h2, h3, h4, h5, h6, h7, h8, h9⟩ := hf
  have e : f = (nI k, f.2.1, nI s) := by rw [← h1, ← h2]
  have hr : rd_s k f.2.1 s = s := by
    unfold rd_s
    by_cases q : k = 32
    · rw [if_pos q]
      have c := h7 q
      unfold fc_sg at c
      by_cases q1 : f.2.1 < 0
      · rw [if_pos q1] at c ⊢
        have : s = 1 := (nI_eq (b := 1) (by omega) (by omega)).mp c
        rw [this]; rfl
      · rw [if_neg q1] at c ⊢
        by_cases q2 : f.2.1 = 0
        · rw [if_pos q2] at c ⊢
          have : s = 2 := (nI_eq (b := 2) (by omega) (by omega)).mp c
          rw [this]; rfl
        · rw [if_neg q2] at c ⊢
          have : s = 4 := (nI_eq (b := 4) (by omega) (by omega)).mp c
          rw [this]; rfl
    · rw [if_neg q]
      by_cases q2 : f.2.1 = 0
      · rw [if_pos q2]
      · rw [if_neg q2]
        exact (by decide +kernel : ∀ s, s < 8 → s &&& 2 = 0 → s &&& 5 = s) s h5 (h8 q q2)
  rw [e, ft_red_eq (by omega) h5]
  rw [show rd_s k (nI k, f.2.1, nI s).2.1 s = rd_s k f.2.1 s from rfl, hr]
  by_cases q : s = 2
  · have q1 := h9 q
    have q2 := (ft_z0 h5 (h7 q1)).mp q
    rw [if_pos q, q, q1]
    show (32, 0, 2) = (nI 32, f.2.1, nI 2)
    rw [q2]; rfl
  · rw [if_neg q]
/-! signs of sums, differences, quotients -/
theorem sg_toInt (x : Int32) : (x < 0 ↔ x.toInt < 0) ∧ (x = 0 ↔ x.toInt = 0) := by
  refine ⟨Int32.lt_iff_toInt_lt, ⟨fun h => by rw [h]; rfl, fun h => Int32.toInt_inj.mp (h.trans rfl)⟩⟩
theorem sg_rng (x : Int32) : -2147483648 ≤ x.toInt ∧ x.toInt ≤ 2147483647 := ⟨Int32.le_toInt x, Int32.toInt_le x⟩
theorem bm_x (z : Int) : ∃ q : Int, z.bmod (2 ^ 32) = z - 4294967296 * q ∧ -2147483648 ≤ z.bmod (2 ^ 32) ∧ z.bmod (2 ^ 32) ≤ 2147483647 := by
  rw [Int.bmod_def]
  have e : ((2 ^ 32 : Nat) : Int) = 4294967296 := by decide
  rw [e]
  split
  · exact ⟨z / 4294967296, by omega, by omega, by omega⟩
  · exact ⟨z / 4294967296 + 1, by omega, by omega, by omega⟩
theorem bm_id {z : Int} (h1 : -2147483648 ≤ z) (h2 : z ≤ 2147483647) : z.bmod (2 ^ 32) = z := by
  obtain ⟨q, e, l, u⟩ := bm_x z
  omega
theorem sg_cases {x : Int32} {s : Nat} (hs : s < 8) (hx : nI s = fc_sg x) : (s = 1 ∧ x.toInt < 0) ∨ (s = 2 ∧ x.toInt = 0) ∨ (s = 4 ∧ 0 < x.toInt) := by
  obtain ⟨t1, t2⟩ := sg_toInt x
  unfold fc_sg at hx
  by_cases h : x < 0
  · rw [if_pos h] at hx
    exact Or.inl ⟨(nI_eq (b := 1) (by omega) (by omega)).mp hx, t1.mp h⟩
  · rw [if_neg h] at hx
    by_cases h0 : x = 0
    · rw [if_pos h0] at hx
      exact Or.inr (Or.inl ⟨(nI_eq (b := 2) (by omega) (by omega)).mp hx, t2.mp h0⟩)
    · rw [if_neg h0] at hx
      refine Or.inr (Or.inr ⟨(nI_eq (b := 4) (by omega) (by omega)).mp hx, ?_⟩)
      have a1 : ¬ x.toInt < 0 := fun q => h (t1.mpr q)
      have a2 : ¬ x.toInt = 0 := fun q => h0 (t2.mpr q)
      omega
theorem rd_ne {x : Int32} {u : Nat} (h1 : x.toInt < 0 → u &&& 1 ≠ 0) (h2 : x.toInt = 0 → u &&& 2 ≠ 0) (h3 : 0 < x.toInt → u &&& 4 ≠ 0) : rd_s 32 x u ≠ 0 := by
  obtain ⟨t1, t2⟩ := sg_toInt x
  unfold rd_s
  rw [if_pos rfl]
  by_cases h : x < 0
  · rw [if_pos h]; exact h1 (t1.mp h)
  · rw [if_neg h]
    by_cases h0 : x = 0
    · rw [if_pos h0]; exact h2 (t2.mp h0)
    · rw [if_neg h0]
      refine h3 ?_
      have a1 : ¬ x.toInt < 0 := fun q => h (t1.mpr q)
      have a2 : ¬ x.toInt = 0 := fun q => h0 (t2.mpr q)
      omega
def rs_n (i s t : Nat) : Nat := (fc_rs i (nI s) (nI t) 9).toNatClampNeg
set_option maxRecDepth 20000 in
theorem rs_n_eq : ∀ i, i < 4 → ∀ s, s < 8 → ∀ t, t < 8 → fc_rs i (nI s) (nI t) 9 = nI (rs_n i s t) ∧ rs_n i s t < 8 := by decide +kernel
theorem rs_add : rs_n 0 1 1 = 7 ∧ rs_n 0 1 2 = 1 ∧ rs_n 0 1 4 = 7 ∧ rs_n 0 2 1 = 1 ∧ rs_n 0 2 2 = 2 ∧ rs_n 0 2 4 = 4 ∧ rs_n 0 4 1 = 7 ∧ rs_n 0 4 2 = 4 ∧ rs_n 0 4 4 = 5 := by decide +kernel
theorem rs_sub : rs_n 1 1 1 = 7 ∧ rs_n 1 1 2 = 1 ∧ rs_n 1 1 4 = 5 ∧ rs_n 1 2 1 = 5 ∧ rs_n 1 2 2 = 2 ∧ rs_n 1 2 4 = 1 ∧ rs_n 1 4 1 = 5 ∧ rs_n 1 4 2 = 4 ∧ rs_n 1 4 4 = 7 := by decide +kernel
theorem rs_div : rs_n 3 1 1 = 7 ∧ rs_n 3 1 4 = 3 ∧ rs_n 3 2 1 = 2 ∧ rs_n 3 2 4 = 2 ∧ rs_n 3 4 1 = 3 ∧ rs_n 3 4 4 = 6 := by decide +kernel
theorem ad_sg {a b : Int32} {s t : Nat} (hs : s < 8) (ht : t < 8) (ha : nI s = fc_sg a) (hb : nI t = fc_sg b) : rd_s 32 (a + b) (rs_n 0 s t) ≠ 0 := by
  obtain ⟨a1, a2⟩ := sg_rng a
  obtain ⟨b1, b2⟩ := sg_rng b
  obtain ⟨q, e, l, u⟩ := bm_x (a.toInt + b.toInt)
  obtain ⟨c1, c2, c3, c4, c5, c6, c7, c8, c9⟩ := rs_add
  have ex : (a + b).toInt = (a.toInt + b.toInt).bmod (2 ^ 32) := Int32.toInt_add a b
  rcases sg_cases hs ha with ⟨rfl, h1⟩ | ⟨rfl, h1⟩ | ⟨rfl, h1⟩ <;> rcases sg_cases ht hb with ⟨rfl, h2⟩ | ⟨rfl, h2⟩ | ⟨rfl, h2⟩
  · rw [c1]; exact rd_ne (fun _ => by decide) (fun _ => by decide) (fun _ => by decide)
  · rw [c2]; exact rd_ne (fun _ => by decide) (fun z => by omega) (fun z => by omega)
  · rw [c3]; exact rd_ne (fun _ => by decide) (fun _ => by decide) (fun _ => by decide)
  · rw [c4]; exact rd_ne (fun _ => by decide) (fun z => by omega) (fun z => by omega)
  · rw [c5]; exact rd_ne (fun z => by omega) (fun _ => by decide) (fun z => by omega)
  · rw [c6]; exact rd_ne (fun z => by omega) (fun z => by omega) (fun _ => by decide)
  · rw [c7]; exact rd_ne (fun _ => by decide) (fun _ => by decide) (fun _ => by decide)
  · rw [c8]; exact rd_ne (fun z => by omega) (fun z => by omega) (fun _ => by decide)
  · rw [c9]; exact rd_ne (fun _ => by decide) (fun z => by omega) (fun _ => by decide)
theorem sb_sg {a b : Int32} {s t : Nat} (hs : s < 8) (ht : t < 8) (ha : nI s = fc_sg a) (hb : nI t = fc_sg b) : rd_s 32 (a - b) (rs_n 1 s t) ≠ 0 := by
  obtain ⟨a1, a2⟩ := sg_rng a
  obtain ⟨b1, b2⟩ := sg_rng b
  obtain ⟨q, e, l, u⟩ := bm_x (a.toInt - b.toInt)
  obtain ⟨c1, c2, c3, c4, c5, c6, c7, c8, c9⟩ := rs_sub
  have ex : (a - b).toInt = (a.toInt - b.toInt).bmod (2 ^ 32) := Int32.toInt_sub a b
  rcases sg_cases hs ha with ⟨rfl, h1⟩ | ⟨rfl, h1⟩ | ⟨rfl, h1⟩ <;> rcases sg_cases ht hb with ⟨rfl, h2⟩ | ⟨rfl, h2⟩ | ⟨rfl, h2⟩
  · rw [c1]; exact rd_ne (fun _ => by decide) (fun _ => by decide) (fun _ => by decide)
  · rw [c2]; exact rd_ne (fun _ => by decide) (fun z => by omega) (fun z => by omega)
  · rw [c3]; exact rd_ne (fun _ => by decide) (fun z => by omega) (fun _ => by decide)
  · rw [c4]; exact rd_ne (fun _ => by decide) (fun z => by omega) (fun _ => by decide)
  · rw [c5]; exact rd_ne (fun z => by omega) (fun _ => by decide) (fun z => by omega)
  · rw [c6]; exact rd_ne (fun _ => by decide) (fun z => by omega) (fun z => by omega)
  · rw [c7]; exact rd_ne (fun _ => by decide) (fun z => by omega) (fun _ => by decide)
  · rw [c8]; exact rd_ne (fun z => by omega) (fun z => by omega) (fun _ => by decide)
  · rw [c9]; exact rd_ne (fun _ => by decide) (fun _ => by decide) (fun _ => by decide)
theorem td_pp {a b : Int} (ha : 0 ≤ a) (hb : 0 < b) : 0 ≤ a.tdiv b ∧ a.tdiv b ≤ a := by
  rw [Int.tdiv_eq_ediv_of_nonneg ha]
  exact ⟨Int.ediv_nonneg ha (by omega), Int.ediv_le_self _ ha⟩
theorem dv_sg {a b : Int32} {s t : Nat} (hs : s < 8) (ht : t < 8) (ha : nI s = fc_sg a) (hb : nI t = fc_sg b) (hb0 : b ≠ 0) : rd_s 32 (a / b) (rs_n 3 s t) ≠ 0 := by
  obtain ⟨a1, a2⟩ := sg_rng a
  obtain ⟨b1, b2⟩ := sg_rng b
  obtain ⟨c1, c2, c3, c4, c5, c6⟩ := rs_div
  have ex : (a / b).toInt = (a.toInt.tdiv b.toInt).bmod (2 ^ 32) := Int32.toInt_div a b
  have hb1 : ¬ b.toInt = 0 := fun q => hb0 ((sg_toInt b).2.mpr q)
  rcases sg_cases hs ha with ⟨rfl, h1⟩ | ⟨rfl, h1⟩ | ⟨rfl, h1⟩ <;> rcases sg_cases ht hb with ⟨rfl, h2⟩ | ⟨rfl, h2⟩ | ⟨rfl, h2⟩
  · rw [c1]; exact rd_ne (fun _ => by decide) (fun _ => by decide) (fun _ => by decide)
  · exact absurd h2 hb1
  · have k : a.toInt.tdiv b.toInt = -((-a.toInt).tdiv b.toInt) := by rw [Int.neg_tdiv, Int.neg_neg]
    have := td_pp (a := -a.toInt) (b := b.toInt) (by omega) h2
    rw [k, bm_id (by omega) (by omega)] at ex
    rw [c2]; exact rd_ne (fun _ => by decide) (fun _ => by decide) (fun z => by omega)
  · have k : a.toInt.tdiv b.toInt = 0 := by rw [h1, Int.zero_tdiv]
    rw [k, bm_id (by omega) (by omega)] at ex
    rw [c3]; exact rd_ne (fun z => by omega) (fun _ => by decide) (fun z => by omega)
  · exact absurd h2 hb1
  · have k : a.toInt.tdiv b.toInt = 0 := by rw [h1, Int.zero_tdiv]
    rw [k, bm_id (by omega) (by omega)] at ex
    rw [c4]; exact rd_ne (fun z => by omega) (fun _ => by decide) (fun z => by omega)
  · have k : a.toInt.tdiv b.toInt = -(a.toInt.tdiv (-b.toInt)) := by rw [Int.tdiv_neg, Int.neg_neg]
    have := td_pp (a := a.toInt) (b := -b.toInt) (by omega) (by omega)
    rw [k, bm_id (by omega) (by omega)] at ex
    rw [c5]; exact rd_ne (fun _ => by decide) (fun _ => by decide) (fun z => by omega)
  · exact absurd h2 hb1
  · have := td_pp (a := a.toInt) (b := b.toInt) (by omega) h2
    rw [bm_id (by omega) (by omega)] at ex
    rw [c6]; exact rd_ne (fun z => by omega) (fun _ => by decide) (fun _ => by decide)
/-- division by -1, as the reference has it -/
theorem dv_m1 (x : Int32) : x / (-1) = -x := by
  apply Int32.toInt_inj.mp
  have e : (-1 : Int32).toInt = -1 := by decide
  rw [Int32.toInt_div, e, Int.tdiv_neg, Int.tdiv_one]
  exact (Int32.toInt_neg x).symm
/-! the bits of a result -/
def ob_k (o : Int32) (k j : Nat) : Nat := if o = 5 ∧ min k j ≠ 32 then 0 else min k j
def pb_k (k j : Nat) (x y : Int32) : Nat := if 32 ≤ min (k + j) (min (k + tz_n y) (j + tz_n x)) then 32 else min 16 (min (k + j) (min (k + tz_n y) (j + tz_n x)))
def kb_k (o : Int32) (k j : Nat) (x y : Int32) : Nat := if o = 4 then pb_k k j x y else ob_k o k j
theorem fc_kb_eq {f h : ft_T} {k j : Nat} (hf : f.1 = nI k) (hh : h.1 = nI j) (hk : k ≤ 32) (hj : j ≤ 32) (o : Int32) : fc_kb o f h = nI (kb_k o k j f.2.1 h.2.1) := by
  have t1 := (tz_spec f.2.1).1
  have t2 := (tz_spec h.2.1).1
  unfold fc_kb kb_k
  by_cases e : o = 4
  · rw [if_pos e, if_pos e]
    unfold fc_pb pb_k fc_tz
    rw [hf, hh, nI_add, nI_add, nI_add, fc_min_n (a := k + tz_n h.2.1) (by omega) (by omega), fc_min_n (by omega) (by omega)]
    by_cases c : 32 ≤ min (k + j) (min (k + tz_n h.2.1) (j + tz_n f.2.1))
    · rw [if_pos c, if_pos (show (32 : Int32) ≤ _ from (nI_leI (a := 32) (by omega) (by omega)).mpr c)]; rfl
    · rw [if_neg c, if_neg (show ¬ (32 : Int32) ≤ _ from fun q => c ((nI_leI (a := 32) (by omega) (by omega)).mp q))]
      exact fc_min_n (a := 16) (by omega) (by omega)
  · rw [if_neg e, if_neg e]
    unfold fc_ob ob_k
    rw [hf, hh, fc_min_n (by omega) (by omega)]
    have e0 : (nI (min k j) ≠ 32) ↔ min k j ≠ 32 := not_congr (nI_eq (b := 32) (by omega) (by omega))
    by_cases c : o = 5 ∧ min k j ≠ 32
    · rw [if_pos c, if_pos ⟨c.1, e0.mpr c.2⟩]; rfl
    · rw [if_neg c, if_neg (fun q => c ⟨q.1, e0.mp q.2⟩)]
theorem kb_k_in {o : Int32} {k j : Nat} (hk : k ≤ 16 ∨ k = 32) (hj : j ≤ 16 ∨ j = 32) (x y : Int32) : kb_k o k j x y ≤ 16 ∨ kb_k o k j x y = 32 := by
  unfold kb_k
  by_cases e : o = 4
  · rw [if_pos e]
    unfold pb_k
    by_cases c : 32 ≤ min (k + j) (min (k + tz_n y) (j + tz_n x))
    · rw [if_pos c]; exact Or.inr rfl
    · rw [if_neg c]; exact Or.inl (by omega)
  · rw [if_neg e]
    unfold ob_k
    by_cases c : o = 5 ∧ min k j ≠ 32
    · rw [if_pos c]; exact Or.inl (by omega)
    · rw [if_neg c]; omega
theorem fc_cut_0 (z : Int32) {k : Nat} (hk : k ≤ 16 ∨ k = 32) : fc_cut (if nI k = 0 then 0 else z) (nI k) = fc_cut z (nI k) := by
  by_cases e : k = 0
  · subst e
    exact b_ext (fun i _ => by rw [fc_cut_b hk, fc_cut_b hk, decide_eq_false (by omega)]; rfl)
  · rw [if_neg (show ¬ nI k = 0 from fun q => e ((nI_eq (b := 0) (by omega) (by decide)).mp q))]
theorem ft_res_eq {f h : ft_T} {k j s t : Nat} (hf : f.1 = nI k) (hh : h.1 = nI j) (hs : f.2.2 = nI s) (ht : h.2.2 = nI t) (hk : k ≤ 16 ∨ k = 32) (hj : j ≤ 16 ∨ j = 32) (hs8 : s < 8) (ht8 : t < 8) (o : Int32) :
    ft_res o f h = ft_red (nI (kb_k o k j f.2.1 h.2.1), fc_cut (fc_calc o f.2.1 h.2.1) (nI (kb_k o k j f.2.1 h.2.1)), nI (rs_n (fc_ti o) s t)) := by
  have hti : fc_ti o < 4 := by
    unfold fc_ti
    by_cases e2 : o = 2
    · rw [if_pos e2]; decide
    · rw [if_neg e2]
      by_cases e3 : o = 3
      · rw [if_pos e3]; decide
      · rw [if_neg e3]
        by_cases e4 : o = 4
        · rw [if_pos e4]; decide
        · rw [if_neg e4]; decide
  unfold ft_res
  rw [fc_kb_eq hf hh (by omega) (by omega), fc_cut_0 _ (kb_k_in hk hj _ _), hs, ht, (rs_n_eq _ hti s hs8 t ht8).1]
theorem rs_f0 : ∀ s, s < 8 → ∀ t, t < 8 → (0 < s ∧ 0 < t → rs_n 0 s t ≠ 0 ∧ rs_n 1 s t ≠ 0 ∧ rs_n 2 s t ≠ 0) := by decide +kernel
theorem rs_f1 : ∀ s, s < 8 → ∀ t, t < 8 → (0 < s ∧ 0 < t ∧ rs_n 0 s t &&& 5 = 0 → s = 2 ∧ t = 2) := by decide +kernel
theorem rs_f2 : ∀ s, s < 8 → ∀ t, t < 8 → (0 < s ∧ 0 < t ∧ rs_n 1 s t &&& 5 = 0 → s = 2 ∧ t = 2) := by decide +kernel
theorem rs_f3 : ∀ s, s < 8 → ∀ t, t < 8 → (0 < s ∧ 0 < t → rs_n 2 s t = 7 ∨ ((s = 2 ∨ t = 2) ∧ rs_n 2 s t = 2)) := by decide +kernel
theorem rs_f4 : ∀ s, s < 8 → ∀ t, t < 8 → (0 < s ∧ 0 < t ∧ t &&& 2 = 0 → rs_n 3 s t ≠ 0) := by decide +kernel
theorem rs_facts (s : Nat) (hs : s < 8) (t : Nat) (ht : t < 8) (h : 0 < s ∧ 0 < t) : (rs_n 0 s t ≠ 0 ∧ (rs_n 0 s t &&& 5 = 0 → s = 2 ∧ t = 2)) ∧ (rs_n 1 s t ≠ 0 ∧ (rs_n 1 s t &&& 5 = 0 → s = 2 ∧ t = 2)) ∧ (rs_n 2 s t ≠ 0 ∧ (rs_n 2 s t = 7 ∨ (s = 2 ∨ t = 2) ∧ rs_n 2 s t = 2)) ∧ (t &&& 2 = 0 → rs_n 3 s t ≠ 0) :=
  ⟨⟨(rs_f0 s hs t ht h).1, fun q => rs_f1 s hs t ht ⟨h.1, h.2, q⟩⟩, ⟨(rs_f0 s hs t ht h).2.1, fun q => rs_f2 s hs t ht ⟨h.1, h.2, q⟩⟩, ⟨(rs_f0 s hs t ht h).2.2, rs_f3 s hs t ht h⟩, fun q => rs_f4 s hs t ht ⟨h.1, h.2, q⟩⟩
/-- a result is a good fact: 2, 3, 4 of any two, 5 where the second isn't ZERO -/
theorem ft_res_ok {f h : ft_T} (hf : ft_ok f) (hh : ft_ok h) {o : Int32} (ho : o = 2 ∨ o = 3 ∨ o = 4 ∨ (o = 5 ∧ h.2.2 &&& 2 = 0)) : ft_ok (ft_res o f h) := by
  obtain ⟨k, s, h1, h2, h3, h4, h5, h6, h7, h8, h9⟩ := hf
  obtain ⟨j, t, g1, g2, g3, g4, g5, g6, g7, g8, g9⟩ := hh
  rw [ft_res_eq h1 g1 h2 g2 h3 g3 h5 g5]
  have hin := kb_k_in (o := o) h3 g3 f.2.1 h.2.1
  have hcut : ∀ (z : Int32) (i : Nat), kb_k o k j f.2.1 h.2.1 ≤ i → bt (fc_cut z (nI (kb_k o k j f.2.1 h.2.1))) i = false := fun z i hi => by
    rw [fc_cut_b hin, decide_eq_false (by omega)]; rfl
  obtain ⟨r0, r1, r2, r3⟩ := rs_facts s h5 t g5 ⟨h4, g4⟩
  have c32 : ∀ z : Int32, fc_cut z (nI 32) = z := fun z => if_pos rfl
  rcases ho with rfl | rfl | rfl | ⟨rfl, hz⟩
  · have hti : fc_ti 2 = 0 := rfl
    have hcalc : fc_calc 2 f.2.1 h.2.1 = f.2.1 + h.2.1 := rfl
    have hk : kb_k 2 k j f.2.1 h.2.1 = min k j := by
      unfold kb_k ob_k
      rw [if_neg (by decide), if_neg (fun q => absurd q.1 (by decide))]
    rw [hti, hcalc] at *
    refine ft_red_ok hin (rs_n_eq 0 (by decide) s h5 t g5).2 (hcut _) ?_
    rw [hk]
    by_cases e : min k j = 32
    · have e1 : k = 32 := by omega
      have e2 : j = 32 := by omega
      rw [e, c32]
      exact ad_sg h5 g5 (h7 e1) (g7 e2)
    · unfold rd_s
      rw [if_neg e]
      by_cases e0 : fc_cut (f.2.1 + h.2.1) (nI (min k j)) = 0
      · rw [if_pos e0]; exact r0.1
      · rw [if_neg e0]
        intro q
        have := r0.2 q
        have e1 := h9 this.1
        have e2 := g9 this.2
        omega
  · have hti : fc_ti 3 = 1 := rfl
    have hcalc : fc_calc 3 f.2.1 h.2.1 = f.2.1 - h.2.1 := rfl
    have hk : kb_k 3 k j f.2.1 h.2.1 = min k j := by
      unfold kb_k ob_k
      rw [if_neg (by decide), if_neg (fun q => absurd q.1 (by decide))]
    rw [hti, hcalc] at *
    refine ft_red_ok hin (rs_n_eq 1 (by decide) s h5 t g5).2 (hcut _) ?_
    rw [hk]
    by_cases e : min k j = 32
    · have e1 : k = 32 := by omega
      have e2 : j = 32 := by omega
      rw [e, c32]
      exact sb_sg h5 g5 (h7 e1) (g7 e2)
    · unfold rd_s
      rw [if_neg e]
      by_cases e0 : fc_cut (f.2.1 - h.2.1) (nI (min k j)) = 0
      · rw [if_pos e0]; exact r1.1
      · rw [if_neg e0]
        intro q
        have := r1.2 q
        have e1 := h9 this.1
        have e2 := g9 this.2
        omega
  · have hti : fc_ti 4 = 2 := rfl
    have hcalc : fc_calc 4 f.2.1 h.2.1 = f.2.1 * h.2.1 := rfl
    rw [hti, hcalc] at *
    refine ft_red_ok hin (rs_n_eq 2 (by decide) s h5 t g5).2 (hcut _) ?_
    rcases r2.2 with q | ⟨q, q2⟩
    · rw [q]
      unfold rd_s
      by_cases e : kb_k 4 k j f.2.1 h.2.1 = 32
      · rw [if_pos e]
        by_cases e1 : fc_cut (f.2.1 * h.2.1) (nI (kb_k 4 k j f.2.1 h.2.1)) < 0
        · rw [if_pos e1]; decide
        · rw [if_neg e1]
          by_cases e2 : fc_cut (f.2.1 * h.2.1) (nI (kb_k 4 k j f.2.1 h.2.1)) = 0
          · rw [if_pos e2]; decide
          · rw [if_neg e2]; decide
      · rw [if_neg e]
        by_cases e2 : fc_cut (f.2.1 * h.2.1) (nI (kb_k 4 k j f.2.1 h.2.1)) = 0
        · rw [if_pos e2]; decide
        · rw [if_neg e2]; decide
    · -- one of them is 0
      have zero : (k = 32 ∧ f.2.1 = 0) ∨ (j = 32 ∧ h.2.1 = 0) := by
        rcases q with q | q
        · exact Or.inl ⟨h9 q, (ft_z0 h5 (h7 (h9 q))).mp q⟩
        · exact Or.inr ⟨g9 q, (ft_z0 g5 (g7 (g9 q))).mp q⟩
      have hkb : kb_k 4 k j f.2.1 h.2.1 = 32 := by
        unfold kb_k pb_k
        rw [if_pos rfl]
        rcases zero with ⟨e1, e2⟩ | ⟨e1, e2⟩
        · rw [e2, tz_0, if_pos (by omega)]
        · rw [e2, tz_0, if_pos (by omega)]
      have hp : f.2.1 * h.2.1 = 0 := by
        rcases zero with ⟨-, e2⟩ | ⟨-, e2⟩
        · rw [e2, Int32.zero_mul]
        · rw [e2, Int32.mul_zero]
      rw [hkb, c32, hp, q2]
      decide
  · have hti : fc_ti 5 = 3 := rfl
    have hz' : t &&& 2 = 0 := by
      rw [g2] at hz
      exact (by decide +kernel : ∀ t, t < 8 → nI t &&& 2 = 0 → t &&& 2 = 0) t g5 hz
    have hk : kb_k 5 k j f.2.1 h.2.1 = if min k j ≠ 32 then 0 else min k j := by
      unfold kb_k ob_k
      rw [if_neg (by decide)]
      by_cases e : min k j ≠ 32
      · rw [if_pos e, if_pos ⟨rfl, e⟩]
      · rw [if_neg e, if_neg (fun q => e q.2)]
    rw [hti] at *
    refine ft_red_ok hin (rs_n_eq 3 (by decide) s h5 t g5).2 (hcut _) ?_
    rw [hk]
    by_cases e : min k j ≠ 32
    · rw [if_pos e]
      unfold rd_s
      rw [if_neg (by decide), if_pos (b_zero (fun i _ => by rw [fc_cut_b (Or.inl (by decide)), decide_eq_false (by omega)]; rfl))]
      exact r3 hz'
    · rw [if_neg e]
      have e' : min k j = 32 := Decidable.not_not.mp e
      have e1 : k = 32 := by omega
      have e2 : j = 32 := by omega
      have hb0 : h.2.1 ≠ 0 := fun q => by
        have := (ft_z0 g5 (g7 e2)).mpr q
        rw [this] at hz'
        exact absurd hz' (by decide)
      have hcalc : fc_calc 5 f.2.1 h.2.1 = f.2.1 / h.2.1 := by
        unfold fc_calc
        rw [if_neg (by decide), if_neg (by decide), if_neg (by decide), if_neg hb0]
      rw [e', c32, hcalc]
      exact dv_sg h5 g5 (h7 e1) (g7 e2) hb0
end
section
/-! The solver, as mathematics: states, what comes of an instruction, a pass; what doesn't grow is absorbed. -/
abbrev sv_F : Type := Nat → ft_T
abbrev sv_S : Type := Nat → Bool × sv_F
def sv_up (f : sv_F) (a : Nat) (x : ft_T) : sv_F := fun v => if v = a then x else f v
/-- a state comes to t -/
def sv_jn (n t : Nat) (c : sv_F) (σ : sv_S) : sv_S := fun i => if i = t ∧ t < n then (true, if (σ t).1 = true then fun v => if v < 4 then ft_jn ((σ t).2 v) (c v) else (σ t).2 v else c) else σ i
def sv_o (n t : Nat) (oc : Option sv_F) (σ : sv_S) : sv_S := match oc with
  | none => σ
  | some c => sv_jn n t c σ
def sv_keep (f : sv_F) (a : Nat) (kept : Int32) : Option sv_F := if (ft_keep (f a) kept).2.2 = 0 then none else some (sv_up f a (ft_keep (f a) kept))
def sv_way (o : Int32) : Int32 := if o = 7 then 2 else 1
def sv_oth (o : Int32) : Int32 := if o = 7 then 5 else 6
def sv_thru (q : Nat → Int32) (f : sv_F) : Option sv_F :=
  if q 0 = 0 then some (sv_up f (q 1).toNatClampNeg (ft_num (q 3)))
  else if q 0 = 1 then some (sv_up f (q 1).toNatClampNeg (f (q 2).toNatClampNeg))
  else if q 0 = 2 ∨ q 0 = 3 ∨ q 0 = 4 then some (sv_up f (q 1).toNatClampNeg (ft_res (q 0) (f (q 2).toNatClampNeg) (f (q 3).toNatClampNeg)))
  else if q 0 = 5 then (sv_keep f (q 3).toNatClampNeg 5).bind (fun h => some (sv_up h (q 1).toNatClampNeg (ft_res 5 (h (q 2).toNatClampNeg) (h (q 3).toNatClampNeg))))
  else if q 0 = 6 then some (sv_up f (q 1).toNatClampNeg ft_any)
  else some f
def sv_step (n : Nat) (p : Nat → Nat → Int32) (i : Nat) (σ : sv_S) : sv_S :=
  if p i 0 = 11 then σ
  else if p i 0 = 9 then sv_o n (p i 3).toNatClampNeg (some (σ i).2) σ
  else if p i 0 = 7 ∨ p i 0 = 8 then
    sv_o n (i + 1) (sv_keep ((sv_o n (p i 3).toNatClampNeg (sv_keep (σ i).2 (p i 1).toNatClampNeg (sv_way (p i 0))) σ) i).2 (p i 1).toNatClampNeg (sv_oth (p i 0))) (sv_o n (p i 3).toNatClampNeg (sv_keep (σ i).2 (p i 1).toNatClampNeg (sv_way (p i 0))) σ)
  else sv_o n (i + 1) (sv_thru (p i) (σ i).2) σ
/-- an instruction in its normal form -/
def in_ok (q : Nat → Int32) : Prop := ∃ o : Nat, o < 13 ∧ q 0 = nI o ∧ (if o = 9 ∨ o = 11 ∨ o = 12 then q 1 = 0 else ∃ a, a < 4 ∧ q 1 = nI a) ∧ (if 1 ≤ o ∧ o ≤ 5 then ∃ a, a < 4 ∧ q 2 = nI a else q 2 = 0) ∧ (if 2 ≤ o ∧ o ≤ 5 then ∃ a, a < 4 ∧ q 3 = nI a else if 7 ≤ o ∧ o ≤ 9 then ∃ a, a ≤ 24 ∧ q 3 = nI a else if o = 0 then True else q 3 = 0)
def sv_fok (f : sv_F) : Prop := ∀ v, v < 4 → ft_ok (f v)
def sv_ok (σ : sv_S) : Prop := ∀ i, (σ i).1 = true → sv_fok (σ i).2
def sv_fle (f h : sv_F) : Prop := ∀ v, v < 4 → ft_le (f v) (h v)
def sv_le (σ τ : sv_S) : Prop := ∀ i, (σ i).1 = true → (τ i).1 = true ∧ sv_fle (σ i).2 (τ i).2
def sv_ab (n t : Nat) (oc : Option sv_F) (σ : sv_S) : Prop := ∀ c, oc = some c → t < n → (σ t).1 = true ∧ sv_fle c (σ t).2
def sv_abs (n : Nat) (p : Nat → Nat → Int32) (i : Nat) (σ : sv_S) : Prop :=
  if p i 0 = 11 then True
  else if p i 0 = 9 then sv_ab n (p i 3).toNatClampNeg (some (σ i).2) σ
  else if p i 0 = 7 ∨ p i 0 = 8 then sv_ab n (p i 3).toNatClampNeg (sv_keep (σ i).2 (p i 1).toNatClampNeg (sv_way (p i 0))) σ ∧ sv_ab n (i + 1) (sv_keep (σ i).2 (p i 1).toNatClampNeg (sv_oth (p i 0))) σ
  else sv_ab n (i + 1) (sv_thru (p i) (σ i).2) σ
theorem sv_fle_refl {f : sv_F} (h : sv_fok f) : sv_fle f f := fun v hv => ft_le_refl (h v hv)
theorem sv_fle_trans {f h q : sv_F} (a : sv_fle f h) (b : sv_fle h q) : sv_fle f q := fun v hv => ft_le_trans (a v hv) (b v hv)
theorem sv_le_refl {σ : sv_S} (h : sv_ok σ) : sv_le σ σ := fun i hi => ⟨hi, sv_fle_refl (h i hi)⟩
theorem sv_le_trans {σ τ υ : sv_S} (a : sv_le σ τ) (b : sv_le τ υ) : sv_le σ υ := fun i hi => by
  obtain ⟨h1, h2⟩ := a i hi
  obtain ⟨h3, h4⟩ := b i h1
  exact ⟨h3, sv_fle_trans h2 h4⟩
/-- what is absorbed changes nothing -/
theorem sv_o_abs {n t : Nat} {oc : Option sv_F} {σ : sv_S} (hσ : sv_ok σ) (h : sv_ab n t oc σ) : sv_o n t oc σ = σ := by
  cases oc with
  | none => rfl
  | some c =>
    show sv_jn n t c σ = σ
    funext i
    unfold sv_jn
    by_cases q : i = t ∧ t < n
    · rw [if_pos q]
      obtain ⟨rfl, ht⟩ := q
      obtain ⟨h1, h2⟩ := h c rfl ht
      rw [if_pos h1]
      refine Prod.ext h1.symm ?_
      funext v
      show (if v < 4 then _ else _) = _
      by_cases hv : v < 4
      · rw [if_pos hv]; exact ft_jn_abs (hσ i h1 v hv) (h2 v hv)
      · rw [if_neg hv]
    · rw [if_neg q]
theorem sv_step_abs {n : Nat} {p : Nat → Nat → Int32} {i : Nat} {σ : sv_S} (hσ : sv_ok σ) (h : sv_abs n p i σ) : sv_step n p i σ = σ := by
  unfold sv_abs at h
  unfold sv_step
  by_cases c1 : p i 0 = 11
  · rw [if_pos c1]
  · rw [if_neg c1] at h ⊢
    by_cases c2 : p i 0 = 9
    · rw [if_pos c2] at h ⊢; exact sv_o_abs hσ h
    · rw [if_neg c2] at h ⊢
      by_cases c3 : p i 0 = 7 ∨ p i 0 = 8
      · rw [if_pos c3] at h ⊢
        rw [sv_o_abs hσ h.1]
        exact sv_o_abs hσ h.2
      · rw [if_neg c3] at h ⊢; exact sv_o_abs hσ h
/-- a state that comes: good, larger; it is absorbed then -/
theorem sv_o_grow {n t : Nat} {oc : Option sv_F} {σ : sv_S} (hσ : sv_ok σ) (hc : ∀ c, oc = some c → sv_fok c) : sv_ok (sv_o n t oc σ) ∧ sv_le σ (sv_o n t oc σ) ∧ sv_ab n t oc (sv_o n t oc σ) ∧ (∀ i, i ≠ t → sv_o n t oc σ i = σ i) ∧ (¬ t < n → sv_o n t oc σ = σ) := by
  cases oc with
  | none => exact ⟨hσ, sv_le_refl hσ, fun c h => (by cases h), fun _ _ => rfl, fun _ => rfl⟩
  | some c =>
    have hc := hc c rfl
    have hne : ∀ i, ¬ (i = t ∧ t < n) → sv_jn n t c σ i = σ i := fun i q => by unfold sv_jn; rw [if_neg q]
    have heq : t < n → sv_jn n t c σ t = (true, if (σ t).1 = true then fun v => if v < 4 then ft_jn ((σ t).2 v) (c v) else (σ t).2 v else c) := fun q => by unfold sv_jn; rw [if_pos ⟨rfl, q⟩]
    refine ⟨fun i hi v hv => ?_, fun i hi => ?_, fun c' e ht => ?_, fun i hi => hne i (fun q => hi q.1), fun q => funext (fun i => hne i (fun z => q z.2))⟩
    · have hi : (sv_jn n t c σ i).1 = true := hi
      show ft_ok ((sv_jn n t c σ i).2 v)
      by_cases q : i = t ∧ t < n
      · obtain ⟨rfl, ht⟩ := q
        rw [heq ht]
        show ft_ok ((if (σ i).1 = true then _ else _ : sv_F) v)
        by_cases l : (σ i).1 = true
        · rw [if_pos l]
          show ft_ok (if v < 4 then _ else _)
          rw [if_pos hv]; exact ft_jn_ok (hσ i l v hv) (hc v hv)
        · rw [if_neg l]; exact hc v hv
      · rw [hne i q] at hi ⊢; exact hσ i hi v hv
    · show (sv_jn n t c σ i).1 = true ∧ sv_fle (σ i).2 (sv_jn n t c σ i).2
      by_cases q : i = t ∧ t < n
      · obtain ⟨rfl, ht⟩ := q
        rw [heq ht]
        refine ⟨rfl, fun v hv => ?_⟩
        show ft_le _ ((if (σ i).1 = true then _ else _ : sv_F) v)
        rw [if_pos hi]
        show ft_le _ (if v < 4 then _ else _)
        rw [if_pos hv]; exact (ft_le_jn (hσ i hi v hv) (hc v hv)).1
      · rw [hne i q]; exact ⟨hi, sv_fle_refl (hσ i hi)⟩
    · cases e
      show (sv_jn n t c σ t).1 = true ∧ sv_fle c (sv_jn n t c σ t).2
      rw [heq ht]
      refine ⟨rfl, fun v hv => ?_⟩
      show ft_le _ ((if (σ t).1 = true then _ else _ : sv_F) v)
      by_cases l : (σ t).1 = true
      · rw [if_pos l]
        show ft_le _ (if v < 4 then _ else _)
        rw [if_pos hv]; exact (ft_le_jn (hσ t l v hv) (hc v hv)).2
      · rw [if_neg l]; exact ft_le_refl (hc v hv)
theorem sv_ab_mono {n t : Nat} {oc : Option sv_F} {σ τ : sv_S} (h : sv_ab n t oc σ) (hl : sv_le σ τ) : sv_ab n t oc τ := fun c e ht => by
  obtain ⟨h1, h2⟩ := h c e ht
  obtain ⟨h3, h4⟩ := hl t h1
  exact ⟨h3, sv_fle_trans h2 h4⟩
theorem sv_abs_mono {n : Nat} {p : Nat → Nat → Int32} {i : Nat} {σ τ : sv_S} (h : sv_abs n p i σ) (hl : sv_le σ τ) (e : τ i = σ i) : sv_abs n p i τ := by
  unfold sv_abs at h ⊢
  rw [e]
  by_cases c1 : p i 0 = 11
  · rw [if_pos c1]; trivial
  · rw [if_neg c1] at h ⊢
    by_cases c2 : p i 0 = 9
    · rw [if_pos c2] at h ⊢; exact sv_ab_mono h hl
    · rw [if_neg c2] at h ⊢
      by_cases c3 : p i 0 = 7 ∨ p i 0 = 8
      · rw [if_pos c3] at h ⊢; exact ⟨sv_ab_mono h.1 hl, sv_ab_mono h.2 hl⟩
      · rw [if_neg c3] at h ⊢; exact sv_ab_mono h hl
theorem sv_up_ok {f : sv_F} {a : Nat} {x : ft_T} (hf : sv_fok f) (hx : ft_ok x) : sv_fok (sv_up f a x) := fun v hv => by
  unfold sv_up
  by_cases e : v = a
  · rw [if_pos e]; exact hx
  · rw [if_neg e]; exact hf v hv
def kp_n (kept : Int32) (t : Nat) : Prop := t < 8 ∧ ∀ s, s < 8 → nI s &&& kept = nI (s &&& t)
theorem kp_2 : kp_n 2 2 := ⟨by decide, by decide +kernel⟩
theorem kp_1 : kp_n 1 1 := ⟨by decide, by decide +kernel⟩
theorem kp_5 : kp_n 5 5 := ⟨by decide, by decide +kernel⟩
theorem kp_6 : kp_n 6 6 := ⟨by decide, by decide +kernel⟩
theorem sv_keep_ok {f c : sv_F} {a t : Nat} {kept : Int32} (hf : sv_fok f) (ha : a < 4) (hk : kp_n kept t) (h : sv_keep f a kept = some c) : sv_fok c ∧ c a = ft_keep (f a) kept ∧ ∃ s, s < 8 ∧ (c a).2.2 = nI s ∧ s &&& t = s := by
  unfold sv_keep at h
  by_cases e : (ft_keep (f a) kept).2.2 = 0
  · rw [if_pos e] at h; cases h
  · rw [if_neg e] at h
    cases h
    have hca : sv_up f a (ft_keep (f a) kept) a = ft_keep (f a) kept := if_pos rfl
    rcases ft_keep_ok (hf a ha) hk.1 hk.2 with q | ⟨q1, q2⟩
    · exact absurd q e
    · exact ⟨sv_up_ok hf q1, hca, by rw [hca]; exact q2⟩
theorem sv_thru_ok {q : Nat → Int32} {f c : sv_F} (hq : in_ok q) (hf : sv_fok f) (h : sv_thru q f = some c) : sv_fok c := by
  obtain ⟨o, ho, h0, h1, h2, h3⟩ := hq
  unfold sv_thru at h
  have cl : ∀ {a : Nat} {x : Int32}, a < 4 → x = nI a → x.toNatClampNeg < 4 := fun {a} {x} ha e => by rw [e, nI_clamp (by omega)]; exact ha
  have oeq : ∀ k : Nat, k < 13 → (q 0 = nI k ↔ o = k) := fun k hk => by rw [h0]; exact nI_eq (by omega) (by omega)
  by_cases c0 : q 0 = 0
  · rw [if_pos c0] at h; cases h; exact sv_up_ok hf (ft_num_ok _)
  · rw [if_neg c0] at h
    by_cases c1 : q 0 = 1
    · rw [if_pos c1] at h; cases h
      have e : o = 1 := (oeq 1 (by decide)).mp c1
      subst e
      obtain ⟨b, hb, eb⟩ := h2
      exact sv_up_ok hf (hf _ (cl hb eb))
    · rw [if_neg c1] at h
      by_cases c2 : q 0 = 2 ∨ q 0 = 3 ∨ q 0 = 4
      · rw [if_pos c2] at h; cases h
        have e : 2 ≤ o ∧ o ≤ 4 := by
          rcases c2 with c | c | c
          · have := (oeq 2 (by decide)).mp c; omega
          · have := (oeq 3 (by decide)).mp c; omega
          · have := (oeq 4 (by decide)).mp c; omega
        rw [if_pos (by omega)] at h2 h3
        obtain ⟨b, hb, eb⟩ := h2
        obtain ⟨d, hd, ed⟩ := h3
        exact sv_up_ok hf (ft_res_ok (hf _ (cl hb eb)) (hf _ (cl hd ed)) (by rcases c2 with c | c | c <;> simp [c]))
      · rw [if_neg c2] at h
        by_cases c5 : q 0 = 5
        · rw [if_pos c5] at h
          have e : o = 5 := (oeq 5 (by decide)).mp c5
          subst e
          obtain ⟨b, hb, eb⟩ := h2
          obtain ⟨d, hd, ed⟩ := h3
          cases hk : sv_keep f (q 3).toNatClampNeg 5 with
          | none => rw [hk] at h; cases h
          | some k =>
            rw [hk] at h
            cases h
            obtain ⟨k1, k2, s, k3, k4, k5⟩ := sv_keep_ok hf (cl hd ed) kp_5 hk
            refine sv_up_ok k1 (ft_res_ok (k1 _ (cl hb eb)) (k1 _ (cl hd ed)) (Or.inr (Or.inr (Or.inr ⟨rfl, ?_⟩))))
            rw [k4]
            exact (by decide +kernel : ∀ s, s < 8 → s &&& 5 = s → nI s &&& 2 = 0) s k3 k5
        · rw [if_neg c5] at h
          by_cases c6 : q 0 = 6
          · rw [if_pos c6] at h; cases h; exact sv_up_ok hf ft_any_ok
          · rw [if_neg c6] at h; cases h; exact hf
theorem in_a {q : Nat → Int32} (hq : in_ok q) (h : q 0 = 7 ∨ q 0 = 8) : (q 1).toNatClampNeg < 4 := by
  obtain ⟨o, ho, h0, h1, -⟩ := hq
  have e : o = 7 ∨ o = 8 := by
    rw [h0] at h
    rcases h with h | h
    · exact Or.inl ((nI_eq (b := 7) (by omega) (by omega)).mp h)
    · exact Or.inr ((nI_eq (b := 8) (by omega) (by omega)).mp h)
  rw [if_neg (by omega)] at h1
  obtain ⟨a, ha, ea⟩ := h1
  rw [ea, nI_clamp (by omega)]; exact ha
theorem kp_way (o : Int32) : ∃ t, kp_n (sv_way o) t := by
  unfold sv_way
  by_cases e : o = 7
  · rw [if_pos e]; exact ⟨2, kp_2⟩
  · rw [if_neg e]; exact ⟨1, kp_1⟩
theorem kp_oth (o : Int32) : ∃ t, kp_n (sv_oth o) t := by
  unfold sv_oth
  by_cases e : o = 7
  · rw [if_pos e]; exact ⟨5, kp_5⟩
  · rw [if_neg e]; exact ⟨6, kp_6⟩
/-- a step: good, larger; where the instruction's own state didn't grow, all that comes of it is absorbed -/
theorem sv_step_grow {n : Nat} {p : Nat → Nat → Int32} {i : Nat} {σ : sv_S} (hσ : sv_ok σ) (hl : (σ i).1 = true) (hp : in_ok (p i)) : sv_ok (sv_step n p i σ) ∧ sv_le σ (sv_step n p i σ) ∧ (sv_step n p i σ i = σ i → sv_abs n p i (sv_step n p i σ)) := by
  unfold sv_step sv_abs
  by_cases c1 : p i 0 = 11
  · rw [if_pos c1]; exact ⟨hσ, sv_le_refl hσ, fun _ => by rw [if_pos c1]; trivial⟩
  · rw [if_neg c1]
    by_cases c2 : p i 0 = 9
    · rw [if_pos c2]
      obtain ⟨a1, a2, a3, -⟩ := sv_o_grow (n := n) (t := (p i 3).toNatClampNeg) (oc := some (σ i).2) hσ (fun c e => by cases e; exact hσ i hl)
      refine ⟨a1, a2, fun e => ?_⟩
      rw [if_neg c1, if_pos c2, e]; exact a3
    · rw [if_neg c2]
      by_cases c3 : p i 0 = 7 ∨ p i 0 = 8
      · rw [if_pos c3]
        obtain ⟨t1, kt1⟩ := kp_way (p i 0)
        obtain ⟨t2, kt2⟩ := kp_oth (p i 0)
        have ha := in_a hp c3
        obtain ⟨a1, a2, a3, a4, -⟩ := sv_o_grow (n := n) (t := (p i 3).toNatClampNeg) (oc := sv_keep (σ i).2 (p i 1).toNatClampNeg (sv_way (p i 0))) hσ (fun c e => (sv_keep_ok (hσ i hl) ha kt1 e).1)
        generalize hτ : sv_o n (p i 3).toNatClampNeg (sv_keep (σ i).2 (p i 1).toNatClampNeg (sv_way (p i 0))) σ = τ at *
        obtain ⟨b1, b2, b3, b4, -⟩ := sv_o_grow (n := n) (t := i + 1) (oc := sv_keep (τ i).2 (p i 1).toNatClampNeg (sv_oth (p i 0))) a1 (fun c e => (sv_keep_ok (a1 i (a2 i hl).1) ha kt2 e).1)
        refine ⟨b1, sv_le_trans a2 b2, fun e => ?_⟩
        have e1 : τ i = σ i := (b4 i (by omega)).symm.trans e
        rw [if_neg c1, if_neg c2, if_pos c3, e]
        refine ⟨sv_ab_mono a3 b2, ?_⟩
        rw [e1] at b3 ⊢
        exact b3
      · rw [if_neg c3]
        obtain ⟨a1, a2, a3, -⟩ := sv_o_grow (n := n) (t := i + 1) (oc := sv_thru (p i) (σ i).2) hσ (fun c e => sv_thru_ok hp (hσ i hl) e)
        refine ⟨a1, a2, fun e => ?_⟩
        rw [if_neg c1, if_neg c2, if_neg c3, e]; exact a3
/-! passes -/
def sv_pass (n : Nat) (p : Nat → Nat → Int32) : Nat → sv_S → sv_S
  | 0, σ => σ
  | k + 1, σ => if (sv_pass n p k σ k).1 = true then sv_step n p k (sv_pass n p k σ) else sv_pass n p k σ
def sv_it (n : Nat) (p : Nat → Nat → Int32) : Nat → sv_S → sv_S
  | 0, σ => σ
  | k + 1, σ => sv_pass n p n (sv_it n p k σ)
def sv_0 (n : Nat) : sv_S := fun i => (decide (i = 0 ∧ 0 < n), fun _ => (32, 0, 2))
/-- the solution -/
def sv_sol (n : Nat) (p : Nat → Nat → Int32) : sv_S := sv_it n p 2000 (sv_0 n)
theorem sv_0_ok (n : Nat) : sv_ok (sv_0 n) := fun _ _ _ _ => ft_zero_ok
theorem sv_pass_ok {n : Nat} {p : Nat → Nat → Int32} (hp : ∀ i, i < n → in_ok (p i)) {σ : sv_S} (hσ : sv_ok σ) : ∀ k, k ≤ n → sv_ok (sv_pass n p k σ) ∧ sv_le σ (sv_pass n p k σ)
  | 0, _ => ⟨hσ, sv_le_refl hσ⟩
  | k + 1, hk => by
    obtain ⟨h1, h2⟩ := sv_pass_ok hp hσ k (by omega)
    unfold sv_pass
    by_cases c : (sv_pass n p k σ k).1 = true
    · rw [if_pos c]
      obtain ⟨g1, g2, -⟩ := sv_step_grow (n := n) h1 c (hp k (by omega))
      exact ⟨g1, sv_le_trans h2 g2⟩
    · rw [if_neg c]; exact ⟨h1, h2⟩
theorem sv_it_ok {n : Nat} {p : Nat → Nat → Int32} (hp : ∀ i, i < n → in_ok (p i)) {σ : sv_S} (hσ : sv_ok σ) : ∀ k, sv_ok (sv_it n p k σ)
  | 0 => hσ
  | k + 1 => (sv_pass_ok hp (sv_it_ok hp hσ k) n (Nat.le_refl _)).1
theorem sv_it_fix {n : Nat} {p : Nat → Nat → Int32} {σ : sv_S} {k : Nat} (h : sv_pass n p n (sv_it n p k σ) = sv_it n p k σ) : ∀ j, k ≤ j → sv_it n p j σ = sv_it n p k σ := by
  intro j hj
  induction j with
  | zero => rw [show k = 0 by omega]
  | succ j ih =>
    rcases Nat.lt_or_ge j k with q | q
    · rw [show k = j + 1 by omega]
    · show sv_pass n p n (sv_it n p j σ) = _
      rw [ih q]; exact h
/-- all are absorbed: a pass changes nothing -/
theorem sv_pass_abs {n : Nat} {p : Nat → Nat → Int32} {σ : sv_S} (hσ : sv_ok σ) (h : ∀ i, i < n → (σ i).1 = true → sv_abs n p i σ) : ∀ k, k ≤ n → sv_pass n p k σ = σ
  | 0, _ => rfl
  | k + 1, hk => by
    unfold sv_pass
    rw [sv_pass_abs hσ h k (by omega)]
    by_cases c : (σ k).1 = true
    · rw [if_pos c]; exact sv_step_abs hσ (h k (by omega) c)
    · rw [if_neg c]
/-! a measure: passes end -/
def mu_4 (f : sv_F) : Nat := mu_f (f 0) + mu_f (f 1) + mu_f (f 2) + mu_f (f 3)
def mu_1 (x : Bool × sv_F) : Nat := if x.1 = true then mu_4 x.2 else 77
def mu_n (σ : sv_S) : Nat → Nat
  | 0 => 0
  | k + 1 => mu_n σ k + mu_1 (σ k)
theorem mu_4_le {f : sv_F} (h : sv_fok f) : mu_4 f ≤ 76 := by
  have h0 := mu_f_le (h 0 (by decide))
  have h1 := mu_f_le (h 1 (by decide))
  have h2 := mu_f_le (h 2 (by decide))
  have h3 := mu_f_le (h 3 (by decide))
  unfold mu_4
  omega
theorem mu_n_le {σ : sv_S} (hσ : sv_ok σ) : ∀ k, mu_n σ k ≤ 77 * k
  | 0 => Nat.le_refl _
  | k + 1 => by
    have := mu_n_le hσ k
    unfold mu_n mu_1
    by_cases c : (σ k).1 = true
    · rw [if_pos c]
      have := mu_4_le (hσ k c)
      omega
    · rw [if_neg c]; omega
/-- a coming state: the target's number falls, unless nothing changes -/
theorem mu_jn1 {n t : Nat} {c : sv_F} {σ : sv_S} (hσ : sv_ok σ) (hc : sv_fok c) (i : Nat) : mu_1 (sv_jn n t c σ i) ≤ mu_1 (σ i) ∧ (sv_jn n t c σ i ≠ σ i → mu_1 (sv_jn n t c σ i) < mu_1 (σ i)) := by
  unfold sv_jn
  by_cases q : i = t ∧ t < n
  · rw [if_pos q]
    obtain ⟨rfl, ht⟩ := q
    by_cases l : (σ i).1 = true
    · rw [if_pos l]
      unfold mu_1
      rw [if_pos rfl, if_pos l]
      have hm : ∀ v, v < 4 → mu_f (ft_jn ((σ i).2 v) (c v)) ≤ mu_f ((σ i).2 v) ∧ (ft_jn ((σ i).2 v) (c v) ≠ (σ i).2 v → mu_f (ft_jn ((σ i).2 v) (c v)) < mu_f ((σ i).2 v)) := fun v hv => by
        obtain ⟨a1, a2⟩ := mu_jn (hσ i l v hv) (hc v hv)
        exact ⟨a1, fun e => a2 (fun z => e (ft_jn_same (hσ i l v hv) (hc v hv) z.1 z.2))⟩
      have e4 : mu_4 (fun v => if v < 4 then ft_jn ((σ i).2 v) (c v) else (σ i).2 v) = mu_f (ft_jn ((σ i).2 0) (c 0)) + mu_f (ft_jn ((σ i).2 1) (c 1)) + mu_f (ft_jn ((σ i).2 2) (c 2)) + mu_f (ft_jn ((σ i).2 3) (c 3)) := rfl
      show mu_4 _ ≤ mu_4 _ ∧ (_ → mu_4 _ < mu_4 _)
      rw [e4]
      unfold mu_4
      have m0 := hm 0 (by decide)
      have m1 := hm 1 (by decide)
      have m2 := hm 2 (by decide)
      have m3 := hm 3 (by decide)
      refine ⟨by omega, fun e => ?_⟩
      have : ¬ (∀ v, v < 4 → ft_jn ((σ i).2 v) (c v) = (σ i).2 v) := fun z => e (Prod.ext l.symm (funext (fun v => by
        show (if v < 4 then _ else _) = _
        by_cases hv : v < 4
        · rw [if_pos hv]; exact z v hv
        · rw [if_neg hv])))
      by_cases z0 : ft_jn ((σ i).2 0) (c 0) = (σ i).2 0
      · by_cases z1 : ft_jn ((σ i).2 1) (c 1) = (σ i).2 1
        · by_cases z2 : ft_jn ((σ i).2 2) (c 2) = (σ i).2 2
          · by_cases z3 : ft_jn ((σ i).2 3) (c 3) = (σ i).2 3
            · exact absurd (fun v hv => by
                rcases (show v = 0 ∨ v = 1 ∨ v = 2 ∨ v = 3 by omega) with rfl | rfl | rfl | rfl
                · exact z0
                · exact z1
                · exact z2
                · exact z3) this
            · have := m3.2 z3; omega
          · have := m2.2 z2; omega
        · have := m1.2 z1; omega
      · have := m0.2 z0; omega
    · rw [if_neg l]
      unfold mu_1
      rw [if_pos rfl, if_neg l]
      have := mu_4_le hc
      exact ⟨by show mu_4 c ≤ 77; omega, fun _ => by show mu_4 c < 77; omega⟩
  · rw [if_neg q]; exact ⟨Nat.le_refl _, fun e => absurd rfl e⟩
theorem mu_o1 {n t : Nat} {oc : Option sv_F} {σ : sv_S} (hσ : sv_ok σ) (hc : ∀ c, oc = some c → sv_fok c) (i : Nat) : mu_1 (sv_o n t oc σ i) ≤ mu_1 (σ i) ∧ (sv_o n t oc σ i ≠ σ i → mu_1 (sv_o n t oc σ i) < mu_1 (σ i)) := by
  cases oc with
  | none => exact ⟨Nat.le_refl _, fun e => absurd rfl e⟩
  | some c => exact mu_jn1 hσ (hc c rfl) i
theorem mu_s1 {n : Nat} {p : Nat → Nat → Int32} {i : Nat} {σ : sv_S} (hσ : sv_ok σ) (hl : (σ i).1 = true) (hp : in_ok (p i)) (j : Nat) : mu_1 (sv_step n p i σ j) ≤ mu_1 (σ j) ∧ (sv_step n p i σ j ≠ σ j → mu_1 (sv_step n p i σ j) < mu_1 (σ j)) := by
  unfold sv_step
  by_cases c1 : p i 0 = 11
  · rw [if_pos c1]; exact ⟨Nat.le_refl _, fun e => absurd rfl e⟩
  · rw [if_neg c1]
    by_cases c2 : p i 0 = 9
    · rw [if_pos c2]; exact mu_o1 hσ (fun c e => by cases e; exact hσ i hl) j
    · rw [if_neg c2]
      by_cases c3 : p i 0 = 7 ∨ p i 0 = 8
      · rw [if_pos c3]
        obtain ⟨t1, kt1⟩ := kp_way (p i 0)
        obtain ⟨t2, kt2⟩ := kp_oth (p i 0)
        have ha := in_a hp c3
        obtain ⟨a1, a2, -⟩ := sv_o_grow (n := n) (t := (p i 3).toNatClampNeg) (oc := sv_keep (σ i).2 (p i 1).toNatClampNeg (sv_way (p i 0))) hσ (fun c e => (sv_keep_ok (hσ i hl) ha kt1 e).1)
        have m1 := mu_o1 (n := n) (t := (p i 3).toNatClampNeg) (oc := sv_keep (σ i).2 (p i 1).toNatClampNeg (sv_way (p i 0))) hσ (fun c e => (sv_keep_ok (hσ i hl) ha kt1 e).1) j
        generalize sv_o n (p i 3).toNatClampNeg (sv_keep (σ i).2 (p i 1).toNatClampNeg (sv_way (p i 0))) σ = τ at *
        have m2 := mu_o1 (n := n) (t := i + 1) (oc := sv_keep (τ i).2 (p i 1).toNatClampNeg (sv_oth (p i 0))) a1 (fun c e => (sv_keep_ok (a1 i (a2 i hl).1) ha kt2 e).1) j
        refine ⟨by omega, fun e => ?_⟩
        by_cases z : τ j = σ j
        · have := m2.2 (fun q => e (q.trans z)); omega
        · have := m1.2 z; omega
      · rw [if_neg c3]; exact mu_o1 hσ (fun c e => sv_thru_ok hp (hσ i hl) e) j
theorem mu_sum {σ τ : sv_S} (h : ∀ j, mu_1 (τ j) ≤ mu_1 (σ j)) : ∀ n, mu_n τ n ≤ mu_n σ n ∧ ∀ j, j < n → mu_1 (τ j) < mu_1 (σ j) → mu_n τ n < mu_n σ n
  | 0 => ⟨Nat.le_refl _, fun j hj => absurd hj (Nat.not_lt_zero _)⟩
  | n + 1 => by
    obtain ⟨h1, h2⟩ := mu_sum h n
    have h3 := h n
    refine ⟨by unfold mu_n; omega, fun j hj q => ?_⟩
    unfold mu_n
    by_cases e : j = n
    · subst e; omega
    · have := h2 j (by omega) q
      omega
/-! the class takes only what waits: the same states come -/
def sv_inv (n : Nat) (p : Nat → Nat → Int32) (σ : sv_S) (w : Nat → Bool) : Prop := sv_ok σ ∧ (∀ j, j < n → w j = true → (σ j).1 = true) ∧ ∀ j, j < n → (σ j).1 = true → w j = false → sv_abs n p j σ
theorem sv_inv_skip {n : Nat} {p : Nat → Nat → Int32} {σ : sv_S} {w : Nat → Bool} (h : sv_inv n p σ w) {i : Nat} (hi : i < n) (hw : w i = false) : (if (σ i).1 = true then sv_step n p i σ else σ) = σ := by
  by_cases c : (σ i).1 = true
  · rw [if_pos c]; exact sv_step_abs h.1 (h.2.2 i hi c hw)
  · rw [if_neg c]
theorem sv_inv_do {n : Nat} {p : Nat → Nat → Int32} {σ : sv_S} {w w' : Nat → Bool} (h : sv_inv n p σ w) {i : Nat} (hi : i < n) (hw : w i = true) (hp : in_ok (p i)) (h1 : ∀ j, j < n → w' j = false → sv_step n p i σ j = σ j ∧ (j = i ∨ w j = false)) (h2 : ∀ j, j < n → w' j = true → (sv_step n p i σ j).1 = true) : sv_inv n p (sv_step n p i σ) w' := by
  have hl := h.2.1 i hi hw
  obtain ⟨g1, g2, g3⟩ := sv_step_grow (n := n) h.1 hl hp
  refine ⟨g1, h2, fun j hj lj wj => ?_⟩
  obtain ⟨e, c⟩ := h1 j hj wj
  by_cases q : j = i
  · subst q; exact g3 e
  · rcases c with c | c
    · exact absurd c q
    · rw [e] at lj
      exact sv_abs_mono (h.2.2 j hj lj c) g2 e
theorem sv_inv_end {n : Nat} {p : Nat → Nat → Int32} {σ : sv_S} {w : Nat → Bool} (h : sv_inv n p σ w) (hw : ∀ j, j < n → w j = false) : sv_pass n p n σ = σ := sv_pass_abs h.1 (fun i hi l => h.2.2 i hi l (hw i hi)) n (Nat.le_refl _)
theorem sv_inv_0 {n : Nat} (hn : 0 < n) {p : Nat → Nat → Int32} {w : Nat → Bool} (h0 : w 0 = true) (hw : ∀ j, 0 < j → j < n → w j = false) : sv_inv n p (sv_0 n) w := by
  refine ⟨sv_0_ok n, fun j hj q => ?_, fun j hj l q => ?_⟩
  · by_cases e : j = 0
    · subst e; exact decide_eq_true ⟨rfl, hn⟩
    · rw [hw j (by omega) hj] at q; cases q
  · by_cases e : j = 0
    · subst e; rw [h0] at q; cases q
    · have : ¬ (j = 0 ∧ 0 < n) := fun z => e z.1
      have l : decide (j = 0 ∧ 0 < n) = true := l
      rw [decide_eq_false this] at l; cases l
end
section
/-! names: the classes, their fields, the methods' codes and names (by mknames.py out of the Statement) -/
abbrev Rn_0 : String := "FactFlow"
def Tn_0 : u_T := fun k => match k with
  | 0 => ("FactFlow", "program", "LFactFlow$Program;", true)
  | 1 => ("FactFlow", "solution", "LFactFlow$Solution;", true)
  | 2 => ("FactFlow", "inputs", "LFactFlow$Inputs;", true)
  | _ => ("FactFlow", "machine", "LFactFlow$Machine;", true)
def tn_0 : Nat → FieldType := fun k => match k with
  | 0 => .object "FactFlow$Program"
  | 1 => .object "FactFlow$Solution"
  | 2 => .object "FactFlow$Inputs"
  | _ => .object "FactFlow$Machine"
theorem tk_0 : ∀ k, k < 4 → parseFieldDescriptor (Tn_0 k).2.2.1 = some (tn_0 k) := by decide +kernel
theorem nn_0 : ∀ a, a < 4 → ∀ b, b < 4 → a ≠ b → (Tn_0 a).2.1 ≠ (Tn_0 b).2.1 := by decide +kernel
abbrev Rn_1 : String := "FactFlow$Program"
def Tn_1 : u_T := fun k => match k with
  | 0 => ("FactFlow$Program", "instructions", "[LFactFlow$Instruction;", true)
  | 1 => ("FactFlow$Program", "count", "I", false)
  | _ => ("FactFlow$Program", "result", "LFactFlow$Fact;", true)
def tn_1 : Nat → FieldType := fun k => match k with
  | 0 => .array (.object "FactFlow$Instruction")
  | 1 => .int
  | _ => .object "FactFlow$Fact"
theorem tk_1 : ∀ k, k < 3 → parseFieldDescriptor (Tn_1 k).2.2.1 = some (tn_1 k) := by decide +kernel
theorem nn_1 : ∀ a, a < 3 → ∀ b, b < 3 → a ≠ b → (Tn_1 a).2.1 ≠ (Tn_1 b).2.1 := by decide +kernel
abbrev Rn_2 : String := "FactFlow$Instruction"
def Tn_2 : u_T := fun k => match k with
  | 0 => ("FactFlow$Instruction", "operation", "I", false)
  | 1 => ("FactFlow$Instruction", "a", "I", false)
  | 2 => ("FactFlow$Instruction", "b", "I", false)
  | _ => ("FactFlow$Instruction", "c", "I", false)
def tn_2 : Nat → FieldType := fun k => match k with
  | 0 => .int
  | 1 => .int
  | 2 => .int
  | _ => .int
theorem tk_2 : ∀ k, k < 4 → parseFieldDescriptor (Tn_2 k).2.2.1 = some (tn_2 k) := by decide +kernel
theorem nn_2 : ∀ a, a < 4 → ∀ b, b < 4 → a ≠ b → (Tn_2 a).2.1 ≠ (Tn_2 b).2.1 := by decide +kernel
abbrev Rn_3 : String := "FactFlow$Fact"
def Tn_3 : u_T := fun k => match k with
  | 0 => ("FactFlow$Fact", "bits", "I", false)
  | 1 => ("FactFlow$Fact", "rest", "I", false)
  | _ => ("FactFlow$Fact", "signs", "I", false)
def tn_3 : Nat → FieldType := fun k => match k with
  | 0 => .int
  | 1 => .int
  | _ => .int
theorem tk_3 : ∀ k, k < 3 → parseFieldDescriptor (Tn_3 k).2.2.1 = some (tn_3 k) := by decide +kernel
theorem nn_3 : ∀ a, a < 3 → ∀ b, b < 3 → a ≠ b → (Tn_3 a).2.1 ≠ (Tn_3 b).2.1 := by decide +kernel
abbrev Rn_4 : String := "FactFlow$State"
def Tn_4 : u_T := fun k => match k with
  | 0 => ("FactFlow$State", "facts", "[LFactFlow$Fact;", true)
  | _ => ("FactFlow$State", "none", "Z", false)
def tn_4 : Nat → FieldType := fun k => match k with
  | 0 => .array (.object "FactFlow$Fact")
  | _ => .boolean
theorem tk_4 : ∀ k, k < 2 → parseFieldDescriptor (Tn_4 k).2.2.1 = some (tn_4 k) := by decide +kernel
theorem nn_4 : ∀ a, a < 2 → ∀ b, b < 2 → a ≠ b → (Tn_4 a).2.1 ≠ (Tn_4 b).2.1 := by decide +kernel
abbrev Rn_5 : String := "FactFlow$Solution"
def Tn_5 : u_T := fun k => match k with
  | 0 => ("FactFlow$Solution", "states", "[LFactFlow$State;", true)
  | 1 => ("FactFlow$Solution", "found", "Z", false)
  | 2 => ("FactFlow$Solution", "waiting", "[Z", true)
  | _ => ("FactFlow$Solution", "coming", "LFactFlow$State;", true)
def tn_5 : Nat → FieldType := fun k => match k with
  | 0 => .array (.object "FactFlow$State")
  | 1 => .boolean
  | 2 => .array .boolean
  | _ => .object "FactFlow$State"
theorem tk_5 : ∀ k, k < 4 → parseFieldDescriptor (Tn_5 k).2.2.1 = some (tn_5 k) := by decide +kernel
theorem nn_5 : ∀ a, a < 4 → ∀ b, b < 4 → a ≠ b → (Tn_5 a).2.1 ≠ (Tn_5 b).2.1 := by decide +kernel
abbrev Rn_6 : String := "FactFlow$Inputs"
def Tn_6 : u_T := fun k => match k with
  | 0 => ("FactFlow$Inputs", "numbers", "[I", true)
  | _ => ("FactFlow$Inputs", "count", "I", false)
def tn_6 : Nat → FieldType := fun k => match k with
  | 0 => .array .int
  | _ => .int
theorem tk_6 : ∀ k, k < 2 → parseFieldDescriptor (Tn_6 k).2.2.1 = some (tn_6 k) := by decide +kernel
theorem nn_6 : ∀ a, a < 2 → ∀ b, b < 2 → a ≠ b → (Tn_6 a).2.1 ≠ (Tn_6 b).2.1 := by decide +kernel
abbrev Rn_7 : String := "FactFlow$Machine"
def Tn_7 : u_T := fun k => match k with
  | 0 => ("FactFlow$Machine", "variables", "[I", true)
  | 1 => ("FactFlow$Machine", "prints", "[I", true)
  | 2 => ("FactFlow$Machine", "printed", "I", false)
  | 3 => ("FactFlow$Machine", "done", "I", false)
  | 4 => ("FactFlow$Machine", "following", "I", false)
  | _ => ("FactFlow$Machine", "taken", "I", false)
def tn_7 : Nat → FieldType := fun k => match k with
  | 0 => .array .int
  | 1 => .array .int
  | 2 => .int
  | 3 => .int
  | 4 => .int
  | _ => .int
theorem tk_7 : ∀ k, k < 6 → parseFieldDescriptor (Tn_7 k).2.2.1 = some (tn_7 k) := by decide +kernel
theorem nn_7 : ∀ a, a < 6 → ∀ b, b < 6 → a ≠ b → (Tn_7 a).2.1 ≠ (Tn_7 b).2.1 := by decide +kernel
abbrev Rn_8 : String := "FactFlowModel"
def Tn_8 : u_T := fun k => match k with
  | 0 => ("FactFlowModel", "many", "I", false)
  | 1 => ("FactFlowModel", "op", "[I", true)
  | 2 => ("FactFlowModel", "first", "[I", true)
  | 3 => ("FactFlowModel", "second", "[I", true)
  | 4 => ("FactFlowModel", "third", "[I", true)
  | 5 => ("FactFlowModel", "known", "Z", false)
  | 6 => ("FactFlowModel", "live", "[Z", true)
  | 7 => ("FactFlowModel", "bitsOf", "[I", true)
  | 8 => ("FactFlowModel", "restOf", "[I", true)
  | 9 => ("FactFlowModel", "signsOf", "[I", true)
  | 10 => ("FactFlowModel", "grown", "Z", false)
  | 11 => ("FactFlowModel", "k", "[I", true)
  | 12 => ("FactFlowModel", "\x72", "[I", true)
  | 13 => ("FactFlowModel", "s", "[I", true)
  | 14 => ("FactFlowModel", "newBits", "I", false)
  | 15 => ("FactFlowModel", "newRest", "I", false)
  | 16 => ("FactFlowModel", "newSigns", "I", false)
  | 17 => ("FactFlowModel", "given", "I", false)
  | 18 => ("FactFlowModel", "inputs", "[I", true)
  | 19 => ("FactFlowModel", "done", "I", false)
  | 20 => ("FactFlowModel", "place", "I", false)
  | 21 => ("FactFlowModel", "values", "[I", true)
  | 22 => ("FactFlowModel", "told", "I", false)
  | 23 => ("FactFlowModel", "out", "[I", true)
  | _ => ("FactFlowModel", "eaten", "I", false)
def tn_8 : Nat → FieldType := fun k => match k with
  | 0 => .int
  | 1 => .array .int
  | 2 => .array .int
  | 3 => .array .int
  | 4 => .array .int
  | 5 => .boolean
  | 6 => .array .boolean
  | 7 => .array .int
  | 8 => .array .int
  | 9 => .array .int
  | 10 => .boolean
  | 11 => .array .int
  | 12 => .array .int
  | 13 => .array .int
  | 14 => .int
  | 15 => .int
  | 16 => .int
  | 17 => .int
  | 18 => .array .int
  | 19 => .int
  | 20 => .int
  | 21 => .array .int
  | 22 => .int
  | 23 => .array .int
  | _ => .int
theorem tk_8 : ∀ k, k < 25 → parseFieldDescriptor (Tn_8 k).2.2.1 = some (tn_8 k) := by decide +kernel
theorem nn_8 : ∀ a, a < 25 → ∀ b, b < 25 → a ≠ b → (Tn_8 a).2.1 ≠ (Tn_8 b).2.1 := by decide +kernel
abbrev vwCl : List vw_C := [(Rn_0, Tn_0, 4), (Rn_1, Tn_1, 3), (Rn_2, Tn_2, 4), (Rn_3, Tn_3, 3), (Rn_4, Tn_4, 2), (Rn_5, Tn_5, 4), (Rn_6, Tn_6, 2), (Rn_7, Tn_7, 6), (Rn_8, Tn_8, 25)]
abbrev c_Ff_init : ByteArray := prog_1_method_1_code
def y_Ff_init : MethodName := ⟨"FactFlow", "<init>", "()V"⟩
abbrev c_Pr_init : ByteArray := prog_6_method_1_code
def y_Pr_init : MethodName := ⟨"FactFlow$Program", "<init>", "()V"⟩
abbrev c_Fa_init : ByteArray := prog_2_method_1_code
def y_Fa_init : MethodName := ⟨"FactFlow$Fact", "<init>", "()V"⟩
abbrev c_In_init : ByteArray := prog_4_method_1_code
def y_In_init : MethodName := ⟨"FactFlow$Instruction", "<init>", "()V"⟩
abbrev c_So_init : ByteArray := prog_7_method_1_code
def y_So_init : MethodName := ⟨"FactFlow$Solution", "<init>", "()V"⟩
abbrev c_St_init : ByteArray := prog_8_method_1_code
def y_St_init : MethodName := ⟨"FactFlow$State", "<init>", "()V"⟩
abbrev c_Ip_init : ByteArray := prog_3_method_1_code
def y_Ip_init : MethodName := ⟨"FactFlow$Inputs", "<init>", "()V"⟩
abbrev c_Ma_init : ByteArray := prog_5_method_1_code
def y_Ma_init : MethodName := ⟨"FactFlow$Machine", "<init>", "()V"⟩
abbrev c_Ff_add : ByteArray := prog_1_method_2_code
def y_Ff_add : MethodName := ⟨"FactFlow", "add", "(IIII)I"⟩
abbrev c_In_isTold : ByteArray := prog_4_method_2_code
def y_In_isTold : MethodName := ⟨"FactFlow$Instruction", "isTold", "(IIII)Z"⟩
abbrev c_In_usesA : ByteArray := prog_4_method_3_code
def y_In_usesA : MethodName := ⟨"FactFlow$Instruction", "usesA", "(I)Z"⟩
abbrev c_Ff_isVariable : ByteArray := prog_1_method_21_code
def y_Ff_isVariable : MethodName := ⟨"FactFlow", "isVariable", "(I)Z"⟩
abbrev c_In_usesB : ByteArray := prog_4_method_4_code
def y_In_usesB : MethodName := ⟨"FactFlow$Instruction", "usesB", "(I)Z"⟩
abbrev c_In_calculates : ByteArray := prog_4_method_6_code
def y_In_calculates : MethodName := ⟨"FactFlow$Instruction", "calculates", "(I)Z"⟩
abbrev c_In_jumps : ByteArray := prog_4_method_7_code
def y_In_jumps : MethodName := ⟨"FactFlow$Instruction", "jumps", "(I)Z"⟩
abbrev c_In_become : ByteArray := prog_4_method_8_code
def y_In_become : MethodName := ⟨"FactFlow$Instruction", "become", "(IIII)V"⟩
abbrev c_In_usesC : ByteArray := prog_4_method_5_code
def y_In_usesC : MethodName := ⟨"FactFlow$Instruction", "usesC", "(I)Z"⟩
abbrev c_Ff_put : ByteArray := prog_1_method_3_code
def y_Ff_put : MethodName := ⟨"FactFlow", "put", "(IIIII)Z"⟩
abbrev c_Pr_has : ByteArray := prog_6_method_2_code
def y_Pr_has : MethodName := ⟨"FactFlow$Program", "has", "(I)Z"⟩
abbrev c_Ff_clear : ByteArray := prog_1_method_4_code
def y_Ff_clear : MethodName := ⟨"FactFlow", "clear", "()V"⟩
abbrev c_Ff_length : ByteArray := prog_1_method_5_code
def y_Ff_length : MethodName := ⟨"FactFlow", "length", "()I"⟩
abbrev c_Ff_code : ByteArray := prog_1_method_6_code
def y_Ff_code : MethodName := ⟨"FactFlow", "code", "(II)I"⟩
abbrev c_In_partOf : ByteArray := prog_4_method_9_code
def y_In_partOf : MethodName := ⟨"FactFlow$Instruction", "partOf", "(I)I"⟩
abbrev c_Ff_reached : ByteArray := prog_1_method_7_code
def y_Ff_reached : MethodName := ⟨"FactFlow", "reached", "(I)Z"⟩
abbrev c_So_find : ByteArray := prog_7_method_2_code
def y_So_find : MethodName := ⟨"FactFlow$Solution", "find", "(LFactFlow$Program;)V"⟩
abbrev c_So_begin : ByteArray := prog_7_method_3_code
def y_So_begin : MethodName := ⟨"FactFlow$Solution", "begin", "()V"⟩
abbrev c_St_becomeZeros : ByteArray := prog_8_method_2_code
def y_St_becomeZeros : MethodName := ⟨"FactFlow$State", "becomeZeros", "()V"⟩
abbrev c_Fa_becomeNumber : ByteArray := prog_2_method_2_code
def y_Fa_becomeNumber : MethodName := ⟨"FactFlow$Fact", "becomeNumber", "(I)V"⟩
abbrev c_Fa_reduce : ByteArray := prog_2_method_8_code
def y_Fa_reduce : MethodName := ⟨"FactFlow$Fact", "reduce", "()V"⟩
abbrev c_So_carry : ByteArray := prog_7_method_4_code
def y_So_carry : MethodName := ⟨"FactFlow$Solution", "carry", "(LFactFlow$Program;I)V"⟩
abbrev c_St_becomeSame : ByteArray := prog_8_method_3_code
def y_St_becomeSame : MethodName := ⟨"FactFlow$State", "becomeSame", "(LFactFlow$State;)V"⟩
abbrev c_Fa_becomeSame : ByteArray := prog_2_method_4_code
def y_Fa_becomeSame : MethodName := ⟨"FactFlow$Fact", "becomeSame", "(LFactFlow$Fact;)V"⟩
abbrev c_So_arrive : ByteArray := prog_7_method_5_code
def y_So_arrive : MethodName := ⟨"FactFlow$Solution", "arrive", "(LFactFlow$Program;I)V"⟩
abbrev c_St_joinWith : ByteArray := prog_8_method_6_code
def y_St_joinWith : MethodName := ⟨"FactFlow$State", "joinWith", "(LFactFlow$State;)Z"⟩
abbrev c_Fa_joinWith : ByteArray := prog_2_method_7_code
def y_Fa_joinWith : MethodName := ⟨"FactFlow$Fact", "joinWith", "(LFactFlow$Fact;)Z"⟩
abbrev c_Ig_numberOfTrailingZeros : ByteArray := prog_11_method_48_code
def y_Ig_numberOfTrailingZeros : MethodName := ⟨"java/lang/Integer", "numberOfTrailingZeros", "(I)I"⟩
abbrev c_Fa_lastBits : ByteArray := prog_2_method_9_code
def y_Fa_lastBits : MethodName := ⟨"FactFlow$Fact", "lastBits", "(II)I"⟩
abbrev c_In_jumpSigns : ByteArray := prog_4_method_10_code
def y_In_jumpSigns : MethodName := ⟨"FactFlow$Instruction", "jumpSigns", "()I"⟩
abbrev c_St_keepSigns : ByteArray := prog_8_method_4_code
def y_St_keepSigns : MethodName := ⟨"FactFlow$State", "keepSigns", "(II)V"⟩
abbrev c_Fa_keepSigns : ByteArray := prog_2_method_6_code
def y_Fa_keepSigns : MethodName := ⟨"FactFlow$Fact", "keepSigns", "(I)V"⟩
abbrev c_St_goThrough : ByteArray := prog_8_method_5_code
def y_St_goThrough : MethodName := ⟨"FactFlow$State", "goThrough", "(LFactFlow$Instruction;)V"⟩
abbrev c_Fa_becomeResult : ByteArray := prog_2_method_5_code
def y_Fa_becomeResult : MethodName := ⟨"FactFlow$Fact", "becomeResult", "(ILFactFlow$Fact;LFactFlow$Fact;)V"⟩
abbrev c_Fa_productBits : ByteArray := prog_2_method_11_code
def y_Fa_productBits : MethodName := ⟨"FactFlow$Fact", "productBits", "(LFactFlow$Fact;LFactFlow$Fact;)I"⟩
abbrev c_Fa_otherBits : ByteArray := prog_2_method_10_code
def y_Fa_otherBits : MethodName := ⟨"FactFlow$Fact", "otherBits", "(ILFactFlow$Fact;LFactFlow$Fact;)I"⟩
abbrev c_Ff_calculated : ByteArray := prog_1_method_22_code
def y_Ff_calculated : MethodName := ⟨"FactFlow", "calculated", "(III)I"⟩
abbrev c_Fa_signTable : ByteArray := prog_2_method_12_code
def y_Fa_signTable : MethodName := ⟨"FactFlow$Fact", "signTable", "(I)[I"⟩
abbrev c_Fa_resultSigns : ByteArray := prog_2_method_13_code
def y_Fa_resultSigns : MethodName := ⟨"FactFlow$Fact", "resultSigns", "([III)I"⟩
abbrev c_Fa_becomeAnything : ByteArray := prog_2_method_3_code
def y_Fa_becomeAnything : MethodName := ⟨"FactFlow$Fact", "becomeAnything", "()V"⟩
abbrev c_Ff_comesTo : ByteArray := prog_1_method_20_code
def y_Ff_comesTo : MethodName := ⟨"FactFlow", "comesTo", "(I)Z"⟩
abbrev c_Ff_bits : ByteArray := prog_1_method_8_code
def y_Ff_bits : MethodName := ⟨"FactFlow", "bits", "(II)I"⟩
abbrev c_Ff_rest : ByteArray := prog_1_method_9_code
def y_Ff_rest : MethodName := ⟨"FactFlow", "rest", "(II)I"⟩
abbrev c_Ff_signs : ByteArray := prog_1_method_10_code
def y_Ff_signs : MethodName := ⟨"FactFlow", "signs", "(II)I"⟩
abbrev c_Ff_rewrite : ByteArray := prog_1_method_11_code
def y_Ff_rewrite : MethodName := ⟨"FactFlow", "rewrite", "()I"⟩
abbrev c_Pr_improve : ByteArray := prog_6_method_3_code
def y_Pr_improve : MethodName := ⟨"FactFlow$Program", "improve", "(ILFactFlow$State;)Z"⟩
abbrev c_Pr_stopInstead : ByteArray := prog_6_method_4_code
def y_Pr_stopInstead : MethodName := ⟨"FactFlow$Program", "stopInstead", "(LFactFlow$Instruction;)Z"⟩
abbrev c_Pr_goInstead : ByteArray := prog_6_method_5_code
def y_Pr_goInstead : MethodName := ⟨"FactFlow$Program", "goInstead", "(LFactFlow$Instruction;II)Z"⟩
abbrev c_Pr_setInstead : ByteArray := prog_6_method_6_code
def y_Pr_setInstead : MethodName := ⟨"FactFlow$Program", "setInstead", "(LFactFlow$Instruction;LFactFlow$Fact;)Z"⟩
abbrev c_Ff_input : ByteArray := prog_1_method_12_code
def y_Ff_input : MethodName := ⟨"FactFlow", "input", "(I)Z"⟩
abbrev c_Ip_take : ByteArray := prog_3_method_2_code
def y_Ip_take : MethodName := ⟨"FactFlow$Inputs", "take", "(I)Z"⟩
abbrev c_Ff_dry : ByteArray := prog_1_method_13_code
def y_Ff_dry : MethodName := ⟨"FactFlow", "dry", "()V"⟩
abbrev c_Ff_run : ByteArray := prog_1_method_14_code
def y_Ff_run : MethodName := ⟨"FactFlow", "run", "(I)I"⟩
abbrev c_Ma_execute : ByteArray := prog_5_method_2_code
def y_Ma_execute : MethodName := ⟨"FactFlow$Machine", "execute", "(LFactFlow$Program;LFactFlow$Inputs;I)I"⟩
abbrev c_Ma_begin : ByteArray := prog_5_method_3_code
def y_Ma_begin : MethodName := ⟨"FactFlow$Machine", "begin", "()V"⟩
abbrev c_Ma_change : ByteArray := prog_5_method_4_code
def y_Ma_change : MethodName := ⟨"FactFlow$Machine", "change", "(LFactFlow$Instruction;LFactFlow$Inputs;)V"⟩
abbrev c_Ip_numberOrZero : ByteArray := prog_3_method_3_code
def y_Ip_numberOrZero : MethodName := ⟨"FactFlow$Inputs", "numberOrZero", "(I)I"⟩
abbrev c_Ma_print : ByteArray := prog_5_method_5_code
def y_Ma_print : MethodName := ⟨"FactFlow$Machine", "print", "(I)V"⟩
abbrev c_Ma_placeBehind : ByteArray := prog_5_method_6_code
def y_Ma_placeBehind : MethodName := ⟨"FactFlow$Machine", "placeBehind", "(LFactFlow$Instruction;I)I"⟩
abbrev c_Ff_steps : ByteArray := prog_1_method_15_code
def y_Ff_steps : MethodName := ⟨"FactFlow", "steps", "()I"⟩
abbrev c_Ff_next : ByteArray := prog_1_method_16_code
def y_Ff_next : MethodName := ⟨"FactFlow", "next", "()I"⟩
abbrev c_Ff_variable : ByteArray := prog_1_method_17_code
def y_Ff_variable : MethodName := ⟨"FactFlow", "variable", "(I)I"⟩
abbrev c_Ff_outputs : ByteArray := prog_1_method_18_code
def y_Ff_outputs : MethodName := ⟨"FactFlow", "outputs", "()I"⟩
abbrev c_Ff_output : ByteArray := prog_1_method_19_code
def y_Ff_output : MethodName := ⟨"FactFlow", "output", "(I)I"⟩
abbrev c_Mo_init : ByteArray := prog_10_method_1_code
def y_Mo_init : MethodName := ⟨"FactFlowModel", "<init>", "()V"⟩
abbrev c_Mo_add : ByteArray := prog_10_method_9_code
def y_Mo_add : MethodName := ⟨"FactFlowModel", "add", "(IIII)I"⟩
abbrev c_Mo_wrong : ByteArray := prog_10_method_6_code
def y_Mo_wrong : MethodName := ⟨"FactFlowModel", "wrong", "(IIII)Z"⟩
abbrev c_Mo_usesFirst : ByteArray := prog_10_method_3_code
def y_Mo_usesFirst : MethodName := ⟨"FactFlowModel", "usesFirst", "(I)Z"⟩
abbrev c_Mo_isVariable : ByteArray := prog_10_method_2_code
def y_Mo_isVariable : MethodName := ⟨"FactFlowModel", "isVariable", "(I)Z"⟩
abbrev c_Mo_usesSecond : ByteArray := prog_10_method_4_code
def y_Mo_usesSecond : MethodName := ⟨"FactFlowModel", "usesSecond", "(I)Z"⟩
abbrev c_Mo_jumps : ByteArray := prog_10_method_5_code
def y_Mo_jumps : MethodName := ⟨"FactFlowModel", "jumps", "(I)Z"⟩
abbrev c_Mo_place : ByteArray := prog_10_method_8_code
def y_Mo_place : MethodName := ⟨"FactFlowModel", "place", "(IIIII)Z"⟩
abbrev c_Mo_usesThird : ByteArray := prog_10_method_7_code
def y_Mo_usesThird : MethodName := ⟨"FactFlowModel", "usesThird", "(I)Z"⟩
abbrev c_Mo_put : ByteArray := prog_10_method_11_code
def y_Mo_put : MethodName := ⟨"FactFlowModel", "put", "(IIIII)Z"⟩
abbrev c_Mo_none : ByteArray := prog_10_method_10_code
def y_Mo_none : MethodName := ⟨"FactFlowModel", "none", "(I)Z"⟩
abbrev c_Mo_clear : ByteArray := prog_10_method_12_code
def y_Mo_clear : MethodName := ⟨"FactFlowModel", "clear", "()V"⟩
abbrev c_Mo_length : ByteArray := prog_10_method_13_code
def y_Mo_length : MethodName := ⟨"FactFlowModel", "length", "()I"⟩
abbrev c_Mo_code : ByteArray := prog_10_method_14_code
def y_Mo_code : MethodName := ⟨"FactFlowModel", "code", "(II)I"⟩
abbrev c_Mo_reached : ByteArray := prog_10_method_36_code
def y_Mo_reached : MethodName := ⟨"FactFlowModel", "reached", "(I)Z"⟩
abbrev c_Mo_solve : ByteArray := prog_10_method_35_code
def y_Mo_solve : MethodName := ⟨"FactFlowModel", "solve", "()V"⟩
abbrev c_Mo_result : ByteArray := prog_10_method_20_code
def y_Mo_result : MethodName := ⟨"FactFlowModel", "result", "(III)V"⟩
abbrev c_Mo_take : ByteArray := prog_10_method_21_code
def y_Mo_take : MethodName := ⟨"FactFlowModel", "take", "(I)V"⟩
abbrev c_Mo_join : ByteArray := prog_10_method_33_code
def y_Mo_join : MethodName := ⟨"FactFlowModel", "join", "(I)V"⟩
abbrev c_Mo_joinFact : ByteArray := prog_10_method_32_code
def y_Mo_joinFact : MethodName := ⟨"FactFlowModel", "joinFact", "(II)V"⟩
abbrev c_Mo_least : ByteArray := prog_10_method_18_code
def y_Mo_least : MethodName := ⟨"FactFlowModel", "least", "(II)I"⟩
abbrev c_Mo_zeros : ByteArray := prog_10_method_16_code
def y_Mo_zeros : MethodName := ⟨"FactFlowModel", "zeros", "(I)I"⟩
abbrev c_Mo_cut : ByteArray := prog_10_method_17_code
def y_Mo_cut : MethodName := ⟨"FactFlowModel", "cut", "(II)I"⟩
abbrev c_Mo_pass : ByteArray := prog_10_method_34_code
def y_Mo_pass : MethodName := ⟨"FactFlowModel", "pass", "(I)V"⟩
abbrev c_Mo_load : ByteArray := prog_10_method_29_code
def y_Mo_load : MethodName := ⟨"FactFlowModel", "load", "(I)V"⟩
abbrev c_Mo_only : ByteArray := prog_10_method_30_code
def y_Mo_only : MethodName := ⟨"FactFlowModel", "only", "(II)Z"⟩
abbrev c_Mo_reduced : ByteArray := prog_10_method_19_code
def y_Mo_reduced : MethodName := ⟨"FactFlowModel", "reduced", "()Z"⟩
abbrev c_Mo_sign : ByteArray := prog_10_method_15_code
def y_Mo_sign : MethodName := ⟨"FactFlowModel", "sign", "(I)I"⟩
abbrev c_Mo_worked : ByteArray := prog_10_method_31_code
def y_Mo_worked : MethodName := ⟨"FactFlowModel", "worked", "(I)Z"⟩
abbrev c_Mo_reckon : ByteArray := prog_10_method_28_code
def y_Mo_reckon : MethodName := ⟨"FactFlowModel", "reckon", "(III)Z"⟩
abbrev c_Mo_signsBy : ByteArray := prog_10_method_26_code
def y_Mo_signsBy : MethodName := ⟨"FactFlowModel", "signsBy", "(III)I"⟩
abbrev c_Mo_pairSigns : ByteArray := prog_10_method_25_code
def y_Mo_pairSigns : MethodName := ⟨"FactFlowModel", "pairSigns", "(III)I"⟩
abbrev c_Mo_sumSigns : ByteArray := prog_10_method_22_code
def y_Mo_sumSigns : MethodName := ⟨"FactFlowModel", "sumSigns", "(II)I"⟩
abbrev c_Mo_lessSigns : ByteArray := prog_10_method_23_code
def y_Mo_lessSigns : MethodName := ⟨"FactFlowModel", "lessSigns", "(II)I"⟩
abbrev c_Mo_partSigns : ByteArray := prog_10_method_24_code
def y_Mo_partSigns : MethodName := ⟨"FactFlowModel", "partSigns", "(II)I"⟩
abbrev c_Mo_divided : ByteArray := prog_10_method_27_code
def y_Mo_divided : MethodName := ⟨"FactFlowModel", "divided", "(II)I"⟩
abbrev c_Mo_bits : ByteArray := prog_10_method_38_code
def y_Mo_bits : MethodName := ⟨"FactFlowModel", "bits", "(II)I"⟩
abbrev c_Mo_untold : ByteArray := prog_10_method_37_code
def y_Mo_untold : MethodName := ⟨"FactFlowModel", "untold", "(II)Z"⟩
abbrev c_Mo_rest : ByteArray := prog_10_method_39_code
def y_Mo_rest : MethodName := ⟨"FactFlowModel", "rest", "(II)I"⟩
abbrev c_Mo_signs : ByteArray := prog_10_method_40_code
def y_Mo_signs : MethodName := ⟨"FactFlowModel", "signs", "(II)I"⟩
abbrev c_Mo_rewrite : ByteArray := prog_10_method_42_code
def y_Mo_rewrite : MethodName := ⟨"FactFlowModel", "rewrite", "()I"⟩
abbrev c_Mo_written : ByteArray := prog_10_method_41_code
def y_Mo_written : MethodName := ⟨"FactFlowModel", "written", "(I)Z"⟩
abbrev c_Mo_input : ByteArray := prog_10_method_43_code
def y_Mo_input : MethodName := ⟨"FactFlowModel", "input", "(I)Z"⟩
abbrev c_Mo_dry : ByteArray := prog_10_method_44_code
def y_Mo_dry : MethodName := ⟨"FactFlowModel", "dry", "()V"⟩
abbrev c_Mo_run : ByteArray := prog_10_method_49_code
def y_Mo_run : MethodName := ⟨"FactFlowModel", "run", "(I)I"⟩
abbrev c_Mo_step : ByteArray := prog_10_method_48_code
def y_Mo_step : MethodName := ⟨"FactFlowModel", "step", "()I"⟩
abbrev c_Mo_worth : ByteArray := prog_10_method_47_code
def y_Mo_worth : MethodName := ⟨"FactFlowModel", "worth", "(III)I"⟩
abbrev c_Mo_read : ByteArray := prog_10_method_46_code
def y_Mo_read : MethodName := ⟨"FactFlowModel", "read", "(I)V"⟩
abbrev c_Mo_print : ByteArray := prog_10_method_45_code
def y_Mo_print : MethodName := ⟨"FactFlowModel", "print", "(I)V"⟩
abbrev c_Mo_steps : ByteArray := prog_10_method_50_code
def y_Mo_steps : MethodName := ⟨"FactFlowModel", "steps", "()I"⟩
abbrev c_Mo_next : ByteArray := prog_10_method_51_code
def y_Mo_next : MethodName := ⟨"FactFlowModel", "next", "()I"⟩
abbrev c_Mo_variable : ByteArray := prog_10_method_52_code
def y_Mo_variable : MethodName := ⟨"FactFlowModel", "variable", "(I)I"⟩
abbrev c_Mo_outputs : ByteArray := prog_10_method_53_code
def y_Mo_outputs : MethodName := ⟨"FactFlowModel", "outputs", "()I"⟩
abbrev c_Mo_output : ByteArray := prog_10_method_54_code
def y_Mo_output : MethodName := ⟨"FactFlowModel", "output", "(I)I"⟩
/-- the words that every method may use: the tables', as far as they keep -/
def wsAll : List Cond := lw_tbl.filter goodWord
theorem ws_mem {w : Cond} (h : w ∈ lw_tbl) (g : goodWord w = true) : w ∈ wsAll := List.mem_filter.mpr ⟨h, g⟩
theorem ws_good {w : Cond} (h : w ∈ wsAll) : (w.onTables && w.keeps) = true ∨ ∃ ty, w = .arrayClass ty := good_of_word (List.mem_filter.mp h).2
theorem ws_g {c : Cond} {ws : List Cond} (h : ∀ w ∈ ws, w ∈ wsAll) : GoodIn (c :: wsAll) ws := fun w hw => ⟨List.mem_cons_of_mem _ (h w hw), ws_good (h w hw)⟩
theorem ws_gc {c w : Cond} (h : w ∈ wsAll) : GoodIn (c :: wsAll) (w :: wsAll) := ws_g (fun x hx => by
  rcases List.mem_cons.mp hx with e | e
  · rw [e]; exact h
  · exact e)
theorem ws_gV {c : Cond} {own C : String} {i m : Nat} {y : MethodName} {b : ByteArray} {r : Option FieldType} (h1 : Cond.methodLink own i y ∈ wsAll) (h2 : Cond.instanceMethod y ∈ wsAll) (h3 : Cond.selects C y y ∈ wsAll) (h4 : Cond.initialized C ∈ wsAll) (h5 : Cond.code y b m r ∈ wsAll) : GoodIn (c :: wsAll) (wsV own i C y (Cond.code y b m r :: wsAll)) := ws_g (fun x hx => by
  unfold wsV at hx
  rcases List.mem_append.mp hx with e | e
  · rcases List.mem_cons.mp e with e | e
    · rw [e]; exact h1
    · rcases List.mem_cons.mp e with e | e
      · rw [e]; exact h2
      · rcases List.mem_cons.mp e with e | e
        · rw [e]; exact h3
        · rcases List.mem_cons.mp e with e | e
          · rw [e]; exact h4
          · cases e
  · rcases List.mem_cons.mp e with e | e
    · rw [e]; exact h5
    · exact e)
theorem ws_gS {c : Cond} {own : String} {i m : Nat} {y : MethodName} {b : ByteArray} {r : Option FieldType} (h1 : Cond.methodLink own i y ∈ wsAll) (h2 : Cond.static y ∈ wsAll) (h3 : Cond.initialized y.cls ∈ wsAll) (h4 : Cond.code y b m r ∈ wsAll) : GoodIn (c :: wsAll) (va_wsS own i y (Cond.code y b m r :: wsAll)) := ws_g (fun x hx => by
  unfold va_wsS at hx
  rcases List.mem_append.mp hx with e | e
  · rcases List.mem_cons.mp e with e | e
    · rw [e]; exact h1
    · rcases List.mem_cons.mp e with e | e
      · rw [e]; exact h2
      · rcases List.mem_cons.mp e with e | e
        · rw [e]; exact h3
        · cases e
  · rcases List.mem_cons.mp e with e | e
    · rw [e]; exact h4
    · exact e)
theorem ws_in {c : Cond} {A : List Cond} (h : ∀ w ∈ A, w ∈ wsAll) : ∀ w ∈ A, w ∈ c :: wsAll := fun w hw => List.mem_cons_of_mem _ (h w hw)
theorem ws_1 {c w : Cond} (h : w ∈ wsAll) : w ∈ c :: wsAll := List.mem_cons_of_mem _ h
def ws_Ff_init : List Cond := Cond.code y_Ff_init c_Ff_init 1 none :: wsAll
def ws_Pr_init : List Cond := Cond.code y_Pr_init c_Pr_init 2 none :: wsAll
def ws_Fa_init : List Cond := Cond.code y_Fa_init c_Fa_init 1 none :: wsAll
def ws_In_init : List Cond := Cond.code y_In_init c_In_init 1 none :: wsAll
def ws_So_init : List Cond := Cond.code y_So_init c_So_init 2 none :: wsAll
def ws_St_init : List Cond := Cond.code y_St_init c_St_init 2 none :: wsAll
def ws_Ip_init : List Cond := Cond.code y_Ip_init c_Ip_init 1 none :: wsAll
def ws_Ma_init : List Cond := Cond.code y_Ma_init c_Ma_init 1 none :: wsAll
def ws_Ff_add : List Cond := Cond.code y_Ff_add c_Ff_add 6 (some .int) :: wsAll
def ws_In_isTold : List Cond := Cond.code y_In_isTold c_In_isTold 4 (some .boolean) :: wsAll
def ws_In_usesA : List Cond := Cond.code y_In_usesA c_In_usesA 1 (some .boolean) :: wsAll
def ws_Ff_isVariable : List Cond := Cond.code y_Ff_isVariable c_Ff_isVariable 1 (some .boolean) :: wsAll
def ws_In_usesB : List Cond := Cond.code y_In_usesB c_In_usesB 1 (some .boolean) :: wsAll
def ws_In_calculates : List Cond := Cond.code y_In_calculates c_In_calculates 1 (some .boolean) :: wsAll
def ws_In_jumps : List Cond := Cond.code y_In_jumps c_In_jumps 1 (some .boolean) :: wsAll
def ws_In_become : List Cond := Cond.code y_In_become c_In_become 5 none :: wsAll
def ws_In_usesC : List Cond := Cond.code y_In_usesC c_In_usesC 1 (some .boolean) :: wsAll
def ws_Ff_put : List Cond := Cond.code y_Ff_put c_Ff_put 6 (some .boolean) :: wsAll
def ws_Pr_has : List Cond := Cond.code y_Pr_has c_Pr_has 2 (some .boolean) :: wsAll
def ws_Ff_clear : List Cond := Cond.code y_Ff_clear c_Ff_clear 1 none :: wsAll
def ws_Ff_length : List Cond := Cond.code y_Ff_length c_Ff_length 1 (some .int) :: wsAll
def ws_Ff_code : List Cond := Cond.code y_Ff_code c_Ff_code 3 (some .int) :: wsAll
def ws_In_partOf : List Cond := Cond.code y_In_partOf c_In_partOf 2 (some .int) :: wsAll
def ws_Ff_reached : List Cond := Cond.code y_Ff_reached c_Ff_reached 2 (some .boolean) :: wsAll
def ws_So_find : List Cond := Cond.code y_So_find c_So_find 5 none :: wsAll
def ws_So_begin : List Cond := Cond.code y_So_begin c_So_begin 2 none :: wsAll
def ws_St_becomeZeros : List Cond := Cond.code y_St_becomeZeros c_St_becomeZeros 2 none :: wsAll
def ws_Fa_becomeNumber : List Cond := Cond.code y_Fa_becomeNumber c_Fa_becomeNumber 2 none :: wsAll
def ws_Fa_reduce : List Cond := Cond.code y_Fa_reduce c_Fa_reduce 1 none :: wsAll
def ws_So_carry : List Cond := Cond.code y_So_carry c_So_carry 4 none :: wsAll
def ws_St_becomeSame : List Cond := Cond.code y_St_becomeSame c_St_becomeSame 3 none :: wsAll
def ws_Fa_becomeSame : List Cond := Cond.code y_Fa_becomeSame c_Fa_becomeSame 2 none :: wsAll
def ws_So_arrive : List Cond := Cond.code y_So_arrive c_So_arrive 3 none :: wsAll
def ws_St_joinWith : List Cond := Cond.code y_St_joinWith c_St_joinWith 4 (some .boolean) :: wsAll
def ws_Fa_joinWith : List Cond := Cond.code y_Fa_joinWith c_Fa_joinWith 6 (some .boolean) :: wsAll
def ws_Ig_numberOfTrailingZeros : List Cond := Cond.code y_Ig_numberOfTrailingZeros c_Ig_numberOfTrailingZeros 2 (some .int) :: wsAll
def ws_Fa_lastBits : List Cond := Cond.code y_Fa_lastBits c_Fa_lastBits 2 (some .int) :: wsAll
def ws_In_jumpSigns : List Cond := Cond.code y_In_jumpSigns c_In_jumpSigns 1 (some .int) :: wsAll
def ws_St_keepSigns : List Cond := Cond.code y_St_keepSigns c_St_keepSigns 3 none :: wsAll
def ws_Fa_keepSigns : List Cond := Cond.code y_Fa_keepSigns c_Fa_keepSigns 2 none :: wsAll
def ws_St_goThrough : List Cond := Cond.code y_St_goThrough c_St_goThrough 2 none :: wsAll
def ws_Fa_becomeResult : List Cond := Cond.code y_Fa_becomeResult c_Fa_becomeResult 7 none :: wsAll
def ws_Fa_productBits : List Cond := Cond.code y_Fa_productBits c_Fa_productBits 5 (some .int) :: wsAll
def ws_Fa_otherBits : List Cond := Cond.code y_Fa_otherBits c_Fa_otherBits 4 (some .int) :: wsAll
def ws_Ff_calculated : List Cond := Cond.code y_Ff_calculated c_Ff_calculated 3 (some .int) :: wsAll
def ws_Fa_signTable : List Cond := Cond.code y_Fa_signTable c_Fa_signTable 1 (some (.array .int)) :: wsAll
def ws_Fa_resultSigns : List Cond := Cond.code y_Fa_resultSigns c_Fa_resultSigns 6 (some .int) :: wsAll
def ws_Fa_becomeAnything : List Cond := Cond.code y_Fa_becomeAnything c_Fa_becomeAnything 1 none :: wsAll
def ws_Ff_comesTo : List Cond := Cond.code y_Ff_comesTo c_Ff_comesTo 2 (some .boolean) :: wsAll
def ws_Ff_bits : List Cond := Cond.code y_Ff_bits c_Ff_bits 3 (some .int) :: wsAll
def ws_Ff_rest : List Cond := Cond.code y_Ff_rest c_Ff_rest 3 (some .int) :: wsAll
def ws_Ff_signs : List Cond := Cond.code y_Ff_signs c_Ff_signs 3 (some .int) :: wsAll
def ws_Ff_rewrite : List Cond := Cond.code y_Ff_rewrite c_Ff_rewrite 3 (some .int) :: wsAll
def ws_Pr_improve : List Cond := Cond.code y_Pr_improve c_Pr_improve 4 (some .boolean) :: wsAll
def ws_Pr_stopInstead : List Cond := Cond.code y_Pr_stopInstead c_Pr_stopInstead 1 (some .boolean) :: wsAll
def ws_Pr_goInstead : List Cond := Cond.code y_Pr_goInstead c_Pr_goInstead 5 (some .boolean) :: wsAll
def ws_Pr_setInstead : List Cond := Cond.code y_Pr_setInstead c_Pr_setInstead 2 (some .boolean) :: wsAll
def ws_Ff_input : List Cond := Cond.code y_Ff_input c_Ff_input 2 (some .boolean) :: wsAll
def ws_Ip_take : List Cond := Cond.code y_Ip_take c_Ip_take 2 (some .boolean) :: wsAll
def ws_Ff_dry : List Cond := Cond.code y_Ff_dry c_Ff_dry 1 none :: wsAll
def ws_Ff_run : List Cond := Cond.code y_Ff_run c_Ff_run 2 (some .int) :: wsAll
def ws_Ma_execute : List Cond := Cond.code y_Ma_execute c_Ma_execute 6 (some .int) :: wsAll
def ws_Ma_begin : List Cond := Cond.code y_Ma_begin c_Ma_begin 2 none :: wsAll
def ws_Ma_change : List Cond := Cond.code y_Ma_change c_Ma_change 3 none :: wsAll
def ws_Ip_numberOrZero : List Cond := Cond.code y_Ip_numberOrZero c_Ip_numberOrZero 2 (some .int) :: wsAll
def ws_Ma_print : List Cond := Cond.code y_Ma_print c_Ma_print 2 none :: wsAll
def ws_Ma_placeBehind : List Cond := Cond.code y_Ma_placeBehind c_Ma_placeBehind 3 (some .int) :: wsAll
def ws_Ff_steps : List Cond := Cond.code y_Ff_steps c_Ff_steps 1 (some .int) :: wsAll
def ws_Ff_next : List Cond := Cond.code y_Ff_next c_Ff_next 1 (some .int) :: wsAll
def ws_Ff_variable : List Cond := Cond.code y_Ff_variable c_Ff_variable 2 (some .int) :: wsAll
def ws_Ff_outputs : List Cond := Cond.code y_Ff_outputs c_Ff_outputs 1 (some .int) :: wsAll
def ws_Ff_output : List Cond := Cond.code y_Ff_output c_Ff_output 2 (some .int) :: wsAll
def ws_Mo_init : List Cond := Cond.code y_Mo_init c_Mo_init 1 none :: wsAll
def ws_Mo_add : List Cond := Cond.code y_Mo_add c_Mo_add 5 (some .int) :: wsAll
def ws_Mo_wrong : List Cond := Cond.code y_Mo_wrong c_Mo_wrong 5 (some .boolean) :: wsAll
def ws_Mo_usesFirst : List Cond := Cond.code y_Mo_usesFirst c_Mo_usesFirst 1 (some .boolean) :: wsAll
def ws_Mo_isVariable : List Cond := Cond.code y_Mo_isVariable c_Mo_isVariable 1 (some .boolean) :: wsAll
def ws_Mo_usesSecond : List Cond := Cond.code y_Mo_usesSecond c_Mo_usesSecond 1 (some .boolean) :: wsAll
def ws_Mo_jumps : List Cond := Cond.code y_Mo_jumps c_Mo_jumps 1 (some .boolean) :: wsAll
def ws_Mo_place : List Cond := Cond.code y_Mo_place c_Mo_place 10 (some .boolean) :: wsAll
def ws_Mo_usesThird : List Cond := Cond.code y_Mo_usesThird c_Mo_usesThird 1 (some .boolean) :: wsAll
def ws_Mo_put : List Cond := Cond.code y_Mo_put c_Mo_put 6 (some .boolean) :: wsAll
def ws_Mo_none : List Cond := Cond.code y_Mo_none c_Mo_none 2 (some .boolean) :: wsAll
def ws_Mo_clear : List Cond := Cond.code y_Mo_clear c_Mo_clear 1 none :: wsAll
def ws_Mo_length : List Cond := Cond.code y_Mo_length c_Mo_length 1 (some .int) :: wsAll
def ws_Mo_code : List Cond := Cond.code y_Mo_code c_Mo_code 3 (some .int) :: wsAll
def ws_Mo_reached : List Cond := Cond.code y_Mo_reached c_Mo_reached 2 (some .boolean) :: wsAll
def ws_Mo_solve : List Cond := Cond.code y_Mo_solve c_Mo_solve 2 none :: wsAll
def ws_Mo_result : List Cond := Cond.code y_Mo_result c_Mo_result 4 none :: wsAll
def ws_Mo_take : List Cond := Cond.code y_Mo_take c_Mo_take 2 none :: wsAll
def ws_Mo_join : List Cond := Cond.code y_Mo_join c_Mo_join 3 none :: wsAll
def ws_Mo_joinFact : List Cond := Cond.code y_Mo_joinFact c_Mo_joinFact 9 none :: wsAll
def ws_Mo_least : List Cond := Cond.code y_Mo_least c_Mo_least 2 (some .int) :: wsAll
def ws_Mo_zeros : List Cond := Cond.code y_Mo_zeros c_Mo_zeros 2 (some .int) :: wsAll
def ws_Mo_cut : List Cond := Cond.code y_Mo_cut c_Mo_cut 2 (some .int) :: wsAll
def ws_Mo_pass : List Cond := Cond.code y_Mo_pass c_Mo_pass 4 none :: wsAll
def ws_Mo_load : List Cond := Cond.code y_Mo_load c_Mo_load 3 none :: wsAll
def ws_Mo_only : List Cond := Cond.code y_Mo_only c_Mo_only 3 (some .boolean) :: wsAll
def ws_Mo_reduced : List Cond := Cond.code y_Mo_reduced c_Mo_reduced 1 (some .boolean) :: wsAll
def ws_Mo_sign : List Cond := Cond.code y_Mo_sign c_Mo_sign 1 (some .int) :: wsAll
def ws_Mo_worked : List Cond := Cond.code y_Mo_worked c_Mo_worked 4 (some .boolean) :: wsAll
def ws_Mo_reckon : List Cond := Cond.code y_Mo_reckon c_Mo_reckon 9 (some .boolean) :: wsAll
def ws_Mo_signsBy : List Cond := Cond.code y_Mo_signsBy c_Mo_signsBy 8 (some .int) :: wsAll
def ws_Mo_pairSigns : List Cond := Cond.code y_Mo_pairSigns c_Mo_pairSigns 3 (some .int) :: wsAll
def ws_Mo_sumSigns : List Cond := Cond.code y_Mo_sumSigns c_Mo_sumSigns 2 (some .int) :: wsAll
def ws_Mo_lessSigns : List Cond := Cond.code y_Mo_lessSigns c_Mo_lessSigns 2 (some .int) :: wsAll
def ws_Mo_partSigns : List Cond := Cond.code y_Mo_partSigns c_Mo_partSigns 2 (some .int) :: wsAll
def ws_Mo_divided : List Cond := Cond.code y_Mo_divided c_Mo_divided 2 (some .int) :: wsAll
def ws_Mo_bits : List Cond := Cond.code y_Mo_bits c_Mo_bits 3 (some .int) :: wsAll
def ws_Mo_untold : List Cond := Cond.code y_Mo_untold c_Mo_untold 3 (some .boolean) :: wsAll
def ws_Mo_rest : List Cond := Cond.code y_Mo_rest c_Mo_rest 3 (some .int) :: wsAll
def ws_Mo_signs : List Cond := Cond.code y_Mo_signs c_Mo_signs 3 (some .int) :: wsAll
def ws_Mo_rewrite : List Cond := Cond.code y_Mo_rewrite c_Mo_rewrite 3 (some .int) :: wsAll
def ws_Mo_written : List Cond := Cond.code y_Mo_written c_Mo_written 5 (some .boolean) :: wsAll
def ws_Mo_input : List Cond := Cond.code y_Mo_input c_Mo_input 2 (some .boolean) :: wsAll
def ws_Mo_dry : List Cond := Cond.code y_Mo_dry c_Mo_dry 1 none :: wsAll
def ws_Mo_run : List Cond := Cond.code y_Mo_run c_Mo_run 3 (some .int) :: wsAll
def ws_Mo_step : List Cond := Cond.code y_Mo_step c_Mo_step 6 (some .int) :: wsAll
def ws_Mo_worth : List Cond := Cond.code y_Mo_worth c_Mo_worth 4 (some .int) :: wsAll
def ws_Mo_read : List Cond := Cond.code y_Mo_read c_Mo_read 2 none :: wsAll
def ws_Mo_print : List Cond := Cond.code y_Mo_print c_Mo_print 2 none :: wsAll
def ws_Mo_steps : List Cond := Cond.code y_Mo_steps c_Mo_steps 1 (some .int) :: wsAll
def ws_Mo_next : List Cond := Cond.code y_Mo_next c_Mo_next 1 (some .int) :: wsAll
def ws_Mo_variable : List Cond := Cond.code y_Mo_variable c_Mo_variable 2 (some .int) :: wsAll
def ws_Mo_outputs : List Cond := Cond.code y_Mo_outputs c_Mo_outputs 1 (some .int) :: wsAll
def ws_Mo_output : List Cond := Cond.code y_Mo_output c_Mo_output 2 (some .int) :: wsAll
end
section
/-! words' places (printed by mknames.py) -/
theorem mw_0_1 : Cond.initialized "FactFlow" ∈ wsAll := ws_mem (List.mem_append_right _ (List.mem_append_left _ (List.mem_of_getElem? (i := 1) rfl))) rfl
theorem mw_0_2 : Cond.initialized "FactFlow$Program" ∈ wsAll := ws_mem (List.mem_append_right _ (List.mem_append_left _ (List.mem_of_getElem? (i := 2) rfl))) rfl
theorem mw_0_3 : Cond.initialized "FactFlow$Fact" ∈ wsAll := ws_mem (List.mem_append_right _ (List.mem_append_left _ (List.mem_of_getElem? (i := 3) rfl))) rfl
theorem mw_0_4 : Cond.initialized "FactFlow$Instruction" ∈ wsAll := ws_mem (List.mem_append_right _ (List.mem_append_left _ (List.mem_of_getElem? (i := 4) rfl))) rfl
theorem mw_0_5 : Cond.initialized "FactFlow$Solution" ∈ wsAll := ws_mem (List.mem_append_right _ (List.mem_append_left _ (List.mem_of_getElem? (i := 5) rfl))) rfl
theorem mw_0_6 : Cond.initialized "FactFlow$State" ∈ wsAll := ws_mem (List.mem_append_right _ (List.mem_append_left _ (List.mem_of_getElem? (i := 6) rfl))) rfl
theorem mw_0_7 : Cond.initialized "FactFlow$Inputs" ∈ wsAll := ws_mem (List.mem_append_right _ (List.mem_append_left _ (List.mem_of_getElem? (i := 7) rfl))) rfl
theorem mw_0_8 : Cond.initialized "FactFlow$Machine" ∈ wsAll := ws_mem (List.mem_append_right _ (List.mem_append_left _ (List.mem_of_getElem? (i := 8) rfl))) rfl
theorem mw_0_9 : Cond.initialized "FactFlowModel" ∈ wsAll := ws_mem (List.mem_append_right _ (List.mem_append_left _ (List.mem_of_getElem? (i := 9) rfl))) rfl
theorem mw_0_10 : Cond.initialized "java/lang/Math" ∈ wsAll := ws_mem (List.mem_append_right _ (List.mem_append_left _ (List.mem_of_getElem? (i := 10) rfl))) rfl
theorem mw_0_11 : Cond.initialized "java/lang/Integer" ∈ wsAll := ws_mem (List.mem_append_right _ (List.mem_append_left _ (List.mem_of_getElem? (i := 11) rfl))) rfl
theorem mw_0_12 : Cond.classLink "FactFlowLaw" 7 "FactFlow" ∈ wsAll := ws_mem (List.mem_append_right _ (List.mem_append_left _ (List.mem_of_getElem? (i := 12) rfl))) rfl
theorem mw_0_13 : Cond.instantiable "FactFlow" 4 ∈ wsAll := ws_mem (List.mem_append_right _ (List.mem_append_left _ (List.mem_of_getElem? (i := 13) rfl))) rfl
theorem mw_0_14 : Cond.methodLink "FactFlowLaw" 9 y_Ff_init ∈ wsAll := ws_mem (List.mem_append_right _ (List.mem_append_left _ (List.mem_of_getElem? (i := 14) rfl))) rfl
theorem mw_0_16 : Cond.code y_Ff_init c_Ff_init 1 none ∈ wsAll := ws_mem (List.mem_append_right _ (List.mem_append_left _ (List.mem_of_getElem? (i := 16) rfl))) rfl
theorem mw_0_17 : Cond.methodLink "FactFlow" 3 Lib.objectInit ∈ wsAll := ws_mem (List.mem_append_right _ (List.mem_append_left _ (List.mem_of_getElem? (i := 17) rfl))) rfl
theorem mw_0_18 : Cond.instanceMethod Lib.objectInit ∈ wsAll := ws_mem (List.mem_append_right _ (List.mem_append_left _ (List.mem_of_getElem? (i := 18) rfl))) rfl
theorem mw_0_19 : Cond.code Lib.objectInit ⟨#[0xb1]⟩ 1 none ∈ wsAll := ws_mem (List.mem_append_right _ (List.mem_append_left _ (List.mem_of_getElem? (i := 19) rfl))) rfl
theorem mw_0_20 : Cond.classLink "FactFlow" 9 "FactFlow$Program" ∈ wsAll := ws_mem (List.mem_append_right _ (List.mem_append_left _ (List.mem_of_getElem? (i := 20) rfl))) rfl
theorem mw_0_21 : Cond.instantiable "FactFlow$Program" 3 ∈ wsAll := ws_mem (List.mem_append_right _ (List.mem_append_left _ (List.mem_of_getElem? (i := 21) rfl))) rfl
theorem mw_0_22 : Cond.methodLink "FactFlow" 11 y_Pr_init ∈ wsAll := ws_mem (List.mem_append_right _ (List.mem_append_left _ (List.mem_of_getElem? (i := 22) rfl))) rfl
theorem mw_0_23 : Cond.instanceMethod y_Pr_init ∈ wsAll := ws_mem (List.mem_append_right _ (List.mem_append_left _ (List.mem_of_getElem? (i := 23) rfl))) rfl
theorem mw_0_24 : Cond.code y_Pr_init c_Pr_init 2 none ∈ wsAll := ws_mem (List.mem_append_right _ (List.mem_append_left _ (List.mem_of_getElem? (i := 24) rfl))) rfl
theorem mw_0_25 : Cond.methodLink "FactFlow$Program" 3 Lib.objectInit ∈ wsAll := ws_mem (List.mem_append_right _ (List.mem_append_left _ (List.mem_of_getElem? (i := 25) rfl))) rfl
theorem mw_0_26 : Cond.classLink "FactFlow$Program" 9 "FactFlow$Instruction" ∈ wsAll := ws_mem (List.mem_append_right _ (List.mem_append_left _ (List.mem_of_getElem? (i := 26) rfl))) rfl
theorem mw_0_28 : Cond.classLink "FactFlow$Program" 21 "FactFlow$Fact" ∈ wsAll := ws_mem (List.mem_append_right _ (List.mem_append_left _ (List.mem_of_getElem? (i := 28) rfl))) rfl
theorem mw_0_29 : Cond.instantiable "FactFlow$Fact" 3 ∈ wsAll := ws_mem (List.mem_append_right _ (List.mem_append_left _ (List.mem_of_getElem? (i := 29) rfl))) rfl
theorem mw_0_31 : Cond.instanceMethod y_Fa_init ∈ wsAll := ws_mem (List.mem_append_right _ (List.mem_append_left _ (List.mem_of_getElem? (i := 31) rfl))) rfl
theorem mw_0_32 : Cond.code y_Fa_init c_Fa_init 1 none ∈ wsAll := ws_mem (List.mem_append_right _ (List.mem_append_left _ (List.mem_of_getElem? (i := 32) rfl))) rfl
theorem mw_0_33 : Cond.methodLink "FactFlow$Fact" 3 Lib.objectInit ∈ wsAll := ws_mem (List.mem_append_right _ (List.mem_append_left _ (List.mem_of_getElem? (i := 33) rfl))) rfl
theorem mw_0_34 : Cond.fieldLink "FactFlow$Fact" 9 "FactFlow$Fact" "bits" "I" ∈ wsAll := ws_mem (List.mem_append_right _ (List.mem_append_left _ (List.mem_of_getElem? (i := 34) rfl))) rfl
theorem mw_0_35 : Cond.fieldLink "FactFlow$Program" 82 "FactFlow$Fact" "bits" "I" ∈ wsAll := ws_mem (List.mem_append_right _ (List.mem_append_left _ (List.mem_of_getElem? (i := 35) rfl))) rfl
theorem mw_0_36 : Cond.fieldLink "FactFlow" 87 "FactFlow$Fact" "bits" "I" ∈ wsAll := ws_mem (List.mem_append_right _ (List.mem_append_left _ (List.mem_of_getElem? (i := 36) rfl))) rfl
theorem mw_0_37 : Cond.fieldLink "FactFlow$Fact" 15 "FactFlow$Fact" "rest" "I" ∈ wsAll := ws_mem (List.mem_append_right _ (List.mem_append_left _ (List.mem_of_getElem? (i := 37) rfl))) rfl
theorem mw_0_38 : Cond.fieldLink "FactFlow$Program" 85 "FactFlow$Fact" "rest" "I" ∈ wsAll := ws_mem (List.mem_append_right _ (List.mem_append_left _ (List.mem_of_getElem? (i := 38) rfl))) rfl
theorem mw_0_39 : Cond.fieldLink "FactFlow" 92 "FactFlow$Fact" "rest" "I" ∈ wsAll := ws_mem (List.mem_append_right _ (List.mem_append_left _ (List.mem_of_getElem? (i := 39) rfl))) rfl
theorem mw_0_40 : Cond.fieldLink "FactFlow$Fact" 18 "FactFlow$Fact" "signs" "I" ∈ wsAll := ws_mem (List.mem_append_right _ (List.mem_append_left _ (List.mem_of_getElem? (i := 40) rfl))) rfl
theorem mw_0_41 : Cond.fieldLink "FactFlow$Program" 49 "FactFlow$Fact" "signs" "I" ∈ wsAll := ws_mem (List.mem_append_right _ (List.mem_append_left _ (List.mem_of_getElem? (i := 41) rfl))) rfl
theorem mw_0_42 : Cond.fieldLink "FactFlow$State" 33 "FactFlow$Fact" "signs" "I" ∈ wsAll := ws_mem (List.mem_append_right _ (List.mem_append_left _ (List.mem_of_getElem? (i := 42) rfl))) rfl
theorem mw_0_43 : Cond.fieldLink "FactFlow" 95 "FactFlow$Fact" "signs" "I" ∈ wsAll := ws_mem (List.mem_append_right _ (List.mem_append_left _ (List.mem_of_getElem? (i := 43) rfl))) rfl
theorem mw_0_44 : Cond.lays "FactFlow$Fact" "FactFlow$Fact" "bits" "I" ∈ wsAll := ws_mem (List.mem_append_right _ (List.mem_append_left _ (List.mem_of_getElem? (i := 44) rfl))) rfl
theorem mw_0_46 : Cond.lays "FactFlow$Fact" "FactFlow$Fact" "rest" "I" ∈ wsAll := ws_mem (List.mem_append_right _ (List.mem_append_left _ (List.mem_of_getElem? (i := 46) rfl))) rfl
theorem mw_0_48 : Cond.lays "FactFlow$Fact" "FactFlow$Fact" "signs" "I" ∈ wsAll := ws_mem (List.mem_append_right _ (List.mem_append_left _ (List.mem_of_getElem? (i := 48) rfl))) rfl
theorem mw_0_51 : Cond.instantiable "FactFlow$Instruction" 4 ∈ wsAll := ws_mem (List.mem_append_right _ (List.mem_append_left _ (List.mem_of_getElem? (i := 51) rfl))) rfl
theorem mw_0_53 : Cond.instanceMethod y_In_init ∈ wsAll := ws_mem (List.mem_append_right _ (List.mem_append_left _ (List.mem_of_getElem? (i := 53) rfl))) rfl
theorem mw_0_54 : Cond.code y_In_init c_In_init 1 none ∈ wsAll := ws_mem (List.mem_append_right _ (List.mem_append_left _ (List.mem_of_getElem? (i := 54) rfl))) rfl
theorem mw_0_55 : Cond.methodLink "FactFlow$Instruction" 3 Lib.objectInit ∈ wsAll := ws_mem (List.mem_append_right _ (List.mem_append_left _ (List.mem_of_getElem? (i := 55) rfl))) rfl
theorem mw_0_56 : Cond.fieldLink "FactFlow$Instruction" 9 "FactFlow$Instruction" "operation" "I" ∈ wsAll := ws_mem (List.mem_append_right _ (List.mem_append_left _ (List.mem_of_getElem? (i := 56) rfl))) rfl
theorem mw_0_57 : Cond.fieldLink "FactFlow$Machine" 44 "FactFlow$Instruction" "operation" "I" ∈ wsAll := ws_mem (List.mem_append_right _ (List.mem_append_left _ (List.mem_of_getElem? (i := 57) rfl))) rfl
theorem mw_0_58 : Cond.fieldLink "FactFlow$Program" 39 "FactFlow$Instruction" "operation" "I" ∈ wsAll := ws_mem (List.mem_append_right _ (List.mem_append_left _ (List.mem_of_getElem? (i := 58) rfl))) rfl
theorem mw_0_59 : Cond.fieldLink "FactFlow$Solution" 57 "FactFlow$Instruction" "operation" "I" ∈ wsAll := ws_mem (List.mem_append_right _ (List.mem_append_left _ (List.mem_of_getElem? (i := 59) rfl))) rfl
theorem mw_0_60 : Cond.fieldLink "FactFlow$State" 37 "FactFlow$Instruction" "operation" "I" ∈ wsAll := ws_mem (List.mem_append_right _ (List.mem_append_left _ (List.mem_of_getElem? (i := 60) rfl))) rfl
theorem mw_0_61 : Cond.fieldLink "FactFlow$Instruction" 15 "FactFlow$Instruction" "a" "I" ∈ wsAll := ws_mem (List.mem_append_right _ (List.mem_append_left _ (List.mem_of_getElem? (i := 61) rfl))) rfl
theorem mw_0_62 : Cond.fieldLink "FactFlow$Program" 46 "FactFlow$Instruction" "a" "I" ∈ wsAll := ws_mem (List.mem_append_right _ (List.mem_append_left _ (List.mem_of_getElem? (i := 62) rfl))) rfl
theorem mw_0_63 : Cond.fieldLink "FactFlow$Machine" 60 "FactFlow$Instruction" "a" "I" ∈ wsAll := ws_mem (List.mem_append_right _ (List.mem_append_left _ (List.mem_of_getElem? (i := 63) rfl))) rfl
theorem mw_0_64 : Cond.fieldLink "FactFlow$Solution" 68 "FactFlow$Instruction" "a" "I" ∈ wsAll := ws_mem (List.mem_append_right _ (List.mem_append_left _ (List.mem_of_getElem? (i := 64) rfl))) rfl
theorem mw_0_65 : Cond.fieldLink "FactFlow$State" 42 "FactFlow$Instruction" "a" "I" ∈ wsAll := ws_mem (List.mem_append_right _ (List.mem_append_left _ (List.mem_of_getElem? (i := 65) rfl))) rfl
theorem mw_0_66 : Cond.fieldLink "FactFlow$Instruction" 18 "FactFlow$Instruction" "b" "I" ∈ wsAll := ws_mem (List.mem_append_right _ (List.mem_append_left _ (List.mem_of_getElem? (i := 66) rfl))) rfl
theorem mw_0_67 : Cond.fieldLink "FactFlow$Program" 56 "FactFlow$Instruction" "b" "I" ∈ wsAll := ws_mem (List.mem_append_right _ (List.mem_append_left _ (List.mem_of_getElem? (i := 67) rfl))) rfl
theorem mw_0_68 : Cond.fieldLink "FactFlow$Machine" 63 "FactFlow$Instruction" "b" "I" ∈ wsAll := ws_mem (List.mem_append_right _ (List.mem_append_left _ (List.mem_of_getElem? (i := 68) rfl))) rfl
theorem mw_0_69 : Cond.fieldLink "FactFlow$State" 48 "FactFlow$Instruction" "b" "I" ∈ wsAll := ws_mem (List.mem_append_right _ (List.mem_append_left _ (List.mem_of_getElem? (i := 69) rfl))) rfl
theorem mw_0_70 : Cond.fieldLink "FactFlow$Instruction" 21 "FactFlow$Instruction" "c" "I" ∈ wsAll := ws_mem (List.mem_append_right _ (List.mem_append_left _ (List.mem_of_getElem? (i := 70) rfl))) rfl
theorem mw_0_71 : Cond.fieldLink "FactFlow$Machine" 49 "FactFlow$Instruction" "c" "I" ∈ wsAll := ws_mem (List.mem_append_right _ (List.mem_append_left _ (List.mem_of_getElem? (i := 71) rfl))) rfl
theorem mw_0_72 : Cond.fieldLink "FactFlow$Program" 67 "FactFlow$Instruction" "c" "I" ∈ wsAll := ws_mem (List.mem_append_right _ (List.mem_append_left _ (List.mem_of_getElem? (i := 72) rfl))) rfl
theorem mw_0_73 : Cond.fieldLink "FactFlow$Solution" 62 "FactFlow$Instruction" "c" "I" ∈ wsAll := ws_mem (List.mem_append_right _ (List.mem_append_left _ (List.mem_of_getElem? (i := 73) rfl))) rfl
theorem mw_0_74 : Cond.fieldLink "FactFlow$State" 45 "FactFlow$Instruction" "c" "I" ∈ wsAll := ws_mem (List.mem_append_right _ (List.mem_append_left _ (List.mem_of_getElem? (i := 74) rfl))) rfl
theorem mw_0_75 : Cond.lays "FactFlow$Instruction" "FactFlow$Instruction" "operation" "I" ∈ wsAll := ws_mem (List.mem_append_right _ (List.mem_append_left _ (List.mem_of_getElem? (i := 75) rfl))) rfl
theorem mw_0_77 : Cond.lays "FactFlow$Instruction" "FactFlow$Instruction" "a" "I" ∈ wsAll := ws_mem (List.mem_append_right _ (List.mem_append_left _ (List.mem_of_getElem? (i := 77) rfl))) rfl
theorem mw_0_79 : Cond.lays "FactFlow$Instruction" "FactFlow$Instruction" "b" "I" ∈ wsAll := ws_mem (List.mem_append_right _ (List.mem_append_left _ (List.mem_of_getElem? (i := 79) rfl))) rfl
theorem mw_0_81 : Cond.lays "FactFlow$Instruction" "FactFlow$Instruction" "c" "I" ∈ wsAll := ws_mem (List.mem_append_right _ (List.mem_append_left _ (List.mem_of_getElem? (i := 81) rfl))) rfl
theorem mw_0_84 : Cond.fieldLink "FactFlow$Program" 11 "FactFlow$Program" "instructions" "[LFactFlow$Instruction;" ∈ wsAll := ws_mem (List.mem_append_right _ (List.mem_append_left _ (List.mem_of_getElem? (i := 84) rfl))) rfl
theorem mw_0_85 : Cond.fieldLink "FactFlow$Machine" 40 "FactFlow$Program" "instructions" "[LFactFlow$Instruction;" ∈ wsAll := ws_mem (List.mem_append_right _ (List.mem_append_left _ (List.mem_of_getElem? (i := 85) rfl))) rfl
theorem mw_0_86 : Cond.fieldLink "FactFlow" 47 "FactFlow$Program" "instructions" "[LFactFlow$Instruction;" ∈ wsAll := ws_mem (List.mem_append_right _ (List.mem_append_left _ (List.mem_of_getElem? (i := 86) rfl))) rfl
theorem mw_0_87 : Cond.fieldLink "FactFlow$Solution" 49 "FactFlow$Program" "instructions" "[LFactFlow$Instruction;" ∈ wsAll := ws_mem (List.mem_append_right _ (List.mem_append_left _ (List.mem_of_getElem? (i := 87) rfl))) rfl
theorem mw_0_88 : Cond.fieldLink "FactFlow$Program" 17 "FactFlow$Program" "count" "I" ∈ wsAll := ws_mem (List.mem_append_right _ (List.mem_append_left _ (List.mem_of_getElem? (i := 88) rfl))) rfl
theorem mw_0_89 : Cond.fieldLink "FactFlow" 43 "FactFlow$Program" "count" "I" ∈ wsAll := ws_mem (List.mem_append_right _ (List.mem_append_left _ (List.mem_of_getElem? (i := 89) rfl))) rfl
theorem mw_0_90 : Cond.fieldLink "FactFlow$Solution" 33 "FactFlow$Program" "count" "I" ∈ wsAll := ws_mem (List.mem_append_right _ (List.mem_append_left _ (List.mem_of_getElem? (i := 90) rfl))) rfl
theorem mw_0_91 : Cond.fieldLink "FactFlow$Program" 24 "FactFlow$Program" "result" "LFactFlow$Fact;" ∈ wsAll := ws_mem (List.mem_append_right _ (List.mem_append_left _ (List.mem_of_getElem? (i := 91) rfl))) rfl
theorem mw_0_92 : Cond.laysFinal "FactFlow$Program" "FactFlow$Program" "instructions" "[LFactFlow$Instruction;" ∈ wsAll := ws_mem (List.mem_append_right _ (List.mem_append_left _ (List.mem_of_getElem? (i := 92) rfl))) rfl
theorem mw_0_94 : Cond.lays "FactFlow$Program" "FactFlow$Program" "count" "I" ∈ wsAll := ws_mem (List.mem_append_right _ (List.mem_append_left _ (List.mem_of_getElem? (i := 94) rfl))) rfl
theorem mw_0_96 : Cond.laysFinal "FactFlow$Program" "FactFlow$Program" "result" "LFactFlow$Fact;" ∈ wsAll := ws_mem (List.mem_append_right _ (List.mem_append_left _ (List.mem_of_getElem? (i := 96) rfl))) rfl
theorem mw_0_99 : Cond.classLink "FactFlow" 16 "FactFlow$Solution" ∈ wsAll := ws_mem (List.mem_append_right _ (List.mem_append_left _ (List.mem_of_getElem? (i := 99) rfl))) rfl
theorem mw_0_100 : Cond.instantiable "FactFlow$Solution" 4 ∈ wsAll := ws_mem (List.mem_append_right _ (List.mem_append_left _ (List.mem_of_getElem? (i := 100) rfl))) rfl
theorem mw_0_101 : Cond.methodLink "FactFlow" 18 y_So_init ∈ wsAll := ws_mem (List.mem_append_right _ (List.mem_append_left _ (List.mem_of_getElem? (i := 101) rfl))) rfl
theorem mw_0_102 : Cond.instanceMethod y_So_init ∈ wsAll := ws_mem (List.mem_append_right _ (List.mem_append_left _ (List.mem_of_getElem? (i := 102) rfl))) rfl
theorem mw_0_103 : Cond.code y_So_init c_So_init 2 none ∈ wsAll := ws_mem (List.mem_append_right _ (List.mem_append_left _ (List.mem_of_getElem? (i := 103) rfl))) rfl
theorem mw_0_104 : Cond.methodLink "FactFlow$Solution" 3 Lib.objectInit ∈ wsAll := ws_mem (List.mem_append_right _ (List.mem_append_left _ (List.mem_of_getElem? (i := 104) rfl))) rfl
theorem mw_0_105 : Cond.classLink "FactFlow$Solution" 9 "FactFlow$State" ∈ wsAll := ws_mem (List.mem_append_right _ (List.mem_append_left _ (List.mem_of_getElem? (i := 105) rfl))) rfl
theorem mw_0_107 : Cond.instantiable "FactFlow$State" 2 ∈ wsAll := ws_mem (List.mem_append_right _ (List.mem_append_left _ (List.mem_of_getElem? (i := 107) rfl))) rfl
theorem mw_0_108 : Cond.methodLink "FactFlow$Solution" 25 y_St_init ∈ wsAll := ws_mem (List.mem_append_right _ (List.mem_append_left _ (List.mem_of_getElem? (i := 108) rfl))) rfl
theorem mw_0_109 : Cond.instanceMethod y_St_init ∈ wsAll := ws_mem (List.mem_append_right _ (List.mem_append_left _ (List.mem_of_getElem? (i := 109) rfl))) rfl
theorem mw_0_110 : Cond.code y_St_init c_St_init 2 none ∈ wsAll := ws_mem (List.mem_append_right _ (List.mem_append_left _ (List.mem_of_getElem? (i := 110) rfl))) rfl
theorem mw_0_111 : Cond.methodLink "FactFlow$State" 3 Lib.objectInit ∈ wsAll := ws_mem (List.mem_append_right _ (List.mem_append_left _ (List.mem_of_getElem? (i := 111) rfl))) rfl
theorem mw_0_112 : Cond.classLink "FactFlow$State" 9 "FactFlow$Fact" ∈ wsAll := ws_mem (List.mem_append_right _ (List.mem_append_left _ (List.mem_of_getElem? (i := 112) rfl))) rfl
theorem mw_0_115 : Cond.fieldLink "FactFlow$State" 11 "FactFlow$State" "facts" "[LFactFlow$Fact;" ∈ wsAll := ws_mem (List.mem_append_right _ (List.mem_append_left _ (List.mem_of_getElem? (i := 115) rfl))) rfl
theorem mw_0_116 : Cond.fieldLink "FactFlow$Program" 42 "FactFlow$State" "facts" "[LFactFlow$Fact;" ∈ wsAll := ws_mem (List.mem_append_right _ (List.mem_append_left _ (List.mem_of_getElem? (i := 116) rfl))) rfl
theorem mw_0_117 : Cond.fieldLink "FactFlow" 81 "FactFlow$State" "facts" "[LFactFlow$Fact;" ∈ wsAll := ws_mem (List.mem_append_right _ (List.mem_append_left _ (List.mem_of_getElem? (i := 117) rfl))) rfl
theorem mw_0_118 : Cond.fieldLink "FactFlow$State" 17 "FactFlow$State" "none" "Z" ∈ wsAll := ws_mem (List.mem_append_right _ (List.mem_append_left _ (List.mem_of_getElem? (i := 118) rfl))) rfl
theorem mw_0_119 : Cond.fieldLink "FactFlow$Program" 29 "FactFlow$State" "none" "Z" ∈ wsAll := ws_mem (List.mem_append_right _ (List.mem_append_left _ (List.mem_of_getElem? (i := 119) rfl))) rfl
theorem mw_0_120 : Cond.fieldLink "FactFlow$Solution" 43 "FactFlow$State" "none" "Z" ∈ wsAll := ws_mem (List.mem_append_right _ (List.mem_append_left _ (List.mem_of_getElem? (i := 120) rfl))) rfl
theorem mw_0_121 : Cond.fieldLink "FactFlow" 126 "FactFlow$State" "none" "Z" ∈ wsAll := ws_mem (List.mem_append_right _ (List.mem_append_left _ (List.mem_of_getElem? (i := 121) rfl))) rfl
theorem mw_0_122 : Cond.laysFinal "FactFlow$State" "FactFlow$State" "facts" "[LFactFlow$Fact;" ∈ wsAll := ws_mem (List.mem_append_right _ (List.mem_append_left _ (List.mem_of_getElem? (i := 122) rfl))) rfl
theorem mw_0_124 : Cond.lays "FactFlow$State" "FactFlow$State" "none" "Z" ∈ wsAll := ws_mem (List.mem_append_right _ (List.mem_append_left _ (List.mem_of_getElem? (i := 124) rfl))) rfl
theorem mw_0_127 : Cond.arrayClass .boolean ∈ wsAll := ws_mem (List.mem_append_right _ (List.mem_append_left _ (List.mem_of_getElem? (i := 127) rfl))) rfl
theorem mw_0_128 : Cond.fieldLink "FactFlow$Solution" 11 "FactFlow$Solution" "states" "[LFactFlow$State;" ∈ wsAll := ws_mem (List.mem_append_right _ (List.mem_append_left _ (List.mem_of_getElem? (i := 128) rfl))) rfl
theorem mw_0_129 : Cond.fieldLink "FactFlow" 77 "FactFlow$Solution" "states" "[LFactFlow$State;" ∈ wsAll := ws_mem (List.mem_append_right _ (List.mem_append_left _ (List.mem_of_getElem? (i := 129) rfl))) rfl
theorem mw_0_130 : Cond.fieldLink "FactFlow$Solution" 17 "FactFlow$Solution" "found" "Z" ∈ wsAll := ws_mem (List.mem_append_right _ (List.mem_append_left _ (List.mem_of_getElem? (i := 130) rfl))) rfl
theorem mw_0_131 : Cond.fieldLink "FactFlow" 55 "FactFlow$Solution" "found" "Z" ∈ wsAll := ws_mem (List.mem_append_right _ (List.mem_append_left _ (List.mem_of_getElem? (i := 131) rfl))) rfl
theorem mw_0_132 : Cond.fieldLink "FactFlow$Solution" 21 "FactFlow$Solution" "waiting" "[Z" ∈ wsAll := ws_mem (List.mem_append_right _ (List.mem_append_left _ (List.mem_of_getElem? (i := 132) rfl))) rfl
theorem mw_0_133 : Cond.fieldLink "FactFlow$Solution" 26 "FactFlow$Solution" "coming" "LFactFlow$State;" ∈ wsAll := ws_mem (List.mem_append_right _ (List.mem_append_left _ (List.mem_of_getElem? (i := 133) rfl))) rfl
theorem mw_0_134 : Cond.laysFinal "FactFlow$Solution" "FactFlow$Solution" "states" "[LFactFlow$State;" ∈ wsAll := ws_mem (List.mem_append_right _ (List.mem_append_left _ (List.mem_of_getElem? (i := 134) rfl))) rfl
theorem mw_0_136 : Cond.lays "FactFlow$Solution" "FactFlow$Solution" "found" "Z" ∈ wsAll := ws_mem (List.mem_append_right _ (List.mem_append_left _ (List.mem_of_getElem? (i := 136) rfl))) rfl
theorem mw_0_138 : Cond.laysFinal "FactFlow$Solution" "FactFlow$Solution" "waiting" "[Z" ∈ wsAll := ws_mem (List.mem_append_right _ (List.mem_append_left _ (List.mem_of_getElem? (i := 138) rfl))) rfl
theorem mw_0_140 : Cond.laysFinal "FactFlow$Solution" "FactFlow$Solution" "coming" "LFactFlow$State;" ∈ wsAll := ws_mem (List.mem_append_right _ (List.mem_append_left _ (List.mem_of_getElem? (i := 140) rfl))) rfl
theorem mw_0_143 : Cond.classLink "FactFlow" 23 "FactFlow$Inputs" ∈ wsAll := ws_mem (List.mem_append_right _ (List.mem_append_left _ (List.mem_of_getElem? (i := 143) rfl))) rfl
theorem mw_0_144 : Cond.instantiable "FactFlow$Inputs" 2 ∈ wsAll := ws_mem (List.mem_append_right _ (List.mem_append_left _ (List.mem_of_getElem? (i := 144) rfl))) rfl
theorem mw_0_146 : Cond.instanceMethod y_Ip_init ∈ wsAll := ws_mem (List.mem_append_right _ (List.mem_append_left _ (List.mem_of_getElem? (i := 146) rfl))) rfl
theorem mw_0_147 : Cond.code y_Ip_init c_Ip_init 1 none ∈ wsAll := ws_mem (List.mem_append_right _ (List.mem_append_left _ (List.mem_of_getElem? (i := 147) rfl))) rfl
theorem mw_0_148 : Cond.methodLink "FactFlow$Inputs" 3 Lib.objectInit ∈ wsAll := ws_mem (List.mem_append_right _ (List.mem_append_left _ (List.mem_of_getElem? (i := 148) rfl))) rfl
theorem mw_0_149 : Cond.fieldLink "FactFlow$Inputs" 9 "FactFlow$Inputs" "numbers" "[I" ∈ wsAll := ws_mem (List.mem_append_right _ (List.mem_append_left _ (List.mem_of_getElem? (i := 149) rfl))) rfl
theorem mw_0_150 : Cond.fieldLink "FactFlow$Inputs" 15 "FactFlow$Inputs" "count" "I" ∈ wsAll := ws_mem (List.mem_append_right _ (List.mem_append_left _ (List.mem_of_getElem? (i := 150) rfl))) rfl
theorem mw_0_151 : Cond.fieldLink "FactFlow" 105 "FactFlow$Inputs" "count" "I" ∈ wsAll := ws_mem (List.mem_append_right _ (List.mem_append_left _ (List.mem_of_getElem? (i := 151) rfl))) rfl
theorem mw_0_152 : Cond.laysFinal "FactFlow$Inputs" "FactFlow$Inputs" "numbers" "[I" ∈ wsAll := ws_mem (List.mem_append_right _ (List.mem_append_left _ (List.mem_of_getElem? (i := 152) rfl))) rfl
theorem mw_0_154 : Cond.lays "FactFlow$Inputs" "FactFlow$Inputs" "count" "I" ∈ wsAll := ws_mem (List.mem_append_right _ (List.mem_append_left _ (List.mem_of_getElem? (i := 154) rfl))) rfl
theorem mw_0_157 : Cond.arrayClass .int ∈ wsAll := ws_mem (List.mem_append_right _ (List.mem_append_left _ (List.mem_of_getElem? (i := 157) rfl))) rfl
theorem mw_0_158 : Cond.classLink "FactFlow" 30 "FactFlow$Machine" ∈ wsAll := ws_mem (List.mem_append_right _ (List.mem_append_left _ (List.mem_of_getElem? (i := 158) rfl))) rfl
theorem mw_0_159 : Cond.instantiable "FactFlow$Machine" 6 ∈ wsAll := ws_mem (List.mem_append_right _ (List.mem_append_left _ (List.mem_of_getElem? (i := 159) rfl))) rfl
theorem mw_0_161 : Cond.instanceMethod y_Ma_init ∈ wsAll := ws_mem (List.mem_append_right _ (List.mem_append_left _ (List.mem_of_getElem? (i := 161) rfl))) rfl
theorem mw_0_162 : Cond.code y_Ma_init c_Ma_init 1 none ∈ wsAll := ws_mem (List.mem_append_right _ (List.mem_append_left _ (List.mem_of_getElem? (i := 162) rfl))) rfl
theorem mw_0_163 : Cond.methodLink "FactFlow$Machine" 3 Lib.objectInit ∈ wsAll := ws_mem (List.mem_append_right _ (List.mem_append_left _ (List.mem_of_getElem? (i := 163) rfl))) rfl
theorem mw_0_164 : Cond.fieldLink "FactFlow$Machine" 9 "FactFlow$Machine" "variables" "[I" ∈ wsAll := ws_mem (List.mem_append_right _ (List.mem_append_left _ (List.mem_of_getElem? (i := 164) rfl))) rfl
theorem mw_0_165 : Cond.fieldLink "FactFlow" 116 "FactFlow$Machine" "variables" "[I" ∈ wsAll := ws_mem (List.mem_append_right _ (List.mem_append_left _ (List.mem_of_getElem? (i := 165) rfl))) rfl
theorem mw_0_166 : Cond.fieldLink "FactFlow$Machine" 15 "FactFlow$Machine" "prints" "[I" ∈ wsAll := ws_mem (List.mem_append_right _ (List.mem_append_left _ (List.mem_of_getElem? (i := 166) rfl))) rfl
theorem mw_0_167 : Cond.fieldLink "FactFlow" 123 "FactFlow$Machine" "prints" "[I" ∈ wsAll := ws_mem (List.mem_append_right _ (List.mem_append_left _ (List.mem_of_getElem? (i := 167) rfl))) rfl
theorem mw_0_168 : Cond.fieldLink "FactFlow$Machine" 18 "FactFlow$Machine" "printed" "I" ∈ wsAll := ws_mem (List.mem_append_right _ (List.mem_append_left _ (List.mem_of_getElem? (i := 168) rfl))) rfl
theorem mw_0_169 : Cond.fieldLink "FactFlow" 120 "FactFlow$Machine" "printed" "I" ∈ wsAll := ws_mem (List.mem_append_right _ (List.mem_append_left _ (List.mem_of_getElem? (i := 169) rfl))) rfl
theorem mw_0_170 : Cond.fieldLink "FactFlow$Machine" 22 "FactFlow$Machine" "done" "I" ∈ wsAll := ws_mem (List.mem_append_right _ (List.mem_append_left _ (List.mem_of_getElem? (i := 170) rfl))) rfl
theorem mw_0_171 : Cond.fieldLink "FactFlow" 110 "FactFlow$Machine" "done" "I" ∈ wsAll := ws_mem (List.mem_append_right _ (List.mem_append_left _ (List.mem_of_getElem? (i := 171) rfl))) rfl
theorem mw_0_172 : Cond.fieldLink "FactFlow$Machine" 25 "FactFlow$Machine" "following" "I" ∈ wsAll := ws_mem (List.mem_append_right _ (List.mem_append_left _ (List.mem_of_getElem? (i := 172) rfl))) rfl
theorem mw_0_173 : Cond.fieldLink "FactFlow" 113 "FactFlow$Machine" "following" "I" ∈ wsAll := ws_mem (List.mem_append_right _ (List.mem_append_left _ (List.mem_of_getElem? (i := 173) rfl))) rfl
theorem mw_0_174 : Cond.fieldLink "FactFlow$Machine" 28 "FactFlow$Machine" "taken" "I" ∈ wsAll := ws_mem (List.mem_append_right _ (List.mem_append_left _ (List.mem_of_getElem? (i := 174) rfl))) rfl
theorem mw_0_175 : Cond.laysFinal "FactFlow$Machine" "FactFlow$Machine" "variables" "[I" ∈ wsAll := ws_mem (List.mem_append_right _ (List.mem_append_left _ (List.mem_of_getElem? (i := 175) rfl))) rfl
theorem mw_0_177 : Cond.laysFinal "FactFlow$Machine" "FactFlow$Machine" "prints" "[I" ∈ wsAll := ws_mem (List.mem_append_right _ (List.mem_append_left _ (List.mem_of_getElem? (i := 177) rfl))) rfl
theorem mw_0_179 : Cond.lays "FactFlow$Machine" "FactFlow$Machine" "printed" "I" ∈ wsAll := ws_mem (List.mem_append_right _ (List.mem_append_left _ (List.mem_of_getElem? (i := 179) rfl))) rfl
theorem mw_0_181 : Cond.lays "FactFlow$Machine" "FactFlow$Machine" "done" "I" ∈ wsAll := ws_mem (List.mem_append_right _ (List.mem_append_left _ (List.mem_of_getElem? (i := 181) rfl))) rfl
theorem mw_0_183 : Cond.lays "FactFlow$Machine" "FactFlow$Machine" "following" "I" ∈ wsAll := ws_mem (List.mem_append_right _ (List.mem_append_left _ (List.mem_of_getElem? (i := 183) rfl))) rfl
theorem mw_0_185 : Cond.lays "FactFlow$Machine" "FactFlow$Machine" "taken" "I" ∈ wsAll := ws_mem (List.mem_append_right _ (List.mem_append_left _ (List.mem_of_getElem? (i := 185) rfl))) rfl
theorem mw_0_188 : Cond.fieldLink "FactFlow" 12 "FactFlow" "program" "LFactFlow$Program;" ∈ wsAll := ws_mem (List.mem_append_right _ (List.mem_append_left _ (List.mem_of_getElem? (i := 188) rfl))) rfl
theorem mw_0_189 : Cond.fieldLink "FactFlow" 19 "FactFlow" "solution" "LFactFlow$Solution;" ∈ wsAll := ws_mem (List.mem_append_right _ (List.mem_append_left _ (List.mem_of_getElem? (i := 189) rfl))) rfl
theorem mw_0_190 : Cond.fieldLink "FactFlow" 26 "FactFlow" "inputs" "LFactFlow$Inputs;" ∈ wsAll := ws_mem (List.mem_append_right _ (List.mem_append_left _ (List.mem_of_getElem? (i := 190) rfl))) rfl
theorem mw_0_191 : Cond.fieldLink "FactFlow" 33 "FactFlow" "machine" "LFactFlow$Machine;" ∈ wsAll := ws_mem (List.mem_append_right _ (List.mem_append_left _ (List.mem_of_getElem? (i := 191) rfl))) rfl
theorem mw_0_192 : Cond.laysFinal "FactFlow" "FactFlow" "program" "LFactFlow$Program;" ∈ wsAll := ws_mem (List.mem_append_right _ (List.mem_append_left _ (List.mem_of_getElem? (i := 192) rfl))) rfl
theorem mw_0_194 : Cond.laysFinal "FactFlow" "FactFlow" "solution" "LFactFlow$Solution;" ∈ wsAll := ws_mem (List.mem_append_right _ (List.mem_append_left _ (List.mem_of_getElem? (i := 194) rfl))) rfl
theorem mw_0_196 : Cond.laysFinal "FactFlow" "FactFlow" "inputs" "LFactFlow$Inputs;" ∈ wsAll := ws_mem (List.mem_append_right _ (List.mem_append_left _ (List.mem_of_getElem? (i := 196) rfl))) rfl
theorem mw_0_198 : Cond.laysFinal "FactFlow" "FactFlow" "machine" "LFactFlow$Machine;" ∈ wsAll := ws_mem (List.mem_append_right _ (List.mem_append_left _ (List.mem_of_getElem? (i := 198) rfl))) rfl
theorem mw_0_201 : Cond.methodLink "FactFlowLaw" 13 y_Ff_add ∈ wsAll := ws_mem (List.mem_append_right _ (List.mem_append_left _ (List.mem_of_getElem? (i := 201) rfl))) rfl
theorem mw_0_202 : Cond.instanceMethod y_Ff_add ∈ wsAll := ws_mem (List.mem_append_right _ (List.mem_append_left _ (List.mem_of_getElem? (i := 202) rfl))) rfl
theorem mw_0_203 : Cond.selects "FactFlow" y_Ff_add y_Ff_add ∈ wsAll := ws_mem (List.mem_append_right _ (List.mem_append_left _ (List.mem_of_getElem? (i := 203) rfl))) rfl
theorem mw_0_204 : Cond.code y_Ff_add c_Ff_add 6 (some .int) ∈ wsAll := ws_mem (List.mem_append_right _ (List.mem_append_left _ (List.mem_of_getElem? (i := 204) rfl))) rfl
theorem mw_0_205 : Cond.methodLink "FactFlow" 37 y_In_isTold ∈ wsAll := ws_mem (List.mem_append_right _ (List.mem_append_left _ (List.mem_of_getElem? (i := 205) rfl))) rfl
theorem mw_0_206 : Cond.static y_In_isTold ∈ wsAll := ws_mem (List.mem_append_right _ (List.mem_append_left _ (List.mem_of_getElem? (i := 206) rfl))) rfl
theorem mw_0_207 : Cond.code y_In_isTold c_In_isTold 4 (some .boolean) ∈ wsAll := ws_mem (List.mem_append_right _ (List.mem_append_left _ (List.mem_of_getElem? (i := 207) rfl))) rfl
theorem mw_0_208 : Cond.methodLink "FactFlow$Instruction" 24 y_In_usesA ∈ wsAll := ws_mem (List.mem_append_right _ (List.mem_append_left _ (List.mem_of_getElem? (i := 208) rfl))) rfl
theorem mw_0_209 : Cond.static y_In_usesA ∈ wsAll := ws_mem (List.mem_append_right _ (List.mem_append_left _ (List.mem_of_getElem? (i := 209) rfl))) rfl
theorem mw_0_210 : Cond.code y_In_usesA c_In_usesA 1 (some .boolean) ∈ wsAll := ws_mem (List.mem_append_right _ (List.mem_append_left _ (List.mem_of_getElem? (i := 210) rfl))) rfl
theorem mw_0_212 : Cond.static y_Ff_isVariable ∈ wsAll := ws_mem (List.mem_append_right _ (List.mem_append_left _ (List.mem_of_getElem? (i := 212) rfl))) rfl
theorem mw_0_213 : Cond.code y_Ff_isVariable c_Ff_isVariable 1 (some .boolean) ∈ wsAll := ws_mem (List.mem_append_right _ (List.mem_append_left _ (List.mem_of_getElem? (i := 213) rfl))) rfl
theorem mw_0_214 : Cond.methodLink "FactFlow$Instruction" 31 y_In_usesB ∈ wsAll := ws_mem (List.mem_append_right _ (List.mem_append_left _ (List.mem_of_getElem? (i := 214) rfl))) rfl
theorem mw_0_215 : Cond.static y_In_usesB ∈ wsAll := ws_mem (List.mem_append_right _ (List.mem_append_left _ (List.mem_of_getElem? (i := 215) rfl))) rfl
theorem mw_0_216 : Cond.code y_In_usesB c_In_usesB 1 (some .boolean) ∈ wsAll := ws_mem (List.mem_append_right _ (List.mem_append_left _ (List.mem_of_getElem? (i := 216) rfl))) rfl
theorem mw_0_217 : Cond.methodLink "FactFlow$Instruction" 34 y_In_calculates ∈ wsAll := ws_mem (List.mem_append_right _ (List.mem_append_left _ (List.mem_of_getElem? (i := 217) rfl))) rfl
theorem mw_0_218 : Cond.static y_In_calculates ∈ wsAll := ws_mem (List.mem_append_right _ (List.mem_append_left _ (List.mem_of_getElem? (i := 218) rfl))) rfl
theorem mw_0_219 : Cond.code y_In_calculates c_In_calculates 1 (some .boolean) ∈ wsAll := ws_mem (List.mem_append_right _ (List.mem_append_left _ (List.mem_of_getElem? (i := 219) rfl))) rfl
theorem mw_0_220 : Cond.methodLink "FactFlow$Instruction" 37 y_In_jumps ∈ wsAll := ws_mem (List.mem_append_right _ (List.mem_append_left _ (List.mem_of_getElem? (i := 220) rfl))) rfl
theorem mw_0_221 : Cond.static y_In_jumps ∈ wsAll := ws_mem (List.mem_append_right _ (List.mem_append_left _ (List.mem_of_getElem? (i := 221) rfl))) rfl
theorem mw_0_222 : Cond.code y_In_jumps c_In_jumps 1 (some .boolean) ∈ wsAll := ws_mem (List.mem_append_right _ (List.mem_append_left _ (List.mem_of_getElem? (i := 222) rfl))) rfl
theorem mw_0_223 : Cond.methodLink "FactFlow" 51 y_In_become ∈ wsAll := ws_mem (List.mem_append_right _ (List.mem_append_left _ (List.mem_of_getElem? (i := 223) rfl))) rfl
theorem mw_0_224 : Cond.instanceMethod y_In_become ∈ wsAll := ws_mem (List.mem_append_right _ (List.mem_append_left _ (List.mem_of_getElem? (i := 224) rfl))) rfl
theorem mw_0_225 : Cond.selects "FactFlow$Instruction" y_In_become y_In_become ∈ wsAll := ws_mem (List.mem_append_right _ (List.mem_append_left _ (List.mem_of_getElem? (i := 225) rfl))) rfl
theorem mw_0_226 : Cond.code y_In_become c_In_become 5 none ∈ wsAll := ws_mem (List.mem_append_right _ (List.mem_append_left _ (List.mem_of_getElem? (i := 226) rfl))) rfl
theorem mw_0_227 : Cond.methodLink "FactFlow$Instruction" 40 y_In_usesC ∈ wsAll := ws_mem (List.mem_append_right _ (List.mem_append_left _ (List.mem_of_getElem? (i := 227) rfl))) rfl
theorem mw_0_228 : Cond.static y_In_usesC ∈ wsAll := ws_mem (List.mem_append_right _ (List.mem_append_left _ (List.mem_of_getElem? (i := 228) rfl))) rfl
theorem mw_0_229 : Cond.code y_In_usesC c_In_usesC 1 (some .boolean) ∈ wsAll := ws_mem (List.mem_append_right _ (List.mem_append_left _ (List.mem_of_getElem? (i := 229) rfl))) rfl
theorem mw_0_230 : Cond.methodLink "FactFlowLaw" 18 y_Ff_put ∈ wsAll := ws_mem (List.mem_append_right _ (List.mem_append_left _ (List.mem_of_getElem? (i := 230) rfl))) rfl
theorem mw_0_231 : Cond.instanceMethod y_Ff_put ∈ wsAll := ws_mem (List.mem_append_right _ (List.mem_append_left _ (List.mem_of_getElem? (i := 231) rfl))) rfl
theorem mw_0_232 : Cond.selects "FactFlow" y_Ff_put y_Ff_put ∈ wsAll := ws_mem (List.mem_append_right _ (List.mem_append_left _ (List.mem_of_getElem? (i := 232) rfl))) rfl
theorem mw_0_233 : Cond.code y_Ff_put c_Ff_put 6 (some .boolean) ∈ wsAll := ws_mem (List.mem_append_right _ (List.mem_append_left _ (List.mem_of_getElem? (i := 233) rfl))) rfl
theorem mw_0_234 : Cond.methodLink "FactFlow" 59 y_Pr_has ∈ wsAll := ws_mem (List.mem_append_right _ (List.mem_append_left _ (List.mem_of_getElem? (i := 234) rfl))) rfl
theorem mw_0_235 : Cond.instanceMethod y_Pr_has ∈ wsAll := ws_mem (List.mem_append_right _ (List.mem_append_left _ (List.mem_of_getElem? (i := 235) rfl))) rfl
theorem mw_0_236 : Cond.selects "FactFlow$Program" y_Pr_has y_Pr_has ∈ wsAll := ws_mem (List.mem_append_right _ (List.mem_append_left _ (List.mem_of_getElem? (i := 236) rfl))) rfl
theorem mw_0_237 : Cond.code y_Pr_has c_Pr_has 2 (some .boolean) ∈ wsAll := ws_mem (List.mem_append_right _ (List.mem_append_left _ (List.mem_of_getElem? (i := 237) rfl))) rfl
theorem mw_0_238 : Cond.methodLink "FactFlowLaw" 23 y_Ff_clear ∈ wsAll := ws_mem (List.mem_append_right _ (List.mem_append_left _ (List.mem_of_getElem? (i := 238) rfl))) rfl
theorem mw_0_239 : Cond.instanceMethod y_Ff_clear ∈ wsAll := ws_mem (List.mem_append_right _ (List.mem_append_left _ (List.mem_of_getElem? (i := 239) rfl))) rfl
theorem mw_1_0 : Cond.selects "FactFlow" y_Ff_clear y_Ff_clear ∈ wsAll := ws_mem (List.mem_append_right _ (List.mem_append_right _ (List.mem_append_left _ (List.mem_of_getElem? (i := 0) rfl)))) rfl
theorem mw_1_1 : Cond.code y_Ff_clear c_Ff_clear 1 none ∈ wsAll := ws_mem (List.mem_append_right _ (List.mem_append_right _ (List.mem_append_left _ (List.mem_of_getElem? (i := 1) rfl)))) rfl
theorem mw_1_2 : Cond.methodLink "FactFlowLaw" 27 y_Ff_length ∈ wsAll := ws_mem (List.mem_append_right _ (List.mem_append_right _ (List.mem_append_left _ (List.mem_of_getElem? (i := 2) rfl)))) rfl
theorem mw_1_3 : Cond.instanceMethod y_Ff_length ∈ wsAll := ws_mem (List.mem_append_right _ (List.mem_append_right _ (List.mem_append_left _ (List.mem_of_getElem? (i := 3) rfl)))) rfl
theorem mw_1_4 : Cond.selects "FactFlow" y_Ff_length y_Ff_length ∈ wsAll := ws_mem (List.mem_append_right _ (List.mem_append_right _ (List.mem_append_left _ (List.mem_of_getElem? (i := 4) rfl)))) rfl
theorem mw_1_5 : Cond.code y_Ff_length c_Ff_length 1 (some .int) ∈ wsAll := ws_mem (List.mem_append_right _ (List.mem_append_right _ (List.mem_append_left _ (List.mem_of_getElem? (i := 5) rfl)))) rfl
theorem mw_1_6 : Cond.methodLink "FactFlowLaw" 32 y_Ff_code ∈ wsAll := ws_mem (List.mem_append_right _ (List.mem_append_right _ (List.mem_append_left _ (List.mem_of_getElem? (i := 6) rfl)))) rfl
theorem mw_1_7 : Cond.instanceMethod y_Ff_code ∈ wsAll := ws_mem (List.mem_append_right _ (List.mem_append_right _ (List.mem_append_left _ (List.mem_of_getElem? (i := 7) rfl)))) rfl
theorem mw_1_8 : Cond.selects "FactFlow" y_Ff_code y_Ff_code ∈ wsAll := ws_mem (List.mem_append_right _ (List.mem_append_right _ (List.mem_append_left _ (List.mem_of_getElem? (i := 8) rfl)))) rfl
theorem mw_1_9 : Cond.code y_Ff_code c_Ff_code 3 (some .int) ∈ wsAll := ws_mem (List.mem_append_right _ (List.mem_append_right _ (List.mem_append_left _ (List.mem_of_getElem? (i := 9) rfl)))) rfl
theorem mw_1_10 : Cond.methodLink "FactFlow" 63 y_In_partOf ∈ wsAll := ws_mem (List.mem_append_right _ (List.mem_append_right _ (List.mem_append_left _ (List.mem_of_getElem? (i := 10) rfl)))) rfl
theorem mw_1_11 : Cond.instanceMethod y_In_partOf ∈ wsAll := ws_mem (List.mem_append_right _ (List.mem_append_right _ (List.mem_append_left _ (List.mem_of_getElem? (i := 11) rfl)))) rfl
theorem mw_1_12 : Cond.selects "FactFlow$Instruction" y_In_partOf y_In_partOf ∈ wsAll := ws_mem (List.mem_append_right _ (List.mem_append_right _ (List.mem_append_left _ (List.mem_of_getElem? (i := 12) rfl)))) rfl
theorem mw_1_13 : Cond.code y_In_partOf c_In_partOf 2 (some .int) ∈ wsAll := ws_mem (List.mem_append_right _ (List.mem_append_right _ (List.mem_append_left _ (List.mem_of_getElem? (i := 13) rfl)))) rfl
theorem mw_1_14 : Cond.methodLink "FactFlowLaw" 37 y_Ff_reached ∈ wsAll := ws_mem (List.mem_append_right _ (List.mem_append_right _ (List.mem_append_left _ (List.mem_of_getElem? (i := 14) rfl)))) rfl
theorem mw_1_15 : Cond.instanceMethod y_Ff_reached ∈ wsAll := ws_mem (List.mem_append_right _ (List.mem_append_right _ (List.mem_append_left _ (List.mem_of_getElem? (i := 15) rfl)))) rfl
theorem mw_1_16 : Cond.selects "FactFlow" y_Ff_reached y_Ff_reached ∈ wsAll := ws_mem (List.mem_append_right _ (List.mem_append_right _ (List.mem_append_left _ (List.mem_of_getElem? (i := 16) rfl)))) rfl
theorem mw_1_17 : Cond.code y_Ff_reached c_Ff_reached 2 (some .boolean) ∈ wsAll := ws_mem (List.mem_append_right _ (List.mem_append_right _ (List.mem_append_left _ (List.mem_of_getElem? (i := 17) rfl)))) rfl
theorem mw_1_18 : Cond.methodLink "FactFlow" 67 y_So_find ∈ wsAll := ws_mem (List.mem_append_right _ (List.mem_append_right _ (List.mem_append_left _ (List.mem_of_getElem? (i := 18) rfl)))) rfl
theorem mw_1_19 : Cond.instanceMethod y_So_find ∈ wsAll := ws_mem (List.mem_append_right _ (List.mem_append_right _ (List.mem_append_left _ (List.mem_of_getElem? (i := 19) rfl)))) rfl
theorem mw_1_20 : Cond.selects "FactFlow$Solution" y_So_find y_So_find ∈ wsAll := ws_mem (List.mem_append_right _ (List.mem_append_right _ (List.mem_append_left _ (List.mem_of_getElem? (i := 20) rfl)))) rfl
theorem mw_1_21 : Cond.code y_So_find c_So_find 5 none ∈ wsAll := ws_mem (List.mem_append_right _ (List.mem_append_right _ (List.mem_append_left _ (List.mem_of_getElem? (i := 21) rfl)))) rfl
theorem mw_1_22 : Cond.methodLink "FactFlow$Solution" 30 y_So_begin ∈ wsAll := ws_mem (List.mem_append_right _ (List.mem_append_right _ (List.mem_append_left _ (List.mem_of_getElem? (i := 22) rfl)))) rfl
theorem mw_1_24 : Cond.instanceMethod y_So_begin ∈ wsAll := ws_mem (List.mem_append_right _ (List.mem_append_right _ (List.mem_append_left _ (List.mem_of_getElem? (i := 24) rfl)))) rfl
theorem mw_1_25 : Cond.code y_So_begin c_So_begin 2 none ∈ wsAll := ws_mem (List.mem_append_right _ (List.mem_append_right _ (List.mem_append_left _ (List.mem_of_getElem? (i := 25) rfl)))) rfl
theorem mw_1_26 : Cond.methodLink "FactFlow$Solution" 46 y_St_becomeZeros ∈ wsAll := ws_mem (List.mem_append_right _ (List.mem_append_right _ (List.mem_append_left _ (List.mem_of_getElem? (i := 26) rfl)))) rfl
theorem mw_1_27 : Cond.instanceMethod y_St_becomeZeros ∈ wsAll := ws_mem (List.mem_append_right _ (List.mem_append_right _ (List.mem_append_left _ (List.mem_of_getElem? (i := 27) rfl)))) rfl
theorem mw_1_28 : Cond.selects "FactFlow$State" y_St_becomeZeros y_St_becomeZeros ∈ wsAll := ws_mem (List.mem_append_right _ (List.mem_append_right _ (List.mem_append_left _ (List.mem_of_getElem? (i := 28) rfl)))) rfl
theorem mw_1_29 : Cond.code y_St_becomeZeros c_St_becomeZeros 2 none ∈ wsAll := ws_mem (List.mem_append_right _ (List.mem_append_right _ (List.mem_append_left _ (List.mem_of_getElem? (i := 29) rfl)))) rfl
theorem mw_1_30 : Cond.methodLink "FactFlow$State" 22 y_Fa_becomeNumber ∈ wsAll := ws_mem (List.mem_append_right _ (List.mem_append_right _ (List.mem_append_left _ (List.mem_of_getElem? (i := 30) rfl)))) rfl
theorem mw_1_31 : Cond.instanceMethod y_Fa_becomeNumber ∈ wsAll := ws_mem (List.mem_append_right _ (List.mem_append_right _ (List.mem_append_left _ (List.mem_of_getElem? (i := 31) rfl)))) rfl
theorem mw_1_32 : Cond.selects "FactFlow$Fact" y_Fa_becomeNumber y_Fa_becomeNumber ∈ wsAll := ws_mem (List.mem_append_right _ (List.mem_append_right _ (List.mem_append_left _ (List.mem_of_getElem? (i := 32) rfl)))) rfl
theorem mw_1_33 : Cond.code y_Fa_becomeNumber c_Fa_becomeNumber 2 none ∈ wsAll := ws_mem (List.mem_append_right _ (List.mem_append_right _ (List.mem_append_left _ (List.mem_of_getElem? (i := 33) rfl)))) rfl
theorem mw_1_34 : Cond.methodLink "FactFlow$Fact" 21 y_Fa_reduce ∈ wsAll := ws_mem (List.mem_append_right _ (List.mem_append_right _ (List.mem_append_left _ (List.mem_of_getElem? (i := 34) rfl)))) rfl
theorem mw_1_36 : Cond.instanceMethod y_Fa_reduce ∈ wsAll := ws_mem (List.mem_append_right _ (List.mem_append_right _ (List.mem_append_left _ (List.mem_of_getElem? (i := 36) rfl)))) rfl
theorem mw_1_37 : Cond.code y_Fa_reduce c_Fa_reduce 1 none ∈ wsAll := ws_mem (List.mem_append_right _ (List.mem_append_right _ (List.mem_append_left _ (List.mem_of_getElem? (i := 37) rfl)))) rfl
theorem mw_1_38 : Cond.methodLink "FactFlow$Solution" 39 y_So_carry ∈ wsAll := ws_mem (List.mem_append_right _ (List.mem_append_right _ (List.mem_append_left _ (List.mem_of_getElem? (i := 38) rfl)))) rfl
theorem mw_1_40 : Cond.instanceMethod y_So_carry ∈ wsAll := ws_mem (List.mem_append_right _ (List.mem_append_right _ (List.mem_append_left _ (List.mem_of_getElem? (i := 40) rfl)))) rfl
theorem mw_1_41 : Cond.code y_So_carry c_So_carry 4 none ∈ wsAll := ws_mem (List.mem_append_right _ (List.mem_append_right _ (List.mem_append_left _ (List.mem_of_getElem? (i := 41) rfl)))) rfl
theorem mw_1_42 : Cond.methodLink "FactFlow$Solution" 53 y_St_becomeSame ∈ wsAll := ws_mem (List.mem_append_right _ (List.mem_append_right _ (List.mem_append_left _ (List.mem_of_getElem? (i := 42) rfl)))) rfl
theorem mw_1_43 : Cond.instanceMethod y_St_becomeSame ∈ wsAll := ws_mem (List.mem_append_right _ (List.mem_append_right _ (List.mem_append_left _ (List.mem_of_getElem? (i := 43) rfl)))) rfl
theorem mw_1_44 : Cond.selects "FactFlow$State" y_St_becomeSame y_St_becomeSame ∈ wsAll := ws_mem (List.mem_append_right _ (List.mem_append_right _ (List.mem_append_left _ (List.mem_of_getElem? (i := 44) rfl)))) rfl
theorem mw_1_45 : Cond.code y_St_becomeSame c_St_becomeSame 3 none ∈ wsAll := ws_mem (List.mem_append_right _ (List.mem_append_right _ (List.mem_append_left _ (List.mem_of_getElem? (i := 45) rfl)))) rfl
theorem mw_1_46 : Cond.methodLink "FactFlow$State" 26 y_Fa_becomeSame ∈ wsAll := ws_mem (List.mem_append_right _ (List.mem_append_right _ (List.mem_append_left _ (List.mem_of_getElem? (i := 46) rfl)))) rfl
theorem mw_1_47 : Cond.instanceMethod y_Fa_becomeSame ∈ wsAll := ws_mem (List.mem_append_right _ (List.mem_append_right _ (List.mem_append_left _ (List.mem_of_getElem? (i := 47) rfl)))) rfl
theorem mw_1_48 : Cond.selects "FactFlow$Fact" y_Fa_becomeSame y_Fa_becomeSame ∈ wsAll := ws_mem (List.mem_append_right _ (List.mem_append_right _ (List.mem_append_left _ (List.mem_of_getElem? (i := 48) rfl)))) rfl
theorem mw_1_49 : Cond.code y_Fa_becomeSame c_Fa_becomeSame 2 none ∈ wsAll := ws_mem (List.mem_append_right _ (List.mem_append_right _ (List.mem_append_left _ (List.mem_of_getElem? (i := 49) rfl)))) rfl
theorem mw_1_50 : Cond.methodLink "FactFlow$Solution" 65 y_So_arrive ∈ wsAll := ws_mem (List.mem_append_right _ (List.mem_append_right _ (List.mem_append_left _ (List.mem_of_getElem? (i := 50) rfl)))) rfl
theorem mw_1_52 : Cond.instanceMethod y_So_arrive ∈ wsAll := ws_mem (List.mem_append_right _ (List.mem_append_right _ (List.mem_append_left _ (List.mem_of_getElem? (i := 52) rfl)))) rfl
theorem mw_1_53 : Cond.code y_So_arrive c_So_arrive 3 none ∈ wsAll := ws_mem (List.mem_append_right _ (List.mem_append_right _ (List.mem_append_left _ (List.mem_of_getElem? (i := 53) rfl)))) rfl
theorem mw_1_54 : Cond.methodLink "FactFlow$Solution" 83 y_Pr_has ∈ wsAll := ws_mem (List.mem_append_right _ (List.mem_append_right _ (List.mem_append_left _ (List.mem_of_getElem? (i := 54) rfl)))) rfl
theorem mw_1_55 : Cond.methodLink "FactFlow$Solution" 87 y_St_joinWith ∈ wsAll := ws_mem (List.mem_append_right _ (List.mem_append_right _ (List.mem_append_left _ (List.mem_of_getElem? (i := 55) rfl)))) rfl
theorem mw_1_56 : Cond.instanceMethod y_St_joinWith ∈ wsAll := ws_mem (List.mem_append_right _ (List.mem_append_right _ (List.mem_append_left _ (List.mem_of_getElem? (i := 56) rfl)))) rfl
theorem mw_1_57 : Cond.selects "FactFlow$State" y_St_joinWith y_St_joinWith ∈ wsAll := ws_mem (List.mem_append_right _ (List.mem_append_right _ (List.mem_append_left _ (List.mem_of_getElem? (i := 57) rfl)))) rfl
theorem mw_1_58 : Cond.code y_St_joinWith c_St_joinWith 4 (some .boolean) ∈ wsAll := ws_mem (List.mem_append_right _ (List.mem_append_right _ (List.mem_append_left _ (List.mem_of_getElem? (i := 58) rfl)))) rfl
theorem mw_1_59 : Cond.methodLink "FactFlow$State" 61 y_St_becomeSame ∈ wsAll := ws_mem (List.mem_append_right _ (List.mem_append_right _ (List.mem_append_left _ (List.mem_of_getElem? (i := 59) rfl)))) rfl
theorem mw_1_60 : Cond.methodLink "FactFlow$State" 64 y_Fa_joinWith ∈ wsAll := ws_mem (List.mem_append_right _ (List.mem_append_right _ (List.mem_append_left _ (List.mem_of_getElem? (i := 60) rfl)))) rfl
theorem mw_1_61 : Cond.instanceMethod y_Fa_joinWith ∈ wsAll := ws_mem (List.mem_append_right _ (List.mem_append_right _ (List.mem_append_left _ (List.mem_of_getElem? (i := 61) rfl)))) rfl
theorem mw_1_62 : Cond.selects "FactFlow$Fact" y_Fa_joinWith y_Fa_joinWith ∈ wsAll := ws_mem (List.mem_append_right _ (List.mem_append_right _ (List.mem_append_left _ (List.mem_of_getElem? (i := 62) rfl)))) rfl
theorem mw_1_63 : Cond.code y_Fa_joinWith c_Fa_joinWith 6 (some .boolean) ∈ wsAll := ws_mem (List.mem_append_right _ (List.mem_append_right _ (List.mem_append_left _ (List.mem_of_getElem? (i := 63) rfl)))) rfl
theorem mw_1_64 : Cond.methodLink "FactFlow$Fact" 48 Lib.Math.min.name ∈ wsAll := ws_mem (List.mem_append_right _ (List.mem_append_right _ (List.mem_append_left _ (List.mem_of_getElem? (i := 64) rfl)))) rfl
theorem mw_1_65 : Cond.static Lib.Math.min.name ∈ wsAll := ws_mem (List.mem_append_right _ (List.mem_append_right _ (List.mem_append_left _ (List.mem_of_getElem? (i := 65) rfl)))) rfl
theorem mw_1_66 : Cond.code Lib.Math.min.name Lib.Math.min.code 2 (some .int) ∈ wsAll := ws_mem (List.mem_append_right _ (List.mem_append_right _ (List.mem_append_left _ (List.mem_of_getElem? (i := 66) rfl)))) rfl
theorem mw_1_67 : Cond.methodLink "FactFlow$Fact" 53 y_Ig_numberOfTrailingZeros ∈ wsAll := ws_mem (List.mem_append_right _ (List.mem_append_right _ (List.mem_append_left _ (List.mem_of_getElem? (i := 67) rfl)))) rfl
theorem mw_1_68 : Cond.static y_Ig_numberOfTrailingZeros ∈ wsAll := ws_mem (List.mem_append_right _ (List.mem_append_right _ (List.mem_append_left _ (List.mem_of_getElem? (i := 68) rfl)))) rfl
theorem mw_1_69 : Cond.code y_Ig_numberOfTrailingZeros c_Ig_numberOfTrailingZeros 2 (some .int) ∈ wsAll := ws_mem (List.mem_append_right _ (List.mem_append_right _ (List.mem_append_left _ (List.mem_of_getElem? (i := 69) rfl)))) rfl
theorem mw_1_70 : Cond.constant "java/lang/Integer" 264 65536 ∈ wsAll := ws_mem (List.mem_append_right _ (List.mem_append_right _ (List.mem_append_left _ (List.mem_of_getElem? (i := 70) rfl)))) rfl
theorem mw_1_71 : Cond.methodLink "FactFlow$Fact" 44 y_Fa_lastBits ∈ wsAll := ws_mem (List.mem_append_right _ (List.mem_append_right _ (List.mem_append_left _ (List.mem_of_getElem? (i := 71) rfl)))) rfl
theorem mw_1_72 : Cond.static y_Fa_lastBits ∈ wsAll := ws_mem (List.mem_append_right _ (List.mem_append_right _ (List.mem_append_left _ (List.mem_of_getElem? (i := 72) rfl)))) rfl
theorem mw_1_73 : Cond.code y_Fa_lastBits c_Fa_lastBits 2 (some .int) ∈ wsAll := ws_mem (List.mem_append_right _ (List.mem_append_right _ (List.mem_append_left _ (List.mem_of_getElem? (i := 73) rfl)))) rfl
theorem mw_1_74 : Cond.methodLink "FactFlow$Solution" 71 y_In_jumpSigns ∈ wsAll := ws_mem (List.mem_append_right _ (List.mem_append_right _ (List.mem_append_left _ (List.mem_of_getElem? (i := 74) rfl)))) rfl
theorem mw_1_75 : Cond.instanceMethod y_In_jumpSigns ∈ wsAll := ws_mem (List.mem_append_right _ (List.mem_append_right _ (List.mem_append_left _ (List.mem_of_getElem? (i := 75) rfl)))) rfl
theorem mw_1_76 : Cond.selects "FactFlow$Instruction" y_In_jumpSigns y_In_jumpSigns ∈ wsAll := ws_mem (List.mem_append_right _ (List.mem_append_right _ (List.mem_append_left _ (List.mem_of_getElem? (i := 76) rfl)))) rfl
theorem mw_1_77 : Cond.code y_In_jumpSigns c_In_jumpSigns 1 (some .int) ∈ wsAll := ws_mem (List.mem_append_right _ (List.mem_append_right _ (List.mem_append_left _ (List.mem_of_getElem? (i := 77) rfl)))) rfl
theorem mw_1_78 : Cond.methodLink "FactFlow$Solution" 75 y_St_keepSigns ∈ wsAll := ws_mem (List.mem_append_right _ (List.mem_append_right _ (List.mem_append_left _ (List.mem_of_getElem? (i := 78) rfl)))) rfl
theorem mw_1_79 : Cond.instanceMethod y_St_keepSigns ∈ wsAll := ws_mem (List.mem_append_right _ (List.mem_append_right _ (List.mem_append_left _ (List.mem_of_getElem? (i := 79) rfl)))) rfl
theorem mw_1_80 : Cond.selects "FactFlow$State" y_St_keepSigns y_St_keepSigns ∈ wsAll := ws_mem (List.mem_append_right _ (List.mem_append_right _ (List.mem_append_left _ (List.mem_of_getElem? (i := 80) rfl)))) rfl
theorem mw_1_81 : Cond.code y_St_keepSigns c_St_keepSigns 3 none ∈ wsAll := ws_mem (List.mem_append_right _ (List.mem_append_right _ (List.mem_append_left _ (List.mem_of_getElem? (i := 81) rfl)))) rfl
theorem mw_1_82 : Cond.methodLink "FactFlow$State" 30 y_Fa_keepSigns ∈ wsAll := ws_mem (List.mem_append_right _ (List.mem_append_right _ (List.mem_append_left _ (List.mem_of_getElem? (i := 82) rfl)))) rfl
theorem mw_1_83 : Cond.instanceMethod y_Fa_keepSigns ∈ wsAll := ws_mem (List.mem_append_right _ (List.mem_append_right _ (List.mem_append_left _ (List.mem_of_getElem? (i := 83) rfl)))) rfl
theorem mw_1_84 : Cond.selects "FactFlow$Fact" y_Fa_keepSigns y_Fa_keepSigns ∈ wsAll := ws_mem (List.mem_append_right _ (List.mem_append_right _ (List.mem_append_left _ (List.mem_of_getElem? (i := 84) rfl)))) rfl
theorem mw_1_85 : Cond.code y_Fa_keepSigns c_Fa_keepSigns 2 none ∈ wsAll := ws_mem (List.mem_append_right _ (List.mem_append_right _ (List.mem_append_left _ (List.mem_of_getElem? (i := 85) rfl)))) rfl
theorem mw_1_86 : Cond.methodLink "FactFlow$Solution" 79 y_St_goThrough ∈ wsAll := ws_mem (List.mem_append_right _ (List.mem_append_right _ (List.mem_append_left _ (List.mem_of_getElem? (i := 86) rfl)))) rfl
theorem mw_1_87 : Cond.instanceMethod y_St_goThrough ∈ wsAll := ws_mem (List.mem_append_right _ (List.mem_append_right _ (List.mem_append_left _ (List.mem_of_getElem? (i := 87) rfl)))) rfl
theorem mw_1_88 : Cond.selects "FactFlow$State" y_St_goThrough y_St_goThrough ∈ wsAll := ws_mem (List.mem_append_right _ (List.mem_append_right _ (List.mem_append_left _ (List.mem_of_getElem? (i := 88) rfl)))) rfl
theorem mw_1_89 : Cond.code y_St_goThrough c_St_goThrough 2 none ∈ wsAll := ws_mem (List.mem_append_right _ (List.mem_append_right _ (List.mem_append_left _ (List.mem_of_getElem? (i := 89) rfl)))) rfl
theorem mw_1_90 : Cond.methodLink "FactFlow$State" 51 y_Fa_becomeResult ∈ wsAll := ws_mem (List.mem_append_right _ (List.mem_append_right _ (List.mem_append_left _ (List.mem_of_getElem? (i := 90) rfl)))) rfl
theorem mw_1_91 : Cond.instanceMethod y_Fa_becomeResult ∈ wsAll := ws_mem (List.mem_append_right _ (List.mem_append_right _ (List.mem_append_left _ (List.mem_of_getElem? (i := 91) rfl)))) rfl
theorem mw_1_92 : Cond.selects "FactFlow$Fact" y_Fa_becomeResult y_Fa_becomeResult ∈ wsAll := ws_mem (List.mem_append_right _ (List.mem_append_right _ (List.mem_append_left _ (List.mem_of_getElem? (i := 92) rfl)))) rfl
theorem mw_1_93 : Cond.code y_Fa_becomeResult c_Fa_becomeResult 7 none ∈ wsAll := ws_mem (List.mem_append_right _ (List.mem_append_right _ (List.mem_append_left _ (List.mem_of_getElem? (i := 93) rfl)))) rfl
theorem mw_1_94 : Cond.methodLink "FactFlow$Fact" 24 y_Fa_productBits ∈ wsAll := ws_mem (List.mem_append_right _ (List.mem_append_right _ (List.mem_append_left _ (List.mem_of_getElem? (i := 94) rfl)))) rfl
theorem mw_1_95 : Cond.static y_Fa_productBits ∈ wsAll := ws_mem (List.mem_append_right _ (List.mem_append_right _ (List.mem_append_left _ (List.mem_of_getElem? (i := 95) rfl)))) rfl
theorem mw_1_96 : Cond.code y_Fa_productBits c_Fa_productBits 5 (some .int) ∈ wsAll := ws_mem (List.mem_append_right _ (List.mem_append_right _ (List.mem_append_left _ (List.mem_of_getElem? (i := 96) rfl)))) rfl
theorem mw_1_97 : Cond.methodLink "FactFlow$Fact" 28 y_Fa_otherBits ∈ wsAll := ws_mem (List.mem_append_right _ (List.mem_append_right _ (List.mem_append_left _ (List.mem_of_getElem? (i := 97) rfl)))) rfl
theorem mw_1_98 : Cond.static y_Fa_otherBits ∈ wsAll := ws_mem (List.mem_append_right _ (List.mem_append_right _ (List.mem_append_left _ (List.mem_of_getElem? (i := 98) rfl)))) rfl
theorem mw_1_99 : Cond.code y_Fa_otherBits c_Fa_otherBits 4 (some .int) ∈ wsAll := ws_mem (List.mem_append_right _ (List.mem_append_right _ (List.mem_append_left _ (List.mem_of_getElem? (i := 99) rfl)))) rfl
theorem mw_1_101 : Cond.static y_Ff_calculated ∈ wsAll := ws_mem (List.mem_append_right _ (List.mem_append_right _ (List.mem_append_left _ (List.mem_of_getElem? (i := 101) rfl)))) rfl
theorem mw_1_102 : Cond.code y_Ff_calculated c_Ff_calculated 3 (some .int) ∈ wsAll := ws_mem (List.mem_append_right _ (List.mem_append_right _ (List.mem_append_left _ (List.mem_of_getElem? (i := 102) rfl)))) rfl
theorem mw_1_103 : Cond.methodLink "FactFlow$Fact" 36 y_Fa_signTable ∈ wsAll := ws_mem (List.mem_append_right _ (List.mem_append_right _ (List.mem_append_left _ (List.mem_of_getElem? (i := 103) rfl)))) rfl
theorem mw_1_104 : Cond.static y_Fa_signTable ∈ wsAll := ws_mem (List.mem_append_right _ (List.mem_append_right _ (List.mem_append_left _ (List.mem_of_getElem? (i := 104) rfl)))) rfl
theorem mw_1_105 : Cond.code y_Fa_signTable c_Fa_signTable 1 (some (.array .int)) ∈ wsAll := ws_mem (List.mem_append_right _ (List.mem_append_right _ (List.mem_append_left _ (List.mem_of_getElem? (i := 105) rfl)))) rfl
theorem mw_1_106 : Cond.fieldLink "FactFlow$Fact" 59 "FactFlow$Fact" "SUM_SIGNS" "[I" ∈ wsAll := ws_mem (List.mem_append_right _ (List.mem_append_right _ (List.mem_append_left _ (List.mem_of_getElem? (i := 106) rfl)))) rfl
theorem mw_1_108 : Cond.fieldLink "FactFlow$Fact" 63 "FactFlow$Fact" "DIFFERENCE_SIGNS" "[I" ∈ wsAll := ws_mem (List.mem_append_right _ (List.mem_append_right _ (List.mem_append_left _ (List.mem_of_getElem? (i := 108) rfl)))) rfl
theorem mw_1_110 : Cond.fieldLink "FactFlow$Fact" 66 "FactFlow$Fact" "PRODUCT_SIGNS" "[I" ∈ wsAll := ws_mem (List.mem_append_right _ (List.mem_append_right _ (List.mem_append_left _ (List.mem_of_getElem? (i := 110) rfl)))) rfl
theorem mw_1_112 : Cond.fieldLink "FactFlow$Fact" 69 "FactFlow$Fact" "QUOTIENT_SIGNS" "[I" ∈ wsAll := ws_mem (List.mem_append_right _ (List.mem_append_right _ (List.mem_append_left _ (List.mem_of_getElem? (i := 112) rfl)))) rfl
theorem mw_1_114 : Cond.methodLink "FactFlow$Fact" 40 y_Fa_resultSigns ∈ wsAll := ws_mem (List.mem_append_right _ (List.mem_append_right _ (List.mem_append_left _ (List.mem_of_getElem? (i := 114) rfl)))) rfl
theorem mw_1_115 : Cond.static y_Fa_resultSigns ∈ wsAll := ws_mem (List.mem_append_right _ (List.mem_append_right _ (List.mem_append_left _ (List.mem_of_getElem? (i := 115) rfl)))) rfl
theorem mw_1_116 : Cond.code y_Fa_resultSigns c_Fa_resultSigns 6 (some .int) ∈ wsAll := ws_mem (List.mem_append_right _ (List.mem_append_right _ (List.mem_append_left _ (List.mem_of_getElem? (i := 116) rfl)))) rfl
theorem mw_1_117 : Cond.methodLink "FactFlow$State" 55 y_St_keepSigns ∈ wsAll := ws_mem (List.mem_append_right _ (List.mem_append_right _ (List.mem_append_left _ (List.mem_of_getElem? (i := 117) rfl)))) rfl
theorem mw_1_118 : Cond.methodLink "FactFlow$State" 58 y_Fa_becomeAnything ∈ wsAll := ws_mem (List.mem_append_right _ (List.mem_append_right _ (List.mem_append_left _ (List.mem_of_getElem? (i := 118) rfl)))) rfl
theorem mw_1_119 : Cond.instanceMethod y_Fa_becomeAnything ∈ wsAll := ws_mem (List.mem_append_right _ (List.mem_append_right _ (List.mem_append_left _ (List.mem_of_getElem? (i := 119) rfl)))) rfl
theorem mw_1_120 : Cond.selects "FactFlow$Fact" y_Fa_becomeAnything y_Fa_becomeAnything ∈ wsAll := ws_mem (List.mem_append_right _ (List.mem_append_right _ (List.mem_append_left _ (List.mem_of_getElem? (i := 120) rfl)))) rfl
theorem mw_1_121 : Cond.code y_Fa_becomeAnything c_Fa_becomeAnything 1 none ∈ wsAll := ws_mem (List.mem_append_right _ (List.mem_append_right _ (List.mem_append_left _ (List.mem_of_getElem? (i := 121) rfl)))) rfl
theorem mw_1_122 : Cond.methodLink "FactFlow" 71 y_Ff_comesTo ∈ wsAll := ws_mem (List.mem_append_right _ (List.mem_append_right _ (List.mem_append_left _ (List.mem_of_getElem? (i := 122) rfl)))) rfl
theorem mw_1_124 : Cond.instanceMethod y_Ff_comesTo ∈ wsAll := ws_mem (List.mem_append_right _ (List.mem_append_right _ (List.mem_append_left _ (List.mem_of_getElem? (i := 124) rfl)))) rfl
theorem mw_1_125 : Cond.code y_Ff_comesTo c_Ff_comesTo 2 (some .boolean) ∈ wsAll := ws_mem (List.mem_append_right _ (List.mem_append_right _ (List.mem_append_left _ (List.mem_of_getElem? (i := 125) rfl)))) rfl
theorem mw_1_126 : Cond.methodLink "FactFlowLaw" 42 y_Ff_bits ∈ wsAll := ws_mem (List.mem_append_right _ (List.mem_append_right _ (List.mem_append_left _ (List.mem_of_getElem? (i := 126) rfl)))) rfl
theorem mw_1_127 : Cond.instanceMethod y_Ff_bits ∈ wsAll := ws_mem (List.mem_append_right _ (List.mem_append_right _ (List.mem_append_left _ (List.mem_of_getElem? (i := 127) rfl)))) rfl
theorem mw_1_128 : Cond.selects "FactFlow" y_Ff_bits y_Ff_bits ∈ wsAll := ws_mem (List.mem_append_right _ (List.mem_append_right _ (List.mem_append_left _ (List.mem_of_getElem? (i := 128) rfl)))) rfl
theorem mw_1_129 : Cond.code y_Ff_bits c_Ff_bits 3 (some .int) ∈ wsAll := ws_mem (List.mem_append_right _ (List.mem_append_right _ (List.mem_append_left _ (List.mem_of_getElem? (i := 129) rfl)))) rfl
theorem mw_1_130 : Cond.methodLink "FactFlow" 74 y_Ff_isVariable ∈ wsAll := ws_mem (List.mem_append_right _ (List.mem_append_right _ (List.mem_append_left _ (List.mem_of_getElem? (i := 130) rfl)))) rfl
theorem mw_1_131 : Cond.methodLink "FactFlowLaw" 46 y_Ff_rest ∈ wsAll := ws_mem (List.mem_append_right _ (List.mem_append_right _ (List.mem_append_left _ (List.mem_of_getElem? (i := 131) rfl)))) rfl
theorem mw_1_132 : Cond.instanceMethod y_Ff_rest ∈ wsAll := ws_mem (List.mem_append_right _ (List.mem_append_right _ (List.mem_append_left _ (List.mem_of_getElem? (i := 132) rfl)))) rfl
theorem mw_1_133 : Cond.selects "FactFlow" y_Ff_rest y_Ff_rest ∈ wsAll := ws_mem (List.mem_append_right _ (List.mem_append_right _ (List.mem_append_left _ (List.mem_of_getElem? (i := 133) rfl)))) rfl
theorem mw_1_134 : Cond.code y_Ff_rest c_Ff_rest 3 (some .int) ∈ wsAll := ws_mem (List.mem_append_right _ (List.mem_append_right _ (List.mem_append_left _ (List.mem_of_getElem? (i := 134) rfl)))) rfl
theorem mw_1_135 : Cond.methodLink "FactFlowLaw" 50 y_Ff_signs ∈ wsAll := ws_mem (List.mem_append_right _ (List.mem_append_right _ (List.mem_append_left _ (List.mem_of_getElem? (i := 135) rfl)))) rfl
theorem mw_1_136 : Cond.instanceMethod y_Ff_signs ∈ wsAll := ws_mem (List.mem_append_right _ (List.mem_append_right _ (List.mem_append_left _ (List.mem_of_getElem? (i := 136) rfl)))) rfl
theorem mw_1_137 : Cond.selects "FactFlow" y_Ff_signs y_Ff_signs ∈ wsAll := ws_mem (List.mem_append_right _ (List.mem_append_right _ (List.mem_append_left _ (List.mem_of_getElem? (i := 137) rfl)))) rfl
theorem mw_1_138 : Cond.code y_Ff_signs c_Ff_signs 3 (some .int) ∈ wsAll := ws_mem (List.mem_append_right _ (List.mem_append_right _ (List.mem_append_left _ (List.mem_of_getElem? (i := 138) rfl)))) rfl
theorem mw_1_139 : Cond.methodLink "FactFlowLaw" 54 y_Ff_rewrite ∈ wsAll := ws_mem (List.mem_append_right _ (List.mem_append_right _ (List.mem_append_left _ (List.mem_of_getElem? (i := 139) rfl)))) rfl
theorem mw_1_140 : Cond.instanceMethod y_Ff_rewrite ∈ wsAll := ws_mem (List.mem_append_right _ (List.mem_append_right _ (List.mem_append_left _ (List.mem_of_getElem? (i := 140) rfl)))) rfl
theorem mw_1_141 : Cond.selects "FactFlow" y_Ff_rewrite y_Ff_rewrite ∈ wsAll := ws_mem (List.mem_append_right _ (List.mem_append_right _ (List.mem_append_left _ (List.mem_of_getElem? (i := 141) rfl)))) rfl
theorem mw_1_142 : Cond.code y_Ff_rewrite c_Ff_rewrite 3 (some .int) ∈ wsAll := ws_mem (List.mem_append_right _ (List.mem_append_right _ (List.mem_append_left _ (List.mem_of_getElem? (i := 142) rfl)))) rfl
theorem mw_1_143 : Cond.methodLink "FactFlow" 98 y_Pr_improve ∈ wsAll := ws_mem (List.mem_append_right _ (List.mem_append_right _ (List.mem_append_left _ (List.mem_of_getElem? (i := 143) rfl)))) rfl
theorem mw_1_144 : Cond.instanceMethod y_Pr_improve ∈ wsAll := ws_mem (List.mem_append_right _ (List.mem_append_right _ (List.mem_append_left _ (List.mem_of_getElem? (i := 144) rfl)))) rfl
theorem mw_1_145 : Cond.selects "FactFlow$Program" y_Pr_improve y_Pr_improve ∈ wsAll := ws_mem (List.mem_append_right _ (List.mem_append_right _ (List.mem_append_left _ (List.mem_of_getElem? (i := 145) rfl)))) rfl
theorem mw_1_146 : Cond.code y_Pr_improve c_Pr_improve 4 (some .boolean) ∈ wsAll := ws_mem (List.mem_append_right _ (List.mem_append_right _ (List.mem_append_left _ (List.mem_of_getElem? (i := 146) rfl)))) rfl
theorem mw_1_147 : Cond.methodLink "FactFlow$Program" 35 y_Pr_stopInstead ∈ wsAll := ws_mem (List.mem_append_right _ (List.mem_append_right _ (List.mem_append_left _ (List.mem_of_getElem? (i := 147) rfl)))) rfl
theorem mw_1_148 : Cond.static y_Pr_stopInstead ∈ wsAll := ws_mem (List.mem_append_right _ (List.mem_append_right _ (List.mem_append_left _ (List.mem_of_getElem? (i := 148) rfl)))) rfl
theorem mw_1_149 : Cond.code y_Pr_stopInstead c_Pr_stopInstead 1 (some .boolean) ∈ wsAll := ws_mem (List.mem_append_right _ (List.mem_append_right _ (List.mem_append_left _ (List.mem_of_getElem? (i := 149) rfl)))) rfl
theorem mw_1_150 : Cond.methodLink "FactFlow$Program" 74 y_In_become ∈ wsAll := ws_mem (List.mem_append_right _ (List.mem_append_right _ (List.mem_append_left _ (List.mem_of_getElem? (i := 150) rfl)))) rfl
theorem mw_1_151 : Cond.methodLink "FactFlow$Program" 52 y_Pr_goInstead ∈ wsAll := ws_mem (List.mem_append_right _ (List.mem_append_right _ (List.mem_append_left _ (List.mem_of_getElem? (i := 151) rfl)))) rfl
theorem mw_1_152 : Cond.static y_Pr_goInstead ∈ wsAll := ws_mem (List.mem_append_right _ (List.mem_append_right _ (List.mem_append_left _ (List.mem_of_getElem? (i := 152) rfl)))) rfl
theorem mw_1_153 : Cond.code y_Pr_goInstead c_Pr_goInstead 5 (some .boolean) ∈ wsAll := ws_mem (List.mem_append_right _ (List.mem_append_right _ (List.mem_append_left _ (List.mem_of_getElem? (i := 153) rfl)))) rfl
theorem mw_1_154 : Cond.methodLink "FactFlow$Program" 78 y_In_jumpSigns ∈ wsAll := ws_mem (List.mem_append_right _ (List.mem_append_right _ (List.mem_append_left _ (List.mem_of_getElem? (i := 154) rfl)))) rfl
theorem mw_1_155 : Cond.methodLink "FactFlow$Program" 59 y_Pr_setInstead ∈ wsAll := ws_mem (List.mem_append_right _ (List.mem_append_right _ (List.mem_append_left _ (List.mem_of_getElem? (i := 155) rfl)))) rfl
theorem mw_1_156 : Cond.static y_Pr_setInstead ∈ wsAll := ws_mem (List.mem_append_right _ (List.mem_append_right _ (List.mem_append_left _ (List.mem_of_getElem? (i := 156) rfl)))) rfl
theorem mw_1_157 : Cond.code y_Pr_setInstead c_Pr_setInstead 2 (some .boolean) ∈ wsAll := ws_mem (List.mem_append_right _ (List.mem_append_right _ (List.mem_append_left _ (List.mem_of_getElem? (i := 157) rfl)))) rfl
theorem mw_1_158 : Cond.methodLink "FactFlow$Program" 63 y_In_calculates ∈ wsAll := ws_mem (List.mem_append_right _ (List.mem_append_right _ (List.mem_append_left _ (List.mem_of_getElem? (i := 158) rfl)))) rfl
theorem mw_1_159 : Cond.methodLink "FactFlow$Program" 70 y_Fa_becomeResult ∈ wsAll := ws_mem (List.mem_append_right _ (List.mem_append_right _ (List.mem_append_left _ (List.mem_of_getElem? (i := 159) rfl)))) rfl
theorem mw_1_160 : Cond.methodLink "FactFlowLaw" 58 y_Ff_input ∈ wsAll := ws_mem (List.mem_append_right _ (List.mem_append_right _ (List.mem_append_left _ (List.mem_of_getElem? (i := 160) rfl)))) rfl
theorem mw_1_161 : Cond.instanceMethod y_Ff_input ∈ wsAll := ws_mem (List.mem_append_right _ (List.mem_append_right _ (List.mem_append_left _ (List.mem_of_getElem? (i := 161) rfl)))) rfl
theorem mw_1_162 : Cond.selects "FactFlow" y_Ff_input y_Ff_input ∈ wsAll := ws_mem (List.mem_append_right _ (List.mem_append_right _ (List.mem_append_left _ (List.mem_of_getElem? (i := 162) rfl)))) rfl
theorem mw_1_163 : Cond.code y_Ff_input c_Ff_input 2 (some .boolean) ∈ wsAll := ws_mem (List.mem_append_right _ (List.mem_append_right _ (List.mem_append_left _ (List.mem_of_getElem? (i := 163) rfl)))) rfl
theorem mw_1_164 : Cond.methodLink "FactFlow" 102 y_Ip_take ∈ wsAll := ws_mem (List.mem_append_right _ (List.mem_append_right _ (List.mem_append_left _ (List.mem_of_getElem? (i := 164) rfl)))) rfl
theorem mw_1_165 : Cond.instanceMethod y_Ip_take ∈ wsAll := ws_mem (List.mem_append_right _ (List.mem_append_right _ (List.mem_append_left _ (List.mem_of_getElem? (i := 165) rfl)))) rfl
theorem mw_1_166 : Cond.selects "FactFlow$Inputs" y_Ip_take y_Ip_take ∈ wsAll := ws_mem (List.mem_append_right _ (List.mem_append_right _ (List.mem_append_left _ (List.mem_of_getElem? (i := 166) rfl)))) rfl
theorem mw_1_167 : Cond.code y_Ip_take c_Ip_take 2 (some .boolean) ∈ wsAll := ws_mem (List.mem_append_right _ (List.mem_append_right _ (List.mem_append_left _ (List.mem_of_getElem? (i := 167) rfl)))) rfl
theorem mw_1_168 : Cond.methodLink "FactFlowLaw" 62 y_Ff_dry ∈ wsAll := ws_mem (List.mem_append_right _ (List.mem_append_right _ (List.mem_append_left _ (List.mem_of_getElem? (i := 168) rfl)))) rfl
theorem mw_1_169 : Cond.instanceMethod y_Ff_dry ∈ wsAll := ws_mem (List.mem_append_right _ (List.mem_append_right _ (List.mem_append_left _ (List.mem_of_getElem? (i := 169) rfl)))) rfl
theorem mw_1_170 : Cond.selects "FactFlow" y_Ff_dry y_Ff_dry ∈ wsAll := ws_mem (List.mem_append_right _ (List.mem_append_right _ (List.mem_append_left _ (List.mem_of_getElem? (i := 170) rfl)))) rfl
theorem mw_1_171 : Cond.code y_Ff_dry c_Ff_dry 1 none ∈ wsAll := ws_mem (List.mem_append_right _ (List.mem_append_right _ (List.mem_append_left _ (List.mem_of_getElem? (i := 171) rfl)))) rfl
theorem mw_1_172 : Cond.methodLink "FactFlowLaw" 66 y_Ff_run ∈ wsAll := ws_mem (List.mem_append_right _ (List.mem_append_right _ (List.mem_append_left _ (List.mem_of_getElem? (i := 172) rfl)))) rfl
theorem mw_1_173 : Cond.instanceMethod y_Ff_run ∈ wsAll := ws_mem (List.mem_append_right _ (List.mem_append_right _ (List.mem_append_left _ (List.mem_of_getElem? (i := 173) rfl)))) rfl
theorem mw_1_174 : Cond.selects "FactFlow" y_Ff_run y_Ff_run ∈ wsAll := ws_mem (List.mem_append_right _ (List.mem_append_right _ (List.mem_append_left _ (List.mem_of_getElem? (i := 174) rfl)))) rfl
theorem mw_1_175 : Cond.code y_Ff_run c_Ff_run 2 (some .int) ∈ wsAll := ws_mem (List.mem_append_right _ (List.mem_append_right _ (List.mem_append_left _ (List.mem_of_getElem? (i := 175) rfl)))) rfl
theorem mw_1_176 : Cond.methodLink "FactFlow" 106 y_Ma_execute ∈ wsAll := ws_mem (List.mem_append_right _ (List.mem_append_right _ (List.mem_append_left _ (List.mem_of_getElem? (i := 176) rfl)))) rfl
theorem mw_1_177 : Cond.instanceMethod y_Ma_execute ∈ wsAll := ws_mem (List.mem_append_right _ (List.mem_append_right _ (List.mem_append_left _ (List.mem_of_getElem? (i := 177) rfl)))) rfl
theorem mw_1_178 : Cond.selects "FactFlow$Machine" y_Ma_execute y_Ma_execute ∈ wsAll := ws_mem (List.mem_append_right _ (List.mem_append_right _ (List.mem_append_left _ (List.mem_of_getElem? (i := 178) rfl)))) rfl
theorem mw_1_179 : Cond.code y_Ma_execute c_Ma_execute 6 (some .int) ∈ wsAll := ws_mem (List.mem_append_right _ (List.mem_append_right _ (List.mem_append_left _ (List.mem_of_getElem? (i := 179) rfl)))) rfl
theorem mw_1_180 : Cond.methodLink "FactFlow$Machine" 31 y_Ma_begin ∈ wsAll := ws_mem (List.mem_append_right _ (List.mem_append_right _ (List.mem_append_left _ (List.mem_of_getElem? (i := 180) rfl)))) rfl
theorem mw_1_182 : Cond.instanceMethod y_Ma_begin ∈ wsAll := ws_mem (List.mem_append_right _ (List.mem_append_right _ (List.mem_append_left _ (List.mem_of_getElem? (i := 182) rfl)))) rfl
theorem mw_1_183 : Cond.code y_Ma_begin c_Ma_begin 2 none ∈ wsAll := ws_mem (List.mem_append_right _ (List.mem_append_right _ (List.mem_append_left _ (List.mem_of_getElem? (i := 183) rfl)))) rfl
theorem mw_1_184 : Cond.methodLink "FactFlow$Machine" 34 y_Pr_has ∈ wsAll := ws_mem (List.mem_append_right _ (List.mem_append_right _ (List.mem_append_left _ (List.mem_of_getElem? (i := 184) rfl)))) rfl
theorem mw_1_185 : Cond.methodLink "FactFlow$Machine" 52 y_Ma_change ∈ wsAll := ws_mem (List.mem_append_right _ (List.mem_append_right _ (List.mem_append_left _ (List.mem_of_getElem? (i := 185) rfl)))) rfl
theorem mw_1_187 : Cond.instanceMethod y_Ma_change ∈ wsAll := ws_mem (List.mem_append_right _ (List.mem_append_right _ (List.mem_append_left _ (List.mem_of_getElem? (i := 187) rfl)))) rfl
theorem mw_1_188 : Cond.code y_Ma_change c_Ma_change 3 none ∈ wsAll := ws_mem (List.mem_append_right _ (List.mem_append_right _ (List.mem_append_left _ (List.mem_of_getElem? (i := 188) rfl)))) rfl
theorem mw_1_190 : Cond.methodLink "FactFlow$Machine" 70 y_Ip_numberOrZero ∈ wsAll := ws_mem (List.mem_append_right _ (List.mem_append_right _ (List.mem_append_left _ (List.mem_of_getElem? (i := 190) rfl)))) rfl
theorem mw_1_191 : Cond.instanceMethod y_Ip_numberOrZero ∈ wsAll := ws_mem (List.mem_append_right _ (List.mem_append_right _ (List.mem_append_left _ (List.mem_of_getElem? (i := 191) rfl)))) rfl
theorem mw_1_192 : Cond.selects "FactFlow$Inputs" y_Ip_numberOrZero y_Ip_numberOrZero ∈ wsAll := ws_mem (List.mem_append_right _ (List.mem_append_right _ (List.mem_append_left _ (List.mem_of_getElem? (i := 192) rfl)))) rfl
theorem mw_1_193 : Cond.code y_Ip_numberOrZero c_Ip_numberOrZero 2 (some .int) ∈ wsAll := ws_mem (List.mem_append_right _ (List.mem_append_right _ (List.mem_append_left _ (List.mem_of_getElem? (i := 193) rfl)))) rfl
theorem mw_1_194 : Cond.methodLink "FactFlow$Machine" 76 y_Ma_print ∈ wsAll := ws_mem (List.mem_append_right _ (List.mem_append_right _ (List.mem_append_left _ (List.mem_of_getElem? (i := 194) rfl)))) rfl
theorem mw_1_196 : Cond.instanceMethod y_Ma_print ∈ wsAll := ws_mem (List.mem_append_right _ (List.mem_append_right _ (List.mem_append_left _ (List.mem_of_getElem? (i := 196) rfl)))) rfl
theorem mw_1_197 : Cond.code y_Ma_print c_Ma_print 2 none ∈ wsAll := ws_mem (List.mem_append_right _ (List.mem_append_right _ (List.mem_append_left _ (List.mem_of_getElem? (i := 197) rfl)))) rfl
theorem mw_1_198 : Cond.methodLink "FactFlow$Machine" 56 y_Ma_placeBehind ∈ wsAll := ws_mem (List.mem_append_right _ (List.mem_append_right _ (List.mem_append_left _ (List.mem_of_getElem? (i := 198) rfl)))) rfl
theorem mw_1_200 : Cond.instanceMethod y_Ma_placeBehind ∈ wsAll := ws_mem (List.mem_append_right _ (List.mem_append_right _ (List.mem_append_left _ (List.mem_of_getElem? (i := 200) rfl)))) rfl
theorem mw_1_201 : Cond.code y_Ma_placeBehind c_Ma_placeBehind 3 (some .int) ∈ wsAll := ws_mem (List.mem_append_right _ (List.mem_append_right _ (List.mem_append_left _ (List.mem_of_getElem? (i := 201) rfl)))) rfl
theorem mw_1_202 : Cond.methodLink "FactFlowLaw" 71 y_Ff_steps ∈ wsAll := ws_mem (List.mem_append_right _ (List.mem_append_right _ (List.mem_append_left _ (List.mem_of_getElem? (i := 202) rfl)))) rfl
theorem mw_1_203 : Cond.instanceMethod y_Ff_steps ∈ wsAll := ws_mem (List.mem_append_right _ (List.mem_append_right _ (List.mem_append_left _ (List.mem_of_getElem? (i := 203) rfl)))) rfl
theorem mw_1_204 : Cond.selects "FactFlow" y_Ff_steps y_Ff_steps ∈ wsAll := ws_mem (List.mem_append_right _ (List.mem_append_right _ (List.mem_append_left _ (List.mem_of_getElem? (i := 204) rfl)))) rfl
theorem mw_1_205 : Cond.code y_Ff_steps c_Ff_steps 1 (some .int) ∈ wsAll := ws_mem (List.mem_append_right _ (List.mem_append_right _ (List.mem_append_left _ (List.mem_of_getElem? (i := 205) rfl)))) rfl
theorem mw_1_206 : Cond.methodLink "FactFlowLaw" 75 y_Ff_next ∈ wsAll := ws_mem (List.mem_append_right _ (List.mem_append_right _ (List.mem_append_left _ (List.mem_of_getElem? (i := 206) rfl)))) rfl
theorem mw_1_207 : Cond.instanceMethod y_Ff_next ∈ wsAll := ws_mem (List.mem_append_right _ (List.mem_append_right _ (List.mem_append_left _ (List.mem_of_getElem? (i := 207) rfl)))) rfl
theorem mw_1_208 : Cond.selects "FactFlow" y_Ff_next y_Ff_next ∈ wsAll := ws_mem (List.mem_append_right _ (List.mem_append_right _ (List.mem_append_left _ (List.mem_of_getElem? (i := 208) rfl)))) rfl
theorem mw_1_209 : Cond.code y_Ff_next c_Ff_next 1 (some .int) ∈ wsAll := ws_mem (List.mem_append_right _ (List.mem_append_right _ (List.mem_append_left _ (List.mem_of_getElem? (i := 209) rfl)))) rfl
theorem mw_1_210 : Cond.methodLink "FactFlowLaw" 79 y_Ff_variable ∈ wsAll := ws_mem (List.mem_append_right _ (List.mem_append_right _ (List.mem_append_left _ (List.mem_of_getElem? (i := 210) rfl)))) rfl
theorem mw_1_211 : Cond.instanceMethod y_Ff_variable ∈ wsAll := ws_mem (List.mem_append_right _ (List.mem_append_right _ (List.mem_append_left _ (List.mem_of_getElem? (i := 211) rfl)))) rfl
theorem mw_1_212 : Cond.selects "FactFlow" y_Ff_variable y_Ff_variable ∈ wsAll := ws_mem (List.mem_append_right _ (List.mem_append_right _ (List.mem_append_left _ (List.mem_of_getElem? (i := 212) rfl)))) rfl
theorem mw_1_213 : Cond.code y_Ff_variable c_Ff_variable 2 (some .int) ∈ wsAll := ws_mem (List.mem_append_right _ (List.mem_append_right _ (List.mem_append_left _ (List.mem_of_getElem? (i := 213) rfl)))) rfl
theorem mw_1_214 : Cond.methodLink "FactFlowLaw" 83 y_Ff_outputs ∈ wsAll := ws_mem (List.mem_append_right _ (List.mem_append_right _ (List.mem_append_left _ (List.mem_of_getElem? (i := 214) rfl)))) rfl
theorem mw_1_215 : Cond.instanceMethod y_Ff_outputs ∈ wsAll := ws_mem (List.mem_append_right _ (List.mem_append_right _ (List.mem_append_left _ (List.mem_of_getElem? (i := 215) rfl)))) rfl
theorem mw_1_216 : Cond.selects "FactFlow" y_Ff_outputs y_Ff_outputs ∈ wsAll := ws_mem (List.mem_append_right _ (List.mem_append_right _ (List.mem_append_left _ (List.mem_of_getElem? (i := 216) rfl)))) rfl
theorem mw_1_217 : Cond.code y_Ff_outputs c_Ff_outputs 1 (some .int) ∈ wsAll := ws_mem (List.mem_append_right _ (List.mem_append_right _ (List.mem_append_left _ (List.mem_of_getElem? (i := 217) rfl)))) rfl
theorem mw_1_218 : Cond.methodLink "FactFlowLaw" 87 y_Ff_output ∈ wsAll := ws_mem (List.mem_append_right _ (List.mem_append_right _ (List.mem_append_left _ (List.mem_of_getElem? (i := 218) rfl)))) rfl
theorem mw_1_219 : Cond.instanceMethod y_Ff_output ∈ wsAll := ws_mem (List.mem_append_right _ (List.mem_append_right _ (List.mem_append_left _ (List.mem_of_getElem? (i := 219) rfl)))) rfl
theorem mw_1_220 : Cond.selects "FactFlow" y_Ff_output y_Ff_output ∈ wsAll := ws_mem (List.mem_append_right _ (List.mem_append_right _ (List.mem_append_left _ (List.mem_of_getElem? (i := 220) rfl)))) rfl
theorem mw_1_221 : Cond.code y_Ff_output c_Ff_output 2 (some .int) ∈ wsAll := ws_mem (List.mem_append_right _ (List.mem_append_right _ (List.mem_append_left _ (List.mem_of_getElem? (i := 221) rfl)))) rfl
theorem mw_1_222 : Cond.classLink "FactFlowLaw" 10 "FactFlowModel" ∈ wsAll := ws_mem (List.mem_append_right _ (List.mem_append_right _ (List.mem_append_left _ (List.mem_of_getElem? (i := 222) rfl)))) rfl
theorem mw_1_223 : Cond.instantiable "FactFlowModel" 25 ∈ wsAll := ws_mem (List.mem_append_right _ (List.mem_append_right _ (List.mem_append_left _ (List.mem_of_getElem? (i := 223) rfl)))) rfl
theorem mw_1_224 : Cond.methodLink "FactFlowLaw" 12 y_Mo_init ∈ wsAll := ws_mem (List.mem_append_right _ (List.mem_append_right _ (List.mem_append_left _ (List.mem_of_getElem? (i := 224) rfl)))) rfl
theorem mw_1_226 : Cond.code y_Mo_init c_Mo_init 1 none ∈ wsAll := ws_mem (List.mem_append_right _ (List.mem_append_right _ (List.mem_append_left _ (List.mem_of_getElem? (i := 226) rfl)))) rfl
theorem mw_1_227 : Cond.methodLink "FactFlowModel" 1 Lib.objectInit ∈ wsAll := ws_mem (List.mem_append_right _ (List.mem_append_right _ (List.mem_append_left _ (List.mem_of_getElem? (i := 227) rfl)))) rfl
theorem mw_1_228 : Cond.fieldLink "FactFlowModel" 77 "FactFlowModel" "many" "I" ∈ wsAll := ws_mem (List.mem_append_right _ (List.mem_append_right _ (List.mem_append_left _ (List.mem_of_getElem? (i := 228) rfl)))) rfl
theorem mw_1_229 : Cond.fieldLink "FactFlowModel" 7 "FactFlowModel" "op" "[I" ∈ wsAll := ws_mem (List.mem_append_right _ (List.mem_append_right _ (List.mem_append_left _ (List.mem_of_getElem? (i := 229) rfl)))) rfl
theorem mw_1_230 : Cond.fieldLink "FactFlowModel" 13 "FactFlowModel" "first" "[I" ∈ wsAll := ws_mem (List.mem_append_right _ (List.mem_append_right _ (List.mem_append_left _ (List.mem_of_getElem? (i := 230) rfl)))) rfl
theorem mw_1_231 : Cond.fieldLink "FactFlowModel" 16 "FactFlowModel" "second" "[I" ∈ wsAll := ws_mem (List.mem_append_right _ (List.mem_append_right _ (List.mem_append_left _ (List.mem_of_getElem? (i := 231) rfl)))) rfl
theorem mw_1_232 : Cond.fieldLink "FactFlowModel" 19 "FactFlowModel" "third" "[I" ∈ wsAll := ws_mem (List.mem_append_right _ (List.mem_append_right _ (List.mem_append_left _ (List.mem_of_getElem? (i := 232) rfl)))) rfl
theorem mw_1_233 : Cond.fieldLink "FactFlowModel" 83 "FactFlowModel" "known" "Z" ∈ wsAll := ws_mem (List.mem_append_right _ (List.mem_append_right _ (List.mem_append_left _ (List.mem_of_getElem? (i := 233) rfl)))) rfl
theorem mw_1_234 : Cond.fieldLink "FactFlowModel" 22 "FactFlowModel" "live" "[Z" ∈ wsAll := ws_mem (List.mem_append_right _ (List.mem_append_right _ (List.mem_append_left _ (List.mem_of_getElem? (i := 234) rfl)))) rfl
theorem mw_1_235 : Cond.fieldLink "FactFlowModel" 26 "FactFlowModel" "bitsOf" "[I" ∈ wsAll := ws_mem (List.mem_append_right _ (List.mem_append_right _ (List.mem_append_left _ (List.mem_of_getElem? (i := 235) rfl)))) rfl
theorem mw_1_236 : Cond.fieldLink "FactFlowModel" 29 "FactFlowModel" "restOf" "[I" ∈ wsAll := ws_mem (List.mem_append_right _ (List.mem_append_right _ (List.mem_append_left _ (List.mem_of_getElem? (i := 236) rfl)))) rfl
theorem mw_1_237 : Cond.fieldLink "FactFlowModel" 32 "FactFlowModel" "signsOf" "[I" ∈ wsAll := ws_mem (List.mem_append_right _ (List.mem_append_right _ (List.mem_append_left _ (List.mem_of_getElem? (i := 237) rfl)))) rfl
theorem mw_1_238 : Cond.fieldLink "FactFlowModel" 152 "FactFlowModel" "grown" "Z" ∈ wsAll := ws_mem (List.mem_append_right _ (List.mem_append_right _ (List.mem_append_left _ (List.mem_of_getElem? (i := 238) rfl)))) rfl
theorem mw_1_239 : Cond.fieldLink "FactFlowModel" 35 "FactFlowModel" "k" "[I" ∈ wsAll := ws_mem (List.mem_append_right _ (List.mem_append_right _ (List.mem_append_left _ (List.mem_of_getElem? (i := 239) rfl)))) rfl
theorem mw_2_0 : Cond.fieldLink "FactFlowModel" 38 "FactFlowModel" "\x72" "[I" ∈ wsAll := ws_mem (List.mem_append_right _ (List.mem_append_right _ (List.mem_append_right _ (List.mem_append_left _ (List.mem_of_getElem? (i := 0) rfl))))) rfl
theorem mw_2_1 : Cond.fieldLink "FactFlowModel" 41 "FactFlowModel" "s" "[I" ∈ wsAll := ws_mem (List.mem_append_right _ (List.mem_append_right _ (List.mem_append_right _ (List.mem_append_left _ (List.mem_of_getElem? (i := 1) rfl))))) rfl
theorem mw_2_2 : Cond.fieldLink "FactFlowModel" 93 "FactFlowModel" "newBits" "I" ∈ wsAll := ws_mem (List.mem_append_right _ (List.mem_append_right _ (List.mem_append_right _ (List.mem_append_left _ (List.mem_of_getElem? (i := 2) rfl))))) rfl
theorem mw_2_3 : Cond.fieldLink "FactFlowModel" 90 "FactFlowModel" "newRest" "I" ∈ wsAll := ws_mem (List.mem_append_right _ (List.mem_append_right _ (List.mem_append_right _ (List.mem_append_left _ (List.mem_of_getElem? (i := 3) rfl))))) rfl
theorem mw_2_4 : Cond.fieldLink "FactFlowModel" 100 "FactFlowModel" "newSigns" "I" ∈ wsAll := ws_mem (List.mem_append_right _ (List.mem_append_right _ (List.mem_append_right _ (List.mem_append_left _ (List.mem_of_getElem? (i := 4) rfl))))) rfl
theorem mw_2_5 : Cond.fieldLink "FactFlowModel" 180 "FactFlowModel" "given" "I" ∈ wsAll := ws_mem (List.mem_append_right _ (List.mem_append_right _ (List.mem_append_right _ (List.mem_append_left _ (List.mem_of_getElem? (i := 5) rfl))))) rfl
theorem mw_2_6 : Cond.fieldLink "FactFlowModel" 44 "FactFlowModel" "inputs" "[I" ∈ wsAll := ws_mem (List.mem_append_right _ (List.mem_append_right _ (List.mem_append_right _ (List.mem_append_left _ (List.mem_of_getElem? (i := 6) rfl))))) rfl
theorem mw_2_7 : Cond.fieldLink "FactFlowModel" 198 "FactFlowModel" "done" "I" ∈ wsAll := ws_mem (List.mem_append_right _ (List.mem_append_right _ (List.mem_append_right _ (List.mem_append_left _ (List.mem_of_getElem? (i := 7) rfl))))) rfl
theorem mw_2_8 : Cond.fieldLink "FactFlowModel" 47 "FactFlowModel" "place" "I" ∈ wsAll := ws_mem (List.mem_append_right _ (List.mem_append_right _ (List.mem_append_right _ (List.mem_append_left _ (List.mem_of_getElem? (i := 8) rfl))))) rfl
theorem mw_2_9 : Cond.fieldLink "FactFlowModel" 51 "FactFlowModel" "values" "[I" ∈ wsAll := ws_mem (List.mem_append_right _ (List.mem_append_right _ (List.mem_append_right _ (List.mem_append_left _ (List.mem_of_getElem? (i := 9) rfl))))) rfl
theorem mw_2_10 : Cond.fieldLink "FactFlowModel" 183 "FactFlowModel" "told" "I" ∈ wsAll := ws_mem (List.mem_append_right _ (List.mem_append_right _ (List.mem_append_right _ (List.mem_append_left _ (List.mem_of_getElem? (i := 10) rfl))))) rfl
theorem mw_2_11 : Cond.fieldLink "FactFlowModel" 54 "FactFlowModel" "out" "[I" ∈ wsAll := ws_mem (List.mem_append_right _ (List.mem_append_right _ (List.mem_append_right _ (List.mem_append_left _ (List.mem_of_getElem? (i := 11) rfl))))) rfl
theorem mw_2_12 : Cond.fieldLink "FactFlowModel" 186 "FactFlowModel" "eaten" "I" ∈ wsAll := ws_mem (List.mem_append_right _ (List.mem_append_right _ (List.mem_append_right _ (List.mem_append_left _ (List.mem_of_getElem? (i := 12) rfl))))) rfl
theorem mw_2_13 : Cond.lays "FactFlowModel" "FactFlowModel" "many" "I" ∈ wsAll := ws_mem (List.mem_append_right _ (List.mem_append_right _ (List.mem_append_right _ (List.mem_append_left _ (List.mem_of_getElem? (i := 13) rfl))))) rfl
theorem mw_2_15 : Cond.laysFinal "FactFlowModel" "FactFlowModel" "op" "[I" ∈ wsAll := ws_mem (List.mem_append_right _ (List.mem_append_right _ (List.mem_append_right _ (List.mem_append_left _ (List.mem_of_getElem? (i := 15) rfl))))) rfl
theorem mw_2_17 : Cond.laysFinal "FactFlowModel" "FactFlowModel" "first" "[I" ∈ wsAll := ws_mem (List.mem_append_right _ (List.mem_append_right _ (List.mem_append_right _ (List.mem_append_left _ (List.mem_of_getElem? (i := 17) rfl))))) rfl
theorem mw_2_19 : Cond.laysFinal "FactFlowModel" "FactFlowModel" "second" "[I" ∈ wsAll := ws_mem (List.mem_append_right _ (List.mem_append_right _ (List.mem_append_right _ (List.mem_append_left _ (List.mem_of_getElem? (i := 19) rfl))))) rfl
theorem mw_2_21 : Cond.laysFinal "FactFlowModel" "FactFlowModel" "third" "[I" ∈ wsAll := ws_mem (List.mem_append_right _ (List.mem_append_right _ (List.mem_append_right _ (List.mem_append_left _ (List.mem_of_getElem? (i := 21) rfl))))) rfl
theorem mw_2_23 : Cond.lays "FactFlowModel" "FactFlowModel" "known" "Z" ∈ wsAll := ws_mem (List.mem_append_right _ (List.mem_append_right _ (List.mem_append_right _ (List.mem_append_left _ (List.mem_of_getElem? (i := 23) rfl))))) rfl
theorem mw_2_25 : Cond.laysFinal "FactFlowModel" "FactFlowModel" "live" "[Z" ∈ wsAll := ws_mem (List.mem_append_right _ (List.mem_append_right _ (List.mem_append_right _ (List.mem_append_left _ (List.mem_of_getElem? (i := 25) rfl))))) rfl
theorem mw_2_27 : Cond.laysFinal "FactFlowModel" "FactFlowModel" "bitsOf" "[I" ∈ wsAll := ws_mem (List.mem_append_right _ (List.mem_append_right _ (List.mem_append_right _ (List.mem_append_left _ (List.mem_of_getElem? (i := 27) rfl))))) rfl
theorem mw_2_29 : Cond.laysFinal "FactFlowModel" "FactFlowModel" "restOf" "[I" ∈ wsAll := ws_mem (List.mem_append_right _ (List.mem_append_right _ (List.mem_append_right _ (List.mem_append_left _ (List.mem_of_getElem? (i := 29) rfl))))) rfl
theorem mw_2_31 : Cond.laysFinal "FactFlowModel" "FactFlowModel" "signsOf" "[I" ∈ wsAll := ws_mem (List.mem_append_right _ (List.mem_append_right _ (List.mem_append_right _ (List.mem_append_left _ (List.mem_of_getElem? (i := 31) rfl))))) rfl
theorem mw_2_33 : Cond.lays "FactFlowModel" "FactFlowModel" "grown" "Z" ∈ wsAll := ws_mem (List.mem_append_right _ (List.mem_append_right _ (List.mem_append_right _ (List.mem_append_left _ (List.mem_of_getElem? (i := 33) rfl))))) rfl
theorem mw_2_35 : Cond.laysFinal "FactFlowModel" "FactFlowModel" "k" "[I" ∈ wsAll := ws_mem (List.mem_append_right _ (List.mem_append_right _ (List.mem_append_right _ (List.mem_append_left _ (List.mem_of_getElem? (i := 35) rfl))))) rfl
theorem mw_2_37 : Cond.laysFinal "FactFlowModel" "FactFlowModel" "\x72" "[I" ∈ wsAll := ws_mem (List.mem_append_right _ (List.mem_append_right _ (List.mem_append_right _ (List.mem_append_left _ (List.mem_of_getElem? (i := 37) rfl))))) rfl
theorem mw_2_39 : Cond.laysFinal "FactFlowModel" "FactFlowModel" "s" "[I" ∈ wsAll := ws_mem (List.mem_append_right _ (List.mem_append_right _ (List.mem_append_right _ (List.mem_append_left _ (List.mem_of_getElem? (i := 39) rfl))))) rfl
theorem mw_2_41 : Cond.lays "FactFlowModel" "FactFlowModel" "newBits" "I" ∈ wsAll := ws_mem (List.mem_append_right _ (List.mem_append_right _ (List.mem_append_right _ (List.mem_append_left _ (List.mem_of_getElem? (i := 41) rfl))))) rfl
theorem mw_2_43 : Cond.lays "FactFlowModel" "FactFlowModel" "newRest" "I" ∈ wsAll := ws_mem (List.mem_append_right _ (List.mem_append_right _ (List.mem_append_right _ (List.mem_append_left _ (List.mem_of_getElem? (i := 43) rfl))))) rfl
theorem mw_2_45 : Cond.lays "FactFlowModel" "FactFlowModel" "newSigns" "I" ∈ wsAll := ws_mem (List.mem_append_right _ (List.mem_append_right _ (List.mem_append_right _ (List.mem_append_left _ (List.mem_of_getElem? (i := 45) rfl))))) rfl
theorem mw_2_47 : Cond.lays "FactFlowModel" "FactFlowModel" "given" "I" ∈ wsAll := ws_mem (List.mem_append_right _ (List.mem_append_right _ (List.mem_append_right _ (List.mem_append_left _ (List.mem_of_getElem? (i := 47) rfl))))) rfl
theorem mw_2_49 : Cond.laysFinal "FactFlowModel" "FactFlowModel" "inputs" "[I" ∈ wsAll := ws_mem (List.mem_append_right _ (List.mem_append_right _ (List.mem_append_right _ (List.mem_append_left _ (List.mem_of_getElem? (i := 49) rfl))))) rfl
theorem mw_2_51 : Cond.lays "FactFlowModel" "FactFlowModel" "done" "I" ∈ wsAll := ws_mem (List.mem_append_right _ (List.mem_append_right _ (List.mem_append_right _ (List.mem_append_left _ (List.mem_of_getElem? (i := 51) rfl))))) rfl
theorem mw_2_53 : Cond.lays "FactFlowModel" "FactFlowModel" "place" "I" ∈ wsAll := ws_mem (List.mem_append_right _ (List.mem_append_right _ (List.mem_append_right _ (List.mem_append_left _ (List.mem_of_getElem? (i := 53) rfl))))) rfl
theorem mw_2_55 : Cond.laysFinal "FactFlowModel" "FactFlowModel" "values" "[I" ∈ wsAll := ws_mem (List.mem_append_right _ (List.mem_append_right _ (List.mem_append_right _ (List.mem_append_left _ (List.mem_of_getElem? (i := 55) rfl))))) rfl
theorem mw_2_57 : Cond.lays "FactFlowModel" "FactFlowModel" "told" "I" ∈ wsAll := ws_mem (List.mem_append_right _ (List.mem_append_right _ (List.mem_append_right _ (List.mem_append_left _ (List.mem_of_getElem? (i := 57) rfl))))) rfl
theorem mw_2_59 : Cond.laysFinal "FactFlowModel" "FactFlowModel" "out" "[I" ∈ wsAll := ws_mem (List.mem_append_right _ (List.mem_append_right _ (List.mem_append_right _ (List.mem_append_left _ (List.mem_of_getElem? (i := 59) rfl))))) rfl
theorem mw_2_61 : Cond.lays "FactFlowModel" "FactFlowModel" "eaten" "I" ∈ wsAll := ws_mem (List.mem_append_right _ (List.mem_append_right _ (List.mem_append_right _ (List.mem_append_left _ (List.mem_of_getElem? (i := 61) rfl))))) rfl
theorem mw_2_64 : Cond.methodLink "FactFlowLaw" 17 y_Mo_add ∈ wsAll := ws_mem (List.mem_append_right _ (List.mem_append_right _ (List.mem_append_right _ (List.mem_append_left _ (List.mem_of_getElem? (i := 64) rfl))))) rfl
theorem mw_2_65 : Cond.instanceMethod y_Mo_add ∈ wsAll := ws_mem (List.mem_append_right _ (List.mem_append_right _ (List.mem_append_right _ (List.mem_append_left _ (List.mem_of_getElem? (i := 65) rfl))))) rfl
theorem mw_2_66 : Cond.selects "FactFlowModel" y_Mo_add y_Mo_add ∈ wsAll := ws_mem (List.mem_append_right _ (List.mem_append_right _ (List.mem_append_right _ (List.mem_append_left _ (List.mem_of_getElem? (i := 66) rfl))))) rfl
theorem mw_2_67 : Cond.code y_Mo_add c_Mo_add 5 (some .int) ∈ wsAll := ws_mem (List.mem_append_right _ (List.mem_append_right _ (List.mem_append_right _ (List.mem_append_left _ (List.mem_of_getElem? (i := 67) rfl))))) rfl
theorem mw_2_68 : Cond.methodLink "FactFlowModel" 73 y_Mo_wrong ∈ wsAll := ws_mem (List.mem_append_right _ (List.mem_append_right _ (List.mem_append_right _ (List.mem_append_left _ (List.mem_of_getElem? (i := 68) rfl))))) rfl
theorem mw_2_69 : Cond.static y_Mo_wrong ∈ wsAll := ws_mem (List.mem_append_right _ (List.mem_append_right _ (List.mem_append_right _ (List.mem_append_left _ (List.mem_of_getElem? (i := 69) rfl))))) rfl
theorem mw_2_70 : Cond.code y_Mo_wrong c_Mo_wrong 5 (some .boolean) ∈ wsAll := ws_mem (List.mem_append_right _ (List.mem_append_right _ (List.mem_append_right _ (List.mem_append_left _ (List.mem_of_getElem? (i := 70) rfl))))) rfl
theorem mw_2_71 : Cond.methodLink "FactFlowModel" 57 y_Mo_usesFirst ∈ wsAll := ws_mem (List.mem_append_right _ (List.mem_append_right _ (List.mem_append_right _ (List.mem_append_left _ (List.mem_of_getElem? (i := 71) rfl))))) rfl
theorem mw_2_72 : Cond.static y_Mo_usesFirst ∈ wsAll := ws_mem (List.mem_append_right _ (List.mem_append_right _ (List.mem_append_right _ (List.mem_append_left _ (List.mem_of_getElem? (i := 72) rfl))))) rfl
theorem mw_2_73 : Cond.code y_Mo_usesFirst c_Mo_usesFirst 1 (some .boolean) ∈ wsAll := ws_mem (List.mem_append_right _ (List.mem_append_right _ (List.mem_append_right _ (List.mem_append_left _ (List.mem_of_getElem? (i := 73) rfl))))) rfl
theorem mw_2_74 : Cond.methodLink "FactFlowModel" 61 y_Mo_isVariable ∈ wsAll := ws_mem (List.mem_append_right _ (List.mem_append_right _ (List.mem_append_right _ (List.mem_append_left _ (List.mem_of_getElem? (i := 74) rfl))))) rfl
theorem mw_2_75 : Cond.static y_Mo_isVariable ∈ wsAll := ws_mem (List.mem_append_right _ (List.mem_append_right _ (List.mem_append_right _ (List.mem_append_left _ (List.mem_of_getElem? (i := 75) rfl))))) rfl
theorem mw_2_76 : Cond.code y_Mo_isVariable c_Mo_isVariable 1 (some .boolean) ∈ wsAll := ws_mem (List.mem_append_right _ (List.mem_append_right _ (List.mem_append_right _ (List.mem_append_left _ (List.mem_of_getElem? (i := 76) rfl))))) rfl
theorem mw_2_77 : Cond.methodLink "FactFlowModel" 64 y_Mo_usesSecond ∈ wsAll := ws_mem (List.mem_append_right _ (List.mem_append_right _ (List.mem_append_right _ (List.mem_append_left _ (List.mem_of_getElem? (i := 77) rfl))))) rfl
theorem mw_2_78 : Cond.static y_Mo_usesSecond ∈ wsAll := ws_mem (List.mem_append_right _ (List.mem_append_right _ (List.mem_append_right _ (List.mem_append_left _ (List.mem_of_getElem? (i := 78) rfl))))) rfl
theorem mw_2_79 : Cond.code y_Mo_usesSecond c_Mo_usesSecond 1 (some .boolean) ∈ wsAll := ws_mem (List.mem_append_right _ (List.mem_append_right _ (List.mem_append_right _ (List.mem_append_left _ (List.mem_of_getElem? (i := 79) rfl))))) rfl
theorem mw_2_80 : Cond.methodLink "FactFlowModel" 67 y_Mo_jumps ∈ wsAll := ws_mem (List.mem_append_right _ (List.mem_append_right _ (List.mem_append_right _ (List.mem_append_left _ (List.mem_of_getElem? (i := 80) rfl))))) rfl
theorem mw_2_81 : Cond.static y_Mo_jumps ∈ wsAll := ws_mem (List.mem_append_right _ (List.mem_append_right _ (List.mem_append_right _ (List.mem_append_left _ (List.mem_of_getElem? (i := 81) rfl))))) rfl
theorem mw_2_82 : Cond.code y_Mo_jumps c_Mo_jumps 1 (some .boolean) ∈ wsAll := ws_mem (List.mem_append_right _ (List.mem_append_right _ (List.mem_append_right _ (List.mem_append_left _ (List.mem_of_getElem? (i := 82) rfl))))) rfl
theorem mw_2_83 : Cond.methodLink "FactFlowModel" 80 y_Mo_place ∈ wsAll := ws_mem (List.mem_append_right _ (List.mem_append_right _ (List.mem_append_right _ (List.mem_append_left _ (List.mem_of_getElem? (i := 83) rfl))))) rfl
theorem mw_2_85 : Cond.instanceMethod y_Mo_place ∈ wsAll := ws_mem (List.mem_append_right _ (List.mem_append_right _ (List.mem_append_right _ (List.mem_append_left _ (List.mem_of_getElem? (i := 85) rfl))))) rfl
theorem mw_2_86 : Cond.code y_Mo_place c_Mo_place 10 (some .boolean) ∈ wsAll := ws_mem (List.mem_append_right _ (List.mem_append_right _ (List.mem_append_right _ (List.mem_append_left _ (List.mem_of_getElem? (i := 86) rfl))))) rfl
theorem mw_2_87 : Cond.methodLink "FactFlowModel" 70 y_Mo_usesThird ∈ wsAll := ws_mem (List.mem_append_right _ (List.mem_append_right _ (List.mem_append_right _ (List.mem_append_left _ (List.mem_of_getElem? (i := 87) rfl))))) rfl
theorem mw_2_88 : Cond.static y_Mo_usesThird ∈ wsAll := ws_mem (List.mem_append_right _ (List.mem_append_right _ (List.mem_append_right _ (List.mem_append_left _ (List.mem_of_getElem? (i := 88) rfl))))) rfl
theorem mw_2_89 : Cond.code y_Mo_usesThird c_Mo_usesThird 1 (some .boolean) ∈ wsAll := ws_mem (List.mem_append_right _ (List.mem_append_right _ (List.mem_append_right _ (List.mem_append_left _ (List.mem_of_getElem? (i := 89) rfl))))) rfl
theorem mw_2_90 : Cond.methodLink "FactFlowLaw" 22 y_Mo_put ∈ wsAll := ws_mem (List.mem_append_right _ (List.mem_append_right _ (List.mem_append_right _ (List.mem_append_left _ (List.mem_of_getElem? (i := 90) rfl))))) rfl
theorem mw_2_91 : Cond.instanceMethod y_Mo_put ∈ wsAll := ws_mem (List.mem_append_right _ (List.mem_append_right _ (List.mem_append_right _ (List.mem_append_left _ (List.mem_of_getElem? (i := 91) rfl))))) rfl
theorem mw_2_92 : Cond.selects "FactFlowModel" y_Mo_put y_Mo_put ∈ wsAll := ws_mem (List.mem_append_right _ (List.mem_append_right _ (List.mem_append_right _ (List.mem_append_left _ (List.mem_of_getElem? (i := 92) rfl))))) rfl
theorem mw_2_93 : Cond.code y_Mo_put c_Mo_put 6 (some .boolean) ∈ wsAll := ws_mem (List.mem_append_right _ (List.mem_append_right _ (List.mem_append_right _ (List.mem_append_left _ (List.mem_of_getElem? (i := 93) rfl))))) rfl
theorem mw_2_94 : Cond.methodLink "FactFlowModel" 87 y_Mo_none ∈ wsAll := ws_mem (List.mem_append_right _ (List.mem_append_right _ (List.mem_append_right _ (List.mem_append_left _ (List.mem_of_getElem? (i := 94) rfl))))) rfl
theorem mw_2_96 : Cond.instanceMethod y_Mo_none ∈ wsAll := ws_mem (List.mem_append_right _ (List.mem_append_right _ (List.mem_append_right _ (List.mem_append_left _ (List.mem_of_getElem? (i := 96) rfl))))) rfl
theorem mw_2_97 : Cond.code y_Mo_none c_Mo_none 2 (some .boolean) ∈ wsAll := ws_mem (List.mem_append_right _ (List.mem_append_right _ (List.mem_append_right _ (List.mem_append_left _ (List.mem_of_getElem? (i := 97) rfl))))) rfl
theorem mw_2_98 : Cond.methodLink "FactFlowLaw" 26 y_Mo_clear ∈ wsAll := ws_mem (List.mem_append_right _ (List.mem_append_right _ (List.mem_append_right _ (List.mem_append_left _ (List.mem_of_getElem? (i := 98) rfl))))) rfl
theorem mw_2_99 : Cond.instanceMethod y_Mo_clear ∈ wsAll := ws_mem (List.mem_append_right _ (List.mem_append_right _ (List.mem_append_right _ (List.mem_append_left _ (List.mem_of_getElem? (i := 99) rfl))))) rfl
theorem mw_2_100 : Cond.selects "FactFlowModel" y_Mo_clear y_Mo_clear ∈ wsAll := ws_mem (List.mem_append_right _ (List.mem_append_right _ (List.mem_append_right _ (List.mem_append_left _ (List.mem_of_getElem? (i := 100) rfl))))) rfl
theorem mw_2_101 : Cond.code y_Mo_clear c_Mo_clear 1 none ∈ wsAll := ws_mem (List.mem_append_right _ (List.mem_append_right _ (List.mem_append_right _ (List.mem_append_left _ (List.mem_of_getElem? (i := 101) rfl))))) rfl
theorem mw_2_102 : Cond.methodLink "FactFlowLaw" 31 y_Mo_length ∈ wsAll := ws_mem (List.mem_append_right _ (List.mem_append_right _ (List.mem_append_right _ (List.mem_append_left _ (List.mem_of_getElem? (i := 102) rfl))))) rfl
theorem mw_2_103 : Cond.instanceMethod y_Mo_length ∈ wsAll := ws_mem (List.mem_append_right _ (List.mem_append_right _ (List.mem_append_right _ (List.mem_append_left _ (List.mem_of_getElem? (i := 103) rfl))))) rfl
theorem mw_2_104 : Cond.selects "FactFlowModel" y_Mo_length y_Mo_length ∈ wsAll := ws_mem (List.mem_append_right _ (List.mem_append_right _ (List.mem_append_right _ (List.mem_append_left _ (List.mem_of_getElem? (i := 104) rfl))))) rfl
theorem mw_2_105 : Cond.code y_Mo_length c_Mo_length 1 (some .int) ∈ wsAll := ws_mem (List.mem_append_right _ (List.mem_append_right _ (List.mem_append_right _ (List.mem_append_left _ (List.mem_of_getElem? (i := 105) rfl))))) rfl
theorem mw_2_106 : Cond.methodLink "FactFlowLaw" 36 y_Mo_code ∈ wsAll := ws_mem (List.mem_append_right _ (List.mem_append_right _ (List.mem_append_right _ (List.mem_append_left _ (List.mem_of_getElem? (i := 106) rfl))))) rfl
theorem mw_2_107 : Cond.instanceMethod y_Mo_code ∈ wsAll := ws_mem (List.mem_append_right _ (List.mem_append_right _ (List.mem_append_right _ (List.mem_append_left _ (List.mem_of_getElem? (i := 107) rfl))))) rfl
theorem mw_2_108 : Cond.selects "FactFlowModel" y_Mo_code y_Mo_code ∈ wsAll := ws_mem (List.mem_append_right _ (List.mem_append_right _ (List.mem_append_right _ (List.mem_append_left _ (List.mem_of_getElem? (i := 108) rfl))))) rfl
theorem mw_2_109 : Cond.code y_Mo_code c_Mo_code 3 (some .int) ∈ wsAll := ws_mem (List.mem_append_right _ (List.mem_append_right _ (List.mem_append_right _ (List.mem_append_left _ (List.mem_of_getElem? (i := 109) rfl))))) rfl
theorem mw_2_110 : Cond.methodLink "FactFlowLaw" 41 y_Mo_reached ∈ wsAll := ws_mem (List.mem_append_right _ (List.mem_append_right _ (List.mem_append_right _ (List.mem_append_left _ (List.mem_of_getElem? (i := 110) rfl))))) rfl
theorem mw_2_111 : Cond.instanceMethod y_Mo_reached ∈ wsAll := ws_mem (List.mem_append_right _ (List.mem_append_right _ (List.mem_append_right _ (List.mem_append_left _ (List.mem_of_getElem? (i := 111) rfl))))) rfl
theorem mw_2_112 : Cond.selects "FactFlowModel" y_Mo_reached y_Mo_reached ∈ wsAll := ws_mem (List.mem_append_right _ (List.mem_append_right _ (List.mem_append_right _ (List.mem_append_left _ (List.mem_of_getElem? (i := 112) rfl))))) rfl
theorem mw_2_113 : Cond.code y_Mo_reached c_Mo_reached 2 (some .boolean) ∈ wsAll := ws_mem (List.mem_append_right _ (List.mem_append_right _ (List.mem_append_right _ (List.mem_append_left _ (List.mem_of_getElem? (i := 113) rfl))))) rfl
theorem mw_2_114 : Cond.methodLink "FactFlowModel" 171 y_Mo_solve ∈ wsAll := ws_mem (List.mem_append_right _ (List.mem_append_right _ (List.mem_append_right _ (List.mem_append_left _ (List.mem_of_getElem? (i := 114) rfl))))) rfl
theorem mw_2_116 : Cond.instanceMethod y_Mo_solve ∈ wsAll := ws_mem (List.mem_append_right _ (List.mem_append_right _ (List.mem_append_right _ (List.mem_append_left _ (List.mem_of_getElem? (i := 116) rfl))))) rfl
theorem mw_2_117 : Cond.code y_Mo_solve c_Mo_solve 2 none ∈ wsAll := ws_mem (List.mem_append_right _ (List.mem_append_right _ (List.mem_append_right _ (List.mem_append_left _ (List.mem_of_getElem? (i := 117) rfl))))) rfl
theorem mw_2_118 : Cond.methodLink "FactFlowModel" 126 y_Mo_result ∈ wsAll := ws_mem (List.mem_append_right _ (List.mem_append_right _ (List.mem_append_right _ (List.mem_append_left _ (List.mem_of_getElem? (i := 118) rfl))))) rfl
theorem mw_2_120 : Cond.instanceMethod y_Mo_result ∈ wsAll := ws_mem (List.mem_append_right _ (List.mem_append_right _ (List.mem_append_right _ (List.mem_append_left _ (List.mem_of_getElem? (i := 120) rfl))))) rfl
theorem mw_2_121 : Cond.code y_Mo_result c_Mo_result 4 none ∈ wsAll := ws_mem (List.mem_append_right _ (List.mem_append_right _ (List.mem_append_right _ (List.mem_append_left _ (List.mem_of_getElem? (i := 121) rfl))))) rfl
theorem mw_2_122 : Cond.methodLink "FactFlowModel" 140 y_Mo_take ∈ wsAll := ws_mem (List.mem_append_right _ (List.mem_append_right _ (List.mem_append_right _ (List.mem_append_left _ (List.mem_of_getElem? (i := 122) rfl))))) rfl
theorem mw_2_124 : Cond.instanceMethod y_Mo_take ∈ wsAll := ws_mem (List.mem_append_right _ (List.mem_append_right _ (List.mem_append_right _ (List.mem_append_left _ (List.mem_of_getElem? (i := 124) rfl))))) rfl
theorem mw_2_125 : Cond.code y_Mo_take c_Mo_take 2 none ∈ wsAll := ws_mem (List.mem_append_right _ (List.mem_append_right _ (List.mem_append_right _ (List.mem_append_left _ (List.mem_of_getElem? (i := 125) rfl))))) rfl
theorem mw_2_126 : Cond.methodLink "FactFlowModel" 162 y_Mo_join ∈ wsAll := ws_mem (List.mem_append_right _ (List.mem_append_right _ (List.mem_append_right _ (List.mem_append_left _ (List.mem_of_getElem? (i := 126) rfl))))) rfl
theorem mw_2_128 : Cond.instanceMethod y_Mo_join ∈ wsAll := ws_mem (List.mem_append_right _ (List.mem_append_right _ (List.mem_append_right _ (List.mem_append_left _ (List.mem_of_getElem? (i := 128) rfl))))) rfl
theorem mw_2_129 : Cond.code y_Mo_join c_Mo_join 3 none ∈ wsAll := ws_mem (List.mem_append_right _ (List.mem_append_right _ (List.mem_append_right _ (List.mem_append_left _ (List.mem_of_getElem? (i := 129) rfl))))) rfl
theorem mw_2_130 : Cond.methodLink "FactFlowModel" 155 y_Mo_joinFact ∈ wsAll := ws_mem (List.mem_append_right _ (List.mem_append_right _ (List.mem_append_right _ (List.mem_append_left _ (List.mem_of_getElem? (i := 130) rfl))))) rfl
theorem mw_2_132 : Cond.instanceMethod y_Mo_joinFact ∈ wsAll := ws_mem (List.mem_append_right _ (List.mem_append_right _ (List.mem_append_right _ (List.mem_append_left _ (List.mem_of_getElem? (i := 132) rfl))))) rfl
theorem mw_2_133 : Cond.code y_Mo_joinFact c_Mo_joinFact 9 none ∈ wsAll := ws_mem (List.mem_append_right _ (List.mem_append_right _ (List.mem_append_right _ (List.mem_append_left _ (List.mem_of_getElem? (i := 133) rfl))))) rfl
theorem mw_2_134 : Cond.methodLink "FactFlowModel" 120 y_Mo_least ∈ wsAll := ws_mem (List.mem_append_right _ (List.mem_append_right _ (List.mem_append_right _ (List.mem_append_left _ (List.mem_of_getElem? (i := 134) rfl))))) rfl
theorem mw_2_135 : Cond.static y_Mo_least ∈ wsAll := ws_mem (List.mem_append_right _ (List.mem_append_right _ (List.mem_append_right _ (List.mem_append_left _ (List.mem_of_getElem? (i := 135) rfl))))) rfl
theorem mw_2_136 : Cond.code y_Mo_least c_Mo_least 2 (some .int) ∈ wsAll := ws_mem (List.mem_append_right _ (List.mem_append_right _ (List.mem_append_right _ (List.mem_append_left _ (List.mem_of_getElem? (i := 136) rfl))))) rfl
theorem mw_2_137 : Cond.methodLink "FactFlowModel" 130 y_Mo_zeros ∈ wsAll := ws_mem (List.mem_append_right _ (List.mem_append_right _ (List.mem_append_right _ (List.mem_append_left _ (List.mem_of_getElem? (i := 137) rfl))))) rfl
theorem mw_2_138 : Cond.static y_Mo_zeros ∈ wsAll := ws_mem (List.mem_append_right _ (List.mem_append_right _ (List.mem_append_right _ (List.mem_append_left _ (List.mem_of_getElem? (i := 138) rfl))))) rfl
theorem mw_2_139 : Cond.code y_Mo_zeros c_Mo_zeros 2 (some .int) ∈ wsAll := ws_mem (List.mem_append_right _ (List.mem_append_right _ (List.mem_append_right _ (List.mem_append_left _ (List.mem_of_getElem? (i := 139) rfl))))) rfl
theorem mw_2_140 : Cond.methodLink "FactFlowModel" 96 y_Mo_cut ∈ wsAll := ws_mem (List.mem_append_right _ (List.mem_append_right _ (List.mem_append_right _ (List.mem_append_left _ (List.mem_of_getElem? (i := 140) rfl))))) rfl
theorem mw_2_141 : Cond.static y_Mo_cut ∈ wsAll := ws_mem (List.mem_append_right _ (List.mem_append_right _ (List.mem_append_right _ (List.mem_append_left _ (List.mem_of_getElem? (i := 141) rfl))))) rfl
theorem mw_2_142 : Cond.code y_Mo_cut c_Mo_cut 2 (some .int) ∈ wsAll := ws_mem (List.mem_append_right _ (List.mem_append_right _ (List.mem_append_right _ (List.mem_append_left _ (List.mem_of_getElem? (i := 142) rfl))))) rfl
theorem mw_2_143 : Cond.methodLink "FactFlowModel" 168 y_Mo_pass ∈ wsAll := ws_mem (List.mem_append_right _ (List.mem_append_right _ (List.mem_append_right _ (List.mem_append_left _ (List.mem_of_getElem? (i := 143) rfl))))) rfl
theorem mw_2_145 : Cond.instanceMethod y_Mo_pass ∈ wsAll := ws_mem (List.mem_append_right _ (List.mem_append_right _ (List.mem_append_right _ (List.mem_append_left _ (List.mem_of_getElem? (i := 145) rfl))))) rfl
theorem mw_2_146 : Cond.code y_Mo_pass c_Mo_pass 4 none ∈ wsAll := ws_mem (List.mem_append_right _ (List.mem_append_right _ (List.mem_append_right _ (List.mem_append_left _ (List.mem_of_getElem? (i := 146) rfl))))) rfl
theorem mw_2_147 : Cond.methodLink "FactFlowModel" 159 y_Mo_load ∈ wsAll := ws_mem (List.mem_append_right _ (List.mem_append_right _ (List.mem_append_right _ (List.mem_append_left _ (List.mem_of_getElem? (i := 147) rfl))))) rfl
theorem mw_2_149 : Cond.instanceMethod y_Mo_load ∈ wsAll := ws_mem (List.mem_append_right _ (List.mem_append_right _ (List.mem_append_right _ (List.mem_append_left _ (List.mem_of_getElem? (i := 149) rfl))))) rfl
theorem mw_2_150 : Cond.code y_Mo_load c_Mo_load 3 none ∈ wsAll := ws_mem (List.mem_append_right _ (List.mem_append_right _ (List.mem_append_right _ (List.mem_append_left _ (List.mem_of_getElem? (i := 150) rfl))))) rfl
theorem mw_2_151 : Cond.methodLink "FactFlowModel" 144 y_Mo_only ∈ wsAll := ws_mem (List.mem_append_right _ (List.mem_append_right _ (List.mem_append_right _ (List.mem_append_left _ (List.mem_of_getElem? (i := 151) rfl))))) rfl
theorem mw_2_153 : Cond.instanceMethod y_Mo_only ∈ wsAll := ws_mem (List.mem_append_right _ (List.mem_append_right _ (List.mem_append_right _ (List.mem_append_left _ (List.mem_of_getElem? (i := 153) rfl))))) rfl
theorem mw_2_154 : Cond.code y_Mo_only c_Mo_only 3 (some .boolean) ∈ wsAll := ws_mem (List.mem_append_right _ (List.mem_append_right _ (List.mem_append_right _ (List.mem_append_left _ (List.mem_of_getElem? (i := 154) rfl))))) rfl
theorem mw_2_155 : Cond.methodLink "FactFlowModel" 136 y_Mo_reduced ∈ wsAll := ws_mem (List.mem_append_right _ (List.mem_append_right _ (List.mem_append_right _ (List.mem_append_left _ (List.mem_of_getElem? (i := 155) rfl))))) rfl
theorem mw_2_157 : Cond.instanceMethod y_Mo_reduced ∈ wsAll := ws_mem (List.mem_append_right _ (List.mem_append_right _ (List.mem_append_right _ (List.mem_append_left _ (List.mem_of_getElem? (i := 157) rfl))))) rfl
theorem mw_2_158 : Cond.code y_Mo_reduced c_Mo_reduced 1 (some .boolean) ∈ wsAll := ws_mem (List.mem_append_right _ (List.mem_append_right _ (List.mem_append_right _ (List.mem_append_left _ (List.mem_of_getElem? (i := 158) rfl))))) rfl
theorem mw_2_159 : Cond.methodLink "FactFlowModel" 103 y_Mo_sign ∈ wsAll := ws_mem (List.mem_append_right _ (List.mem_append_right _ (List.mem_append_right _ (List.mem_append_left _ (List.mem_of_getElem? (i := 159) rfl))))) rfl
theorem mw_2_160 : Cond.static y_Mo_sign ∈ wsAll := ws_mem (List.mem_append_right _ (List.mem_append_right _ (List.mem_append_right _ (List.mem_append_left _ (List.mem_of_getElem? (i := 160) rfl))))) rfl
theorem mw_2_161 : Cond.code y_Mo_sign c_Mo_sign 1 (some .int) ∈ wsAll := ws_mem (List.mem_append_right _ (List.mem_append_right _ (List.mem_append_right _ (List.mem_append_left _ (List.mem_of_getElem? (i := 161) rfl))))) rfl
theorem mw_2_162 : Cond.methodLink "FactFlowModel" 165 y_Mo_worked ∈ wsAll := ws_mem (List.mem_append_right _ (List.mem_append_right _ (List.mem_append_right _ (List.mem_append_left _ (List.mem_of_getElem? (i := 162) rfl))))) rfl
theorem mw_2_164 : Cond.instanceMethod y_Mo_worked ∈ wsAll := ws_mem (List.mem_append_right _ (List.mem_append_right _ (List.mem_append_right _ (List.mem_append_left _ (List.mem_of_getElem? (i := 164) rfl))))) rfl
theorem mw_2_165 : Cond.code y_Mo_worked c_Mo_worked 4 (some .boolean) ∈ wsAll := ws_mem (List.mem_append_right _ (List.mem_append_right _ (List.mem_append_right _ (List.mem_append_left _ (List.mem_of_getElem? (i := 165) rfl))))) rfl
theorem mw_2_166 : Cond.methodLink "FactFlowModel" 148 y_Mo_reckon ∈ wsAll := ws_mem (List.mem_append_right _ (List.mem_append_right _ (List.mem_append_right _ (List.mem_append_left _ (List.mem_of_getElem? (i := 166) rfl))))) rfl
theorem mw_2_168 : Cond.instanceMethod y_Mo_reckon ∈ wsAll := ws_mem (List.mem_append_right _ (List.mem_append_right _ (List.mem_append_right _ (List.mem_append_left _ (List.mem_of_getElem? (i := 168) rfl))))) rfl
theorem mw_2_169 : Cond.code y_Mo_reckon c_Mo_reckon 9 (some .boolean) ∈ wsAll := ws_mem (List.mem_append_right _ (List.mem_append_right _ (List.mem_append_right _ (List.mem_append_left _ (List.mem_of_getElem? (i := 169) rfl))))) rfl
theorem mw_2_170 : Cond.methodLink "FactFlowModel" 123 y_Mo_signsBy ∈ wsAll := ws_mem (List.mem_append_right _ (List.mem_append_right _ (List.mem_append_right _ (List.mem_append_left _ (List.mem_of_getElem? (i := 170) rfl))))) rfl
theorem mw_2_172 : Cond.instanceMethod y_Mo_signsBy ∈ wsAll := ws_mem (List.mem_append_right _ (List.mem_append_right _ (List.mem_append_right _ (List.mem_append_left _ (List.mem_of_getElem? (i := 172) rfl))))) rfl
theorem mw_2_173 : Cond.code y_Mo_signsBy c_Mo_signsBy 8 (some .int) ∈ wsAll := ws_mem (List.mem_append_right _ (List.mem_append_right _ (List.mem_append_right _ (List.mem_append_left _ (List.mem_of_getElem? (i := 173) rfl))))) rfl
theorem mw_2_174 : Cond.methodLink "FactFlowModel" 116 y_Mo_pairSigns ∈ wsAll := ws_mem (List.mem_append_right _ (List.mem_append_right _ (List.mem_append_right _ (List.mem_append_left _ (List.mem_of_getElem? (i := 174) rfl))))) rfl
theorem mw_2_175 : Cond.static y_Mo_pairSigns ∈ wsAll := ws_mem (List.mem_append_right _ (List.mem_append_right _ (List.mem_append_right _ (List.mem_append_left _ (List.mem_of_getElem? (i := 175) rfl))))) rfl
theorem mw_2_176 : Cond.code y_Mo_pairSigns c_Mo_pairSigns 3 (some .int) ∈ wsAll := ws_mem (List.mem_append_right _ (List.mem_append_right _ (List.mem_append_right _ (List.mem_append_left _ (List.mem_of_getElem? (i := 176) rfl))))) rfl
theorem mw_2_177 : Cond.methodLink "FactFlowModel" 107 y_Mo_sumSigns ∈ wsAll := ws_mem (List.mem_append_right _ (List.mem_append_right _ (List.mem_append_right _ (List.mem_append_left _ (List.mem_of_getElem? (i := 177) rfl))))) rfl
theorem mw_2_178 : Cond.static y_Mo_sumSigns ∈ wsAll := ws_mem (List.mem_append_right _ (List.mem_append_right _ (List.mem_append_right _ (List.mem_append_left _ (List.mem_of_getElem? (i := 178) rfl))))) rfl
theorem mw_2_179 : Cond.code y_Mo_sumSigns c_Mo_sumSigns 2 (some .int) ∈ wsAll := ws_mem (List.mem_append_right _ (List.mem_append_right _ (List.mem_append_right _ (List.mem_append_left _ (List.mem_of_getElem? (i := 179) rfl))))) rfl
theorem mw_2_180 : Cond.methodLink "FactFlowModel" 110 y_Mo_lessSigns ∈ wsAll := ws_mem (List.mem_append_right _ (List.mem_append_right _ (List.mem_append_right _ (List.mem_append_left _ (List.mem_of_getElem? (i := 180) rfl))))) rfl
theorem mw_2_181 : Cond.static y_Mo_lessSigns ∈ wsAll := ws_mem (List.mem_append_right _ (List.mem_append_right _ (List.mem_append_right _ (List.mem_append_left _ (List.mem_of_getElem? (i := 181) rfl))))) rfl
theorem mw_2_182 : Cond.code y_Mo_lessSigns c_Mo_lessSigns 2 (some .int) ∈ wsAll := ws_mem (List.mem_append_right _ (List.mem_append_right _ (List.mem_append_right _ (List.mem_append_left _ (List.mem_of_getElem? (i := 182) rfl))))) rfl
theorem mw_2_183 : Cond.methodLink "FactFlowModel" 113 y_Mo_partSigns ∈ wsAll := ws_mem (List.mem_append_right _ (List.mem_append_right _ (List.mem_append_right _ (List.mem_append_left _ (List.mem_of_getElem? (i := 183) rfl))))) rfl
theorem mw_2_184 : Cond.static y_Mo_partSigns ∈ wsAll := ws_mem (List.mem_append_right _ (List.mem_append_right _ (List.mem_append_right _ (List.mem_append_left _ (List.mem_of_getElem? (i := 184) rfl))))) rfl
theorem mw_2_185 : Cond.code y_Mo_partSigns c_Mo_partSigns 2 (some .int) ∈ wsAll := ws_mem (List.mem_append_right _ (List.mem_append_right _ (List.mem_append_right _ (List.mem_append_left _ (List.mem_of_getElem? (i := 185) rfl))))) rfl
theorem mw_2_186 : Cond.methodLink "FactFlowModel" 133 y_Mo_divided ∈ wsAll := ws_mem (List.mem_append_right _ (List.mem_append_right _ (List.mem_append_right _ (List.mem_append_left _ (List.mem_of_getElem? (i := 186) rfl))))) rfl
theorem mw_2_187 : Cond.static y_Mo_divided ∈ wsAll := ws_mem (List.mem_append_right _ (List.mem_append_right _ (List.mem_append_right _ (List.mem_append_left _ (List.mem_of_getElem? (i := 187) rfl))))) rfl
theorem mw_2_188 : Cond.code y_Mo_divided c_Mo_divided 2 (some .int) ∈ wsAll := ws_mem (List.mem_append_right _ (List.mem_append_right _ (List.mem_append_right _ (List.mem_append_left _ (List.mem_of_getElem? (i := 188) rfl))))) rfl
theorem mw_2_189 : Cond.methodLink "FactFlowLaw" 45 y_Mo_bits ∈ wsAll := ws_mem (List.mem_append_right _ (List.mem_append_right _ (List.mem_append_right _ (List.mem_append_left _ (List.mem_of_getElem? (i := 189) rfl))))) rfl
theorem mw_2_190 : Cond.instanceMethod y_Mo_bits ∈ wsAll := ws_mem (List.mem_append_right _ (List.mem_append_right _ (List.mem_append_right _ (List.mem_append_left _ (List.mem_of_getElem? (i := 190) rfl))))) rfl
theorem mw_2_191 : Cond.selects "FactFlowModel" y_Mo_bits y_Mo_bits ∈ wsAll := ws_mem (List.mem_append_right _ (List.mem_append_right _ (List.mem_append_right _ (List.mem_append_left _ (List.mem_of_getElem? (i := 191) rfl))))) rfl
theorem mw_2_192 : Cond.code y_Mo_bits c_Mo_bits 3 (some .int) ∈ wsAll := ws_mem (List.mem_append_right _ (List.mem_append_right _ (List.mem_append_right _ (List.mem_append_left _ (List.mem_of_getElem? (i := 192) rfl))))) rfl
theorem mw_2_193 : Cond.methodLink "FactFlowModel" 174 y_Mo_untold ∈ wsAll := ws_mem (List.mem_append_right _ (List.mem_append_right _ (List.mem_append_right _ (List.mem_append_left _ (List.mem_of_getElem? (i := 193) rfl))))) rfl
theorem mw_2_195 : Cond.instanceMethod y_Mo_untold ∈ wsAll := ws_mem (List.mem_append_right _ (List.mem_append_right _ (List.mem_append_right _ (List.mem_append_left _ (List.mem_of_getElem? (i := 195) rfl))))) rfl
theorem mw_2_196 : Cond.code y_Mo_untold c_Mo_untold 3 (some .boolean) ∈ wsAll := ws_mem (List.mem_append_right _ (List.mem_append_right _ (List.mem_append_right _ (List.mem_append_left _ (List.mem_of_getElem? (i := 196) rfl))))) rfl
theorem mw_2_197 : Cond.methodLink "FactFlowLaw" 49 y_Mo_rest ∈ wsAll := ws_mem (List.mem_append_right _ (List.mem_append_right _ (List.mem_append_right _ (List.mem_append_left _ (List.mem_of_getElem? (i := 197) rfl))))) rfl
theorem mw_2_198 : Cond.instanceMethod y_Mo_rest ∈ wsAll := ws_mem (List.mem_append_right _ (List.mem_append_right _ (List.mem_append_right _ (List.mem_append_left _ (List.mem_of_getElem? (i := 198) rfl))))) rfl
theorem mw_2_199 : Cond.selects "FactFlowModel" y_Mo_rest y_Mo_rest ∈ wsAll := ws_mem (List.mem_append_right _ (List.mem_append_right _ (List.mem_append_right _ (List.mem_append_left _ (List.mem_of_getElem? (i := 199) rfl))))) rfl
theorem mw_2_200 : Cond.code y_Mo_rest c_Mo_rest 3 (some .int) ∈ wsAll := ws_mem (List.mem_append_right _ (List.mem_append_right _ (List.mem_append_right _ (List.mem_append_left _ (List.mem_of_getElem? (i := 200) rfl))))) rfl
theorem mw_2_201 : Cond.methodLink "FactFlowLaw" 53 y_Mo_signs ∈ wsAll := ws_mem (List.mem_append_right _ (List.mem_append_right _ (List.mem_append_right _ (List.mem_append_left _ (List.mem_of_getElem? (i := 201) rfl))))) rfl
theorem mw_2_202 : Cond.instanceMethod y_Mo_signs ∈ wsAll := ws_mem (List.mem_append_right _ (List.mem_append_right _ (List.mem_append_right _ (List.mem_append_left _ (List.mem_of_getElem? (i := 202) rfl))))) rfl
theorem mw_2_203 : Cond.selects "FactFlowModel" y_Mo_signs y_Mo_signs ∈ wsAll := ws_mem (List.mem_append_right _ (List.mem_append_right _ (List.mem_append_right _ (List.mem_append_left _ (List.mem_of_getElem? (i := 203) rfl))))) rfl
theorem mw_2_204 : Cond.code y_Mo_signs c_Mo_signs 3 (some .int) ∈ wsAll := ws_mem (List.mem_append_right _ (List.mem_append_right _ (List.mem_append_right _ (List.mem_append_left _ (List.mem_of_getElem? (i := 204) rfl))))) rfl
theorem mw_2_205 : Cond.methodLink "FactFlowLaw" 57 y_Mo_rewrite ∈ wsAll := ws_mem (List.mem_append_right _ (List.mem_append_right _ (List.mem_append_right _ (List.mem_append_left _ (List.mem_of_getElem? (i := 205) rfl))))) rfl
theorem mw_2_206 : Cond.instanceMethod y_Mo_rewrite ∈ wsAll := ws_mem (List.mem_append_right _ (List.mem_append_right _ (List.mem_append_right _ (List.mem_append_left _ (List.mem_of_getElem? (i := 206) rfl))))) rfl
theorem mw_2_207 : Cond.selects "FactFlowModel" y_Mo_rewrite y_Mo_rewrite ∈ wsAll := ws_mem (List.mem_append_right _ (List.mem_append_right _ (List.mem_append_right _ (List.mem_append_left _ (List.mem_of_getElem? (i := 207) rfl))))) rfl
theorem mw_2_208 : Cond.code y_Mo_rewrite c_Mo_rewrite 3 (some .int) ∈ wsAll := ws_mem (List.mem_append_right _ (List.mem_append_right _ (List.mem_append_right _ (List.mem_append_left _ (List.mem_of_getElem? (i := 208) rfl))))) rfl
theorem mw_2_209 : Cond.methodLink "FactFlowModel" 177 y_Mo_written ∈ wsAll := ws_mem (List.mem_append_right _ (List.mem_append_right _ (List.mem_append_right _ (List.mem_append_left _ (List.mem_of_getElem? (i := 209) rfl))))) rfl
theorem mw_2_211 : Cond.instanceMethod y_Mo_written ∈ wsAll := ws_mem (List.mem_append_right _ (List.mem_append_right _ (List.mem_append_right _ (List.mem_append_left _ (List.mem_of_getElem? (i := 211) rfl))))) rfl
theorem mw_2_212 : Cond.code y_Mo_written c_Mo_written 5 (some .boolean) ∈ wsAll := ws_mem (List.mem_append_right _ (List.mem_append_right _ (List.mem_append_right _ (List.mem_append_left _ (List.mem_of_getElem? (i := 212) rfl))))) rfl
theorem mw_2_213 : Cond.methodLink "FactFlowLaw" 61 y_Mo_input ∈ wsAll := ws_mem (List.mem_append_right _ (List.mem_append_right _ (List.mem_append_right _ (List.mem_append_left _ (List.mem_of_getElem? (i := 213) rfl))))) rfl
theorem mw_2_214 : Cond.instanceMethod y_Mo_input ∈ wsAll := ws_mem (List.mem_append_right _ (List.mem_append_right _ (List.mem_append_right _ (List.mem_append_left _ (List.mem_of_getElem? (i := 214) rfl))))) rfl
theorem mw_2_215 : Cond.selects "FactFlowModel" y_Mo_input y_Mo_input ∈ wsAll := ws_mem (List.mem_append_right _ (List.mem_append_right _ (List.mem_append_right _ (List.mem_append_left _ (List.mem_of_getElem? (i := 215) rfl))))) rfl
theorem mw_2_216 : Cond.code y_Mo_input c_Mo_input 2 (some .boolean) ∈ wsAll := ws_mem (List.mem_append_right _ (List.mem_append_right _ (List.mem_append_right _ (List.mem_append_left _ (List.mem_of_getElem? (i := 216) rfl))))) rfl
theorem mw_2_217 : Cond.methodLink "FactFlowLaw" 65 y_Mo_dry ∈ wsAll := ws_mem (List.mem_append_right _ (List.mem_append_right _ (List.mem_append_right _ (List.mem_append_left _ (List.mem_of_getElem? (i := 217) rfl))))) rfl
theorem mw_2_218 : Cond.instanceMethod y_Mo_dry ∈ wsAll := ws_mem (List.mem_append_right _ (List.mem_append_right _ (List.mem_append_right _ (List.mem_append_left _ (List.mem_of_getElem? (i := 218) rfl))))) rfl
theorem mw_2_219 : Cond.selects "FactFlowModel" y_Mo_dry y_Mo_dry ∈ wsAll := ws_mem (List.mem_append_right _ (List.mem_append_right _ (List.mem_append_right _ (List.mem_append_left _ (List.mem_of_getElem? (i := 219) rfl))))) rfl
theorem mw_2_220 : Cond.code y_Mo_dry c_Mo_dry 1 none ∈ wsAll := ws_mem (List.mem_append_right _ (List.mem_append_right _ (List.mem_append_right _ (List.mem_append_left _ (List.mem_of_getElem? (i := 220) rfl))))) rfl
theorem mw_2_221 : Cond.methodLink "FactFlowLaw" 70 y_Mo_run ∈ wsAll := ws_mem (List.mem_append_right _ (List.mem_append_right _ (List.mem_append_right _ (List.mem_append_left _ (List.mem_of_getElem? (i := 221) rfl))))) rfl
theorem mw_2_222 : Cond.instanceMethod y_Mo_run ∈ wsAll := ws_mem (List.mem_append_right _ (List.mem_append_right _ (List.mem_append_right _ (List.mem_append_left _ (List.mem_of_getElem? (i := 222) rfl))))) rfl
theorem mw_2_223 : Cond.selects "FactFlowModel" y_Mo_run y_Mo_run ∈ wsAll := ws_mem (List.mem_append_right _ (List.mem_append_right _ (List.mem_append_right _ (List.mem_append_left _ (List.mem_of_getElem? (i := 223) rfl))))) rfl
theorem mw_2_224 : Cond.code y_Mo_run c_Mo_run 3 (some .int) ∈ wsAll := ws_mem (List.mem_append_right _ (List.mem_append_right _ (List.mem_append_right _ (List.mem_append_left _ (List.mem_of_getElem? (i := 224) rfl))))) rfl
theorem mw_2_225 : Cond.methodLink "FactFlowModel" 201 y_Mo_step ∈ wsAll := ws_mem (List.mem_append_right _ (List.mem_append_right _ (List.mem_append_right _ (List.mem_append_left _ (List.mem_of_getElem? (i := 225) rfl))))) rfl
theorem mw_2_227 : Cond.instanceMethod y_Mo_step ∈ wsAll := ws_mem (List.mem_append_right _ (List.mem_append_right _ (List.mem_append_right _ (List.mem_append_left _ (List.mem_of_getElem? (i := 227) rfl))))) rfl
theorem mw_2_228 : Cond.code y_Mo_step c_Mo_step 6 (some .int) ∈ wsAll := ws_mem (List.mem_append_right _ (List.mem_append_right _ (List.mem_append_right _ (List.mem_append_left _ (List.mem_of_getElem? (i := 228) rfl))))) rfl
theorem mw_2_229 : Cond.methodLink "FactFlowModel" 189 y_Mo_worth ∈ wsAll := ws_mem (List.mem_append_right _ (List.mem_append_right _ (List.mem_append_right _ (List.mem_append_left _ (List.mem_of_getElem? (i := 229) rfl))))) rfl
theorem mw_2_231 : Cond.instanceMethod y_Mo_worth ∈ wsAll := ws_mem (List.mem_append_right _ (List.mem_append_right _ (List.mem_append_right _ (List.mem_append_left _ (List.mem_of_getElem? (i := 231) rfl))))) rfl
theorem mw_2_232 : Cond.code y_Mo_worth c_Mo_worth 4 (some .int) ∈ wsAll := ws_mem (List.mem_append_right _ (List.mem_append_right _ (List.mem_append_right _ (List.mem_append_left _ (List.mem_of_getElem? (i := 232) rfl))))) rfl
theorem mw_2_233 : Cond.methodLink "FactFlowModel" 192 y_Mo_read ∈ wsAll := ws_mem (List.mem_append_right _ (List.mem_append_right _ (List.mem_append_right _ (List.mem_append_left _ (List.mem_of_getElem? (i := 233) rfl))))) rfl
theorem mw_2_235 : Cond.instanceMethod y_Mo_read ∈ wsAll := ws_mem (List.mem_append_right _ (List.mem_append_right _ (List.mem_append_right _ (List.mem_append_left _ (List.mem_of_getElem? (i := 235) rfl))))) rfl
theorem mw_2_236 : Cond.code y_Mo_read c_Mo_read 2 none ∈ wsAll := ws_mem (List.mem_append_right _ (List.mem_append_right _ (List.mem_append_right _ (List.mem_append_left _ (List.mem_of_getElem? (i := 236) rfl))))) rfl
theorem mw_2_237 : Cond.methodLink "FactFlowModel" 195 y_Mo_print ∈ wsAll := ws_mem (List.mem_append_right _ (List.mem_append_right _ (List.mem_append_right _ (List.mem_append_left _ (List.mem_of_getElem? (i := 237) rfl))))) rfl
theorem mw_2_239 : Cond.instanceMethod y_Mo_print ∈ wsAll := ws_mem (List.mem_append_right _ (List.mem_append_right _ (List.mem_append_right _ (List.mem_append_left _ (List.mem_of_getElem? (i := 239) rfl))))) rfl
theorem mw_3_0 : Cond.code y_Mo_print c_Mo_print 2 none ∈ wsAll := ws_mem (List.mem_append_right _ (List.mem_append_right _ (List.mem_append_right _ (List.mem_append_right _ (List.mem_of_getElem? (i := 0) rfl))))) rfl
theorem mw_3_1 : Cond.methodLink "FactFlowLaw" 74 y_Mo_steps ∈ wsAll := ws_mem (List.mem_append_right _ (List.mem_append_right _ (List.mem_append_right _ (List.mem_append_right _ (List.mem_of_getElem? (i := 1) rfl))))) rfl
theorem mw_3_2 : Cond.instanceMethod y_Mo_steps ∈ wsAll := ws_mem (List.mem_append_right _ (List.mem_append_right _ (List.mem_append_right _ (List.mem_append_right _ (List.mem_of_getElem? (i := 2) rfl))))) rfl
theorem mw_3_3 : Cond.selects "FactFlowModel" y_Mo_steps y_Mo_steps ∈ wsAll := ws_mem (List.mem_append_right _ (List.mem_append_right _ (List.mem_append_right _ (List.mem_append_right _ (List.mem_of_getElem? (i := 3) rfl))))) rfl
theorem mw_3_4 : Cond.code y_Mo_steps c_Mo_steps 1 (some .int) ∈ wsAll := ws_mem (List.mem_append_right _ (List.mem_append_right _ (List.mem_append_right _ (List.mem_append_right _ (List.mem_of_getElem? (i := 4) rfl))))) rfl
theorem mw_3_5 : Cond.methodLink "FactFlowLaw" 78 y_Mo_next ∈ wsAll := ws_mem (List.mem_append_right _ (List.mem_append_right _ (List.mem_append_right _ (List.mem_append_right _ (List.mem_of_getElem? (i := 5) rfl))))) rfl
theorem mw_3_6 : Cond.instanceMethod y_Mo_next ∈ wsAll := ws_mem (List.mem_append_right _ (List.mem_append_right _ (List.mem_append_right _ (List.mem_append_right _ (List.mem_of_getElem? (i := 6) rfl))))) rfl
theorem mw_3_7 : Cond.selects "FactFlowModel" y_Mo_next y_Mo_next ∈ wsAll := ws_mem (List.mem_append_right _ (List.mem_append_right _ (List.mem_append_right _ (List.mem_append_right _ (List.mem_of_getElem? (i := 7) rfl))))) rfl
theorem mw_3_8 : Cond.code y_Mo_next c_Mo_next 1 (some .int) ∈ wsAll := ws_mem (List.mem_append_right _ (List.mem_append_right _ (List.mem_append_right _ (List.mem_append_right _ (List.mem_of_getElem? (i := 8) rfl))))) rfl
theorem mw_3_9 : Cond.methodLink "FactFlowLaw" 82 y_Mo_variable ∈ wsAll := ws_mem (List.mem_append_right _ (List.mem_append_right _ (List.mem_append_right _ (List.mem_append_right _ (List.mem_of_getElem? (i := 9) rfl))))) rfl
theorem mw_3_10 : Cond.instanceMethod y_Mo_variable ∈ wsAll := ws_mem (List.mem_append_right _ (List.mem_append_right _ (List.mem_append_right _ (List.mem_append_right _ (List.mem_of_getElem? (i := 10) rfl))))) rfl
theorem mw_3_11 : Cond.selects "FactFlowModel" y_Mo_variable y_Mo_variable ∈ wsAll := ws_mem (List.mem_append_right _ (List.mem_append_right _ (List.mem_append_right _ (List.mem_append_right _ (List.mem_of_getElem? (i := 11) rfl))))) rfl
theorem mw_3_12 : Cond.code y_Mo_variable c_Mo_variable 2 (some .int) ∈ wsAll := ws_mem (List.mem_append_right _ (List.mem_append_right _ (List.mem_append_right _ (List.mem_append_right _ (List.mem_of_getElem? (i := 12) rfl))))) rfl
theorem mw_3_13 : Cond.methodLink "FactFlowLaw" 86 y_Mo_outputs ∈ wsAll := ws_mem (List.mem_append_right _ (List.mem_append_right _ (List.mem_append_right _ (List.mem_append_right _ (List.mem_of_getElem? (i := 13) rfl))))) rfl
theorem mw_3_14 : Cond.instanceMethod y_Mo_outputs ∈ wsAll := ws_mem (List.mem_append_right _ (List.mem_append_right _ (List.mem_append_right _ (List.mem_append_right _ (List.mem_of_getElem? (i := 14) rfl))))) rfl
theorem mw_3_15 : Cond.selects "FactFlowModel" y_Mo_outputs y_Mo_outputs ∈ wsAll := ws_mem (List.mem_append_right _ (List.mem_append_right _ (List.mem_append_right _ (List.mem_append_right _ (List.mem_of_getElem? (i := 15) rfl))))) rfl
theorem mw_3_16 : Cond.code y_Mo_outputs c_Mo_outputs 1 (some .int) ∈ wsAll := ws_mem (List.mem_append_right _ (List.mem_append_right _ (List.mem_append_right _ (List.mem_append_right _ (List.mem_of_getElem? (i := 16) rfl))))) rfl
theorem mw_3_17 : Cond.methodLink "FactFlowLaw" 90 y_Mo_output ∈ wsAll := ws_mem (List.mem_append_right _ (List.mem_append_right _ (List.mem_append_right _ (List.mem_append_right _ (List.mem_of_getElem? (i := 17) rfl))))) rfl
theorem mw_3_18 : Cond.instanceMethod y_Mo_output ∈ wsAll := ws_mem (List.mem_append_right _ (List.mem_append_right _ (List.mem_append_right _ (List.mem_append_right _ (List.mem_of_getElem? (i := 18) rfl))))) rfl
theorem mw_3_19 : Cond.selects "FactFlowModel" y_Mo_output y_Mo_output ∈ wsAll := ws_mem (List.mem_append_right _ (List.mem_append_right _ (List.mem_append_right _ (List.mem_append_right _ (List.mem_of_getElem? (i := 19) rfl))))) rfl
theorem mw_3_20 : Cond.code y_Mo_output c_Mo_output 2 (some .int) ∈ wsAll := ws_mem (List.mem_append_right _ (List.mem_append_right _ (List.mem_append_right _ (List.mem_append_right _ (List.mem_of_getElem? (i := 20) rfl))))) rfl
theorem mw_p_0 : Cond.selects "FactFlow$Solution" y_So_begin y_So_begin ∈ wsAll := ws_mem (List.mem_append_left _ (List.mem_of_getElem? (i := 0) rfl)) rfl
theorem mw_p_1 : Cond.selects "FactFlow$Fact" y_Fa_reduce y_Fa_reduce ∈ wsAll := ws_mem (List.mem_append_left _ (List.mem_of_getElem? (i := 1) rfl)) rfl
theorem mw_p_2 : Cond.selects "FactFlow$Solution" y_So_carry y_So_carry ∈ wsAll := ws_mem (List.mem_append_left _ (List.mem_of_getElem? (i := 2) rfl)) rfl
theorem mw_p_3 : Cond.selects "FactFlow$Solution" y_So_arrive y_So_arrive ∈ wsAll := ws_mem (List.mem_append_left _ (List.mem_of_getElem? (i := 3) rfl)) rfl
theorem mw_p_4 : Cond.selects "FactFlow" y_Ff_comesTo y_Ff_comesTo ∈ wsAll := ws_mem (List.mem_append_left _ (List.mem_of_getElem? (i := 4) rfl)) rfl
theorem mw_p_5 : Cond.selects "FactFlow$Machine" y_Ma_begin y_Ma_begin ∈ wsAll := ws_mem (List.mem_append_left _ (List.mem_of_getElem? (i := 5) rfl)) rfl
theorem mw_p_6 : Cond.selects "FactFlow$Machine" y_Ma_change y_Ma_change ∈ wsAll := ws_mem (List.mem_append_left _ (List.mem_of_getElem? (i := 6) rfl)) rfl
theorem mw_p_7 : Cond.selects "FactFlow$Machine" y_Ma_print y_Ma_print ∈ wsAll := ws_mem (List.mem_append_left _ (List.mem_of_getElem? (i := 7) rfl)) rfl
theorem mw_p_8 : Cond.selects "FactFlow$Machine" y_Ma_placeBehind y_Ma_placeBehind ∈ wsAll := ws_mem (List.mem_append_left _ (List.mem_of_getElem? (i := 8) rfl)) rfl
theorem mw_p_9 : Cond.selects "FactFlowModel" y_Mo_place y_Mo_place ∈ wsAll := ws_mem (List.mem_append_left _ (List.mem_of_getElem? (i := 9) rfl)) rfl
theorem mw_p_10 : Cond.selects "FactFlowModel" y_Mo_none y_Mo_none ∈ wsAll := ws_mem (List.mem_append_left _ (List.mem_of_getElem? (i := 10) rfl)) rfl
theorem mw_p_11 : Cond.selects "FactFlowModel" y_Mo_solve y_Mo_solve ∈ wsAll := ws_mem (List.mem_append_left _ (List.mem_of_getElem? (i := 11) rfl)) rfl
theorem mw_p_12 : Cond.selects "FactFlowModel" y_Mo_result y_Mo_result ∈ wsAll := ws_mem (List.mem_append_left _ (List.mem_of_getElem? (i := 12) rfl)) rfl
theorem mw_p_13 : Cond.selects "FactFlowModel" y_Mo_take y_Mo_take ∈ wsAll := ws_mem (List.mem_append_left _ (List.mem_of_getElem? (i := 13) rfl)) rfl
theorem mw_p_14 : Cond.selects "FactFlowModel" y_Mo_join y_Mo_join ∈ wsAll := ws_mem (List.mem_append_left _ (List.mem_of_getElem? (i := 14) rfl)) rfl
theorem mw_p_15 : Cond.selects "FactFlowModel" y_Mo_joinFact y_Mo_joinFact ∈ wsAll := ws_mem (List.mem_append_left _ (List.mem_of_getElem? (i := 15) rfl)) rfl
theorem mw_p_16 : Cond.selects "FactFlowModel" y_Mo_pass y_Mo_pass ∈ wsAll := ws_mem (List.mem_append_left _ (List.mem_of_getElem? (i := 16) rfl)) rfl
theorem mw_p_17 : Cond.selects "FactFlowModel" y_Mo_load y_Mo_load ∈ wsAll := ws_mem (List.mem_append_left _ (List.mem_of_getElem? (i := 17) rfl)) rfl
theorem mw_p_18 : Cond.selects "FactFlowModel" y_Mo_only y_Mo_only ∈ wsAll := ws_mem (List.mem_append_left _ (List.mem_of_getElem? (i := 18) rfl)) rfl
theorem mw_p_19 : Cond.selects "FactFlowModel" y_Mo_reduced y_Mo_reduced ∈ wsAll := ws_mem (List.mem_append_left _ (List.mem_of_getElem? (i := 19) rfl)) rfl
theorem mw_p_20 : Cond.selects "FactFlowModel" y_Mo_worked y_Mo_worked ∈ wsAll := ws_mem (List.mem_append_left _ (List.mem_of_getElem? (i := 20) rfl)) rfl
theorem mw_p_21 : Cond.selects "FactFlowModel" y_Mo_reckon y_Mo_reckon ∈ wsAll := ws_mem (List.mem_append_left _ (List.mem_of_getElem? (i := 21) rfl)) rfl
theorem mw_p_22 : Cond.selects "FactFlowModel" y_Mo_signsBy y_Mo_signsBy ∈ wsAll := ws_mem (List.mem_append_left _ (List.mem_of_getElem? (i := 22) rfl)) rfl
theorem mw_p_23 : Cond.selects "FactFlowModel" y_Mo_untold y_Mo_untold ∈ wsAll := ws_mem (List.mem_append_left _ (List.mem_of_getElem? (i := 23) rfl)) rfl
theorem mw_p_24 : Cond.selects "FactFlowModel" y_Mo_written y_Mo_written ∈ wsAll := ws_mem (List.mem_append_left _ (List.mem_of_getElem? (i := 24) rfl)) rfl
theorem mw_p_25 : Cond.selects "FactFlowModel" y_Mo_step y_Mo_step ∈ wsAll := ws_mem (List.mem_append_left _ (List.mem_of_getElem? (i := 25) rfl)) rfl
theorem mw_p_26 : Cond.selects "FactFlowModel" y_Mo_worth y_Mo_worth ∈ wsAll := ws_mem (List.mem_append_left _ (List.mem_of_getElem? (i := 26) rfl)) rfl
theorem mw_p_27 : Cond.selects "FactFlowModel" y_Mo_read y_Mo_read ∈ wsAll := ws_mem (List.mem_append_left _ (List.mem_of_getElem? (i := 27) rfl)) rfl
theorem mw_p_28 : Cond.selects "FactFlowModel" y_Mo_print y_Mo_print ∈ wsAll := ws_mem (List.mem_append_left _ (List.mem_of_getElem? (i := 28) rfl)) rfl
theorem gn_Ff_init {c : Cond} : GoodIn (c :: wsAll) ws_Ff_init := ws_gc mw_0_16
theorem gn_Pr_init {c : Cond} : GoodIn (c :: wsAll) ws_Pr_init := ws_gc mw_0_24
theorem gn_Fa_init {c : Cond} : GoodIn (c :: wsAll) ws_Fa_init := ws_gc mw_0_32
theorem gn_In_init {c : Cond} : GoodIn (c :: wsAll) ws_In_init := ws_gc mw_0_54
theorem gn_So_init {c : Cond} : GoodIn (c :: wsAll) ws_So_init := ws_gc mw_0_103
theorem gn_St_init {c : Cond} : GoodIn (c :: wsAll) ws_St_init := ws_gc mw_0_110
theorem gn_Ip_init {c : Cond} : GoodIn (c :: wsAll) ws_Ip_init := ws_gc mw_0_147
theorem gn_Ma_init {c : Cond} : GoodIn (c :: wsAll) ws_Ma_init := ws_gc mw_0_162
theorem gc_Ff_add {c : Cond} {own : String} {i : Nat} (h : Cond.methodLink own i y_Ff_add ∈ wsAll) : GoodIn (c :: wsAll) (wsV own i "FactFlow" y_Ff_add ws_Ff_add) := ws_gV h mw_0_202 mw_0_203 mw_0_1 mw_0_204
theorem gc_In_isTold {c : Cond} {own : String} {i : Nat} (h : Cond.methodLink own i y_In_isTold ∈ wsAll) : GoodIn (c :: wsAll) (va_wsS own i y_In_isTold ws_In_isTold) := ws_gS h mw_0_206 mw_0_4 mw_0_207
theorem gn_In_isTold {c : Cond} : GoodIn (c :: wsAll) ws_In_isTold := ws_gc mw_0_207
theorem gc_In_usesA {c : Cond} {own : String} {i : Nat} (h : Cond.methodLink own i y_In_usesA ∈ wsAll) : GoodIn (c :: wsAll) (va_wsS own i y_In_usesA ws_In_usesA) := ws_gS h mw_0_209 mw_0_4 mw_0_210
theorem gn_In_usesA {c : Cond} : GoodIn (c :: wsAll) ws_In_usesA := ws_gc mw_0_210
theorem gc_Ff_isVariable {c : Cond} {own : String} {i : Nat} (h : Cond.methodLink own i y_Ff_isVariable ∈ wsAll) : GoodIn (c :: wsAll) (va_wsS own i y_Ff_isVariable ws_Ff_isVariable) := ws_gS h mw_0_212 mw_0_1 mw_0_213
theorem gn_Ff_isVariable {c : Cond} : GoodIn (c :: wsAll) ws_Ff_isVariable := ws_gc mw_0_213
theorem gc_In_usesB {c : Cond} {own : String} {i : Nat} (h : Cond.methodLink own i y_In_usesB ∈ wsAll) : GoodIn (c :: wsAll) (va_wsS own i y_In_usesB ws_In_usesB) := ws_gS h mw_0_215 mw_0_4 mw_0_216
theorem gn_In_usesB {c : Cond} : GoodIn (c :: wsAll) ws_In_usesB := ws_gc mw_0_216
theorem gc_In_calculates {c : Cond} {own : String} {i : Nat} (h : Cond.methodLink own i y_In_calculates ∈ wsAll) : GoodIn (c :: wsAll) (va_wsS own i y_In_calculates ws_In_calculates) := ws_gS h mw_0_218 mw_0_4 mw_0_219
theorem gn_In_calculates {c : Cond} : GoodIn (c :: wsAll) ws_In_calculates := ws_gc mw_0_219
theorem gc_In_jumps {c : Cond} {own : String} {i : Nat} (h : Cond.methodLink own i y_In_jumps ∈ wsAll) : GoodIn (c :: wsAll) (va_wsS own i y_In_jumps ws_In_jumps) := ws_gS h mw_0_221 mw_0_4 mw_0_222
theorem gn_In_jumps {c : Cond} : GoodIn (c :: wsAll) ws_In_jumps := ws_gc mw_0_222
theorem gc_In_become {c : Cond} {own : String} {i : Nat} (h : Cond.methodLink own i y_In_become ∈ wsAll) : GoodIn (c :: wsAll) (wsV own i "FactFlow$Instruction" y_In_become ws_In_become) := ws_gV h mw_0_224 mw_0_225 mw_0_4 mw_0_226
theorem gc_In_usesC {c : Cond} {own : String} {i : Nat} (h : Cond.methodLink own i y_In_usesC ∈ wsAll) : GoodIn (c :: wsAll) (va_wsS own i y_In_usesC ws_In_usesC) := ws_gS h mw_0_228 mw_0_4 mw_0_229
theorem gn_In_usesC {c : Cond} : GoodIn (c :: wsAll) ws_In_usesC := ws_gc mw_0_229
theorem gc_Ff_put {c : Cond} {own : String} {i : Nat} (h : Cond.methodLink own i y_Ff_put ∈ wsAll) : GoodIn (c :: wsAll) (wsV own i "FactFlow" y_Ff_put ws_Ff_put) := ws_gV h mw_0_231 mw_0_232 mw_0_1 mw_0_233
theorem gc_Pr_has {c : Cond} {own : String} {i : Nat} (h : Cond.methodLink own i y_Pr_has ∈ wsAll) : GoodIn (c :: wsAll) (wsV own i "FactFlow$Program" y_Pr_has ws_Pr_has) := ws_gV h mw_0_235 mw_0_236 mw_0_2 mw_0_237
theorem gc_Ff_clear {c : Cond} {own : String} {i : Nat} (h : Cond.methodLink own i y_Ff_clear ∈ wsAll) : GoodIn (c :: wsAll) (wsV own i "FactFlow" y_Ff_clear ws_Ff_clear) := ws_gV h mw_0_239 mw_1_0 mw_0_1 mw_1_1
theorem gc_Ff_length {c : Cond} {own : String} {i : Nat} (h : Cond.methodLink own i y_Ff_length ∈ wsAll) : GoodIn (c :: wsAll) (wsV own i "FactFlow" y_Ff_length ws_Ff_length) := ws_gV h mw_1_3 mw_1_4 mw_0_1 mw_1_5
theorem gc_Ff_code {c : Cond} {own : String} {i : Nat} (h : Cond.methodLink own i y_Ff_code ∈ wsAll) : GoodIn (c :: wsAll) (wsV own i "FactFlow" y_Ff_code ws_Ff_code) := ws_gV h mw_1_7 mw_1_8 mw_0_1 mw_1_9
theorem gc_In_partOf {c : Cond} {own : String} {i : Nat} (h : Cond.methodLink own i y_In_partOf ∈ wsAll) : GoodIn (c :: wsAll) (wsV own i "FactFlow$Instruction" y_In_partOf ws_In_partOf) := ws_gV h mw_1_11 mw_1_12 mw_0_4 mw_1_13
theorem gc_Ff_reached {c : Cond} {own : String} {i : Nat} (h : Cond.methodLink own i y_Ff_reached ∈ wsAll) : GoodIn (c :: wsAll) (wsV own i "FactFlow" y_Ff_reached ws_Ff_reached) := ws_gV h mw_1_15 mw_1_16 mw_0_1 mw_1_17
theorem gc_So_find {c : Cond} {own : String} {i : Nat} (h : Cond.methodLink own i y_So_find ∈ wsAll) : GoodIn (c :: wsAll) (wsV own i "FactFlow$Solution" y_So_find ws_So_find) := ws_gV h mw_1_19 mw_1_20 mw_0_5 mw_1_21
theorem gc_So_begin {c : Cond} {own : String} {i : Nat} (h : Cond.methodLink own i y_So_begin ∈ wsAll) : GoodIn (c :: wsAll) (wsV own i "FactFlow$Solution" y_So_begin ws_So_begin) := ws_gV h mw_1_24 mw_p_0 mw_0_5 mw_1_25
theorem gc_St_becomeZeros {c : Cond} {own : String} {i : Nat} (h : Cond.methodLink own i y_St_becomeZeros ∈ wsAll) : GoodIn (c :: wsAll) (wsV own i "FactFlow$State" y_St_becomeZeros ws_St_becomeZeros) := ws_gV h mw_1_27 mw_1_28 mw_0_6 mw_1_29
theorem gc_Fa_becomeNumber {c : Cond} {own : String} {i : Nat} (h : Cond.methodLink own i y_Fa_becomeNumber ∈ wsAll) : GoodIn (c :: wsAll) (wsV own i "FactFlow$Fact" y_Fa_becomeNumber ws_Fa_becomeNumber) := ws_gV h mw_1_31 mw_1_32 mw_0_3 mw_1_33
theorem gc_Fa_reduce {c : Cond} {own : String} {i : Nat} (h : Cond.methodLink own i y_Fa_reduce ∈ wsAll) : GoodIn (c :: wsAll) (wsV own i "FactFlow$Fact" y_Fa_reduce ws_Fa_reduce) := ws_gV h mw_1_36 mw_p_1 mw_0_3 mw_1_37
theorem gc_So_carry {c : Cond} {own : String} {i : Nat} (h : Cond.methodLink own i y_So_carry ∈ wsAll) : GoodIn (c :: wsAll) (wsV own i "FactFlow$Solution" y_So_carry ws_So_carry) := ws_gV h mw_1_40 mw_p_2 mw_0_5 mw_1_41
theorem gc_St_becomeSame {c : Cond} {own : String} {i : Nat} (h : Cond.methodLink own i y_St_becomeSame ∈ wsAll) : GoodIn (c :: wsAll) (wsV own i "FactFlow$State" y_St_becomeSame ws_St_becomeSame) := ws_gV h mw_1_43 mw_1_44 mw_0_6 mw_1_45
theorem gc_Fa_becomeSame {c : Cond} {own : String} {i : Nat} (h : Cond.methodLink own i y_Fa_becomeSame ∈ wsAll) : GoodIn (c :: wsAll) (wsV own i "FactFlow$Fact" y_Fa_becomeSame ws_Fa_becomeSame) := ws_gV h mw_1_47 mw_1_48 mw_0_3 mw_1_49
theorem gc_So_arrive {c : Cond} {own : String} {i : Nat} (h : Cond.methodLink own i y_So_arrive ∈ wsAll) : GoodIn (c :: wsAll) (wsV own i "FactFlow$Solution" y_So_arrive ws_So_arrive) := ws_gV h mw_1_52 mw_p_3 mw_0_5 mw_1_53
theorem gc_St_joinWith {c : Cond} {own : String} {i : Nat} (h : Cond.methodLink own i y_St_joinWith ∈ wsAll) : GoodIn (c :: wsAll) (wsV own i "FactFlow$State" y_St_joinWith ws_St_joinWith) := ws_gV h mw_1_56 mw_1_57 mw_0_6 mw_1_58
theorem gc_Fa_joinWith {c : Cond} {own : String} {i : Nat} (h : Cond.methodLink own i y_Fa_joinWith ∈ wsAll) : GoodIn (c :: wsAll) (wsV own i "FactFlow$Fact" y_Fa_joinWith ws_Fa_joinWith) := ws_gV h mw_1_61 mw_1_62 mw_0_3 mw_1_63
theorem gc_Ig_numberOfTrailingZeros {c : Cond} {own : String} {i : Nat} (h : Cond.methodLink own i y_Ig_numberOfTrailingZeros ∈ wsAll) : GoodIn (c :: wsAll) (va_wsS own i y_Ig_numberOfTrailingZeros ws_Ig_numberOfTrailingZeros) := ws_gS h mw_1_68 mw_0_11 mw_1_69
theorem gn_Ig_numberOfTrailingZeros {c : Cond} : GoodIn (c :: wsAll) ws_Ig_numberOfTrailingZeros := ws_gc mw_1_69
theorem gc_Fa_lastBits {c : Cond} {own : String} {i : Nat} (h : Cond.methodLink own i y_Fa_lastBits ∈ wsAll) : GoodIn (c :: wsAll) (va_wsS own i y_Fa_lastBits ws_Fa_lastBits) := ws_gS h mw_1_72 mw_0_3 mw_1_73
theorem gn_Fa_lastBits {c : Cond} : GoodIn (c :: wsAll) ws_Fa_lastBits := ws_gc mw_1_73
theorem gc_In_jumpSigns {c : Cond} {own : String} {i : Nat} (h : Cond.methodLink own i y_In_jumpSigns ∈ wsAll) : GoodIn (c :: wsAll) (wsV own i "FactFlow$Instruction" y_In_jumpSigns ws_In_jumpSigns) := ws_gV h mw_1_75 mw_1_76 mw_0_4 mw_1_77
theorem gc_St_keepSigns {c : Cond} {own : String} {i : Nat} (h : Cond.methodLink own i y_St_keepSigns ∈ wsAll) : GoodIn (c :: wsAll) (wsV own i "FactFlow$State" y_St_keepSigns ws_St_keepSigns) := ws_gV h mw_1_79 mw_1_80 mw_0_6 mw_1_81
theorem gc_Fa_keepSigns {c : Cond} {own : String} {i : Nat} (h : Cond.methodLink own i y_Fa_keepSigns ∈ wsAll) : GoodIn (c :: wsAll) (wsV own i "FactFlow$Fact" y_Fa_keepSigns ws_Fa_keepSigns) := ws_gV h mw_1_83 mw_1_84 mw_0_3 mw_1_85
theorem gc_St_goThrough {c : Cond} {own : String} {i : Nat} (h : Cond.methodLink own i y_St_goThrough ∈ wsAll) : GoodIn (c :: wsAll) (wsV own i "FactFlow$State" y_St_goThrough ws_St_goThrough) := ws_gV h mw_1_87 mw_1_88 mw_0_6 mw_1_89
theorem gc_Fa_becomeResult {c : Cond} {own : String} {i : Nat} (h : Cond.methodLink own i y_Fa_becomeResult ∈ wsAll) : GoodIn (c :: wsAll) (wsV own i "FactFlow$Fact" y_Fa_becomeResult ws_Fa_becomeResult) := ws_gV h mw_1_91 mw_1_92 mw_0_3 mw_1_93
theorem gc_Fa_productBits {c : Cond} {own : String} {i : Nat} (h : Cond.methodLink own i y_Fa_productBits ∈ wsAll) : GoodIn (c :: wsAll) (va_wsS own i y_Fa_productBits ws_Fa_productBits) := ws_gS h mw_1_95 mw_0_3 mw_1_96
theorem gn_Fa_productBits {c : Cond} : GoodIn (c :: wsAll) ws_Fa_productBits := ws_gc mw_1_96
theorem gc_Fa_otherBits {c : Cond} {own : String} {i : Nat} (h : Cond.methodLink own i y_Fa_otherBits ∈ wsAll) : GoodIn (c :: wsAll) (va_wsS own i y_Fa_otherBits ws_Fa_otherBits) := ws_gS h mw_1_98 mw_0_3 mw_1_99
theorem gn_Fa_otherBits {c : Cond} : GoodIn (c :: wsAll) ws_Fa_otherBits := ws_gc mw_1_99
theorem gc_Ff_calculated {c : Cond} {own : String} {i : Nat} (h : Cond.methodLink own i y_Ff_calculated ∈ wsAll) : GoodIn (c :: wsAll) (va_wsS own i y_Ff_calculated ws_Ff_calculated) := ws_gS h mw_1_101 mw_0_1 mw_1_102
theorem gn_Ff_calculated {c : Cond} : GoodIn (c :: wsAll) ws_Ff_calculated := ws_gc mw_1_102
theorem gc_Fa_signTable {c : Cond} {own : String} {i : Nat} (h : Cond.methodLink own i y_Fa_signTable ∈ wsAll) : GoodIn (c :: wsAll) (va_wsS own i y_Fa_signTable ws_Fa_signTable) := ws_gS h mw_1_104 mw_0_3 mw_1_105
theorem gn_Fa_signTable {c : Cond} : GoodIn (c :: wsAll) ws_Fa_signTable := ws_gc mw_1_105
theorem gc_Fa_resultSigns {c : Cond} {own : String} {i : Nat} (h : Cond.methodLink own i y_Fa_resultSigns ∈ wsAll) : GoodIn (c :: wsAll) (va_wsS own i y_Fa_resultSigns ws_Fa_resultSigns) := ws_gS h mw_1_115 mw_0_3 mw_1_116
theorem gn_Fa_resultSigns {c : Cond} : GoodIn (c :: wsAll) ws_Fa_resultSigns := ws_gc mw_1_116
theorem gc_Fa_becomeAnything {c : Cond} {own : String} {i : Nat} (h : Cond.methodLink own i y_Fa_becomeAnything ∈ wsAll) : GoodIn (c :: wsAll) (wsV own i "FactFlow$Fact" y_Fa_becomeAnything ws_Fa_becomeAnything) := ws_gV h mw_1_119 mw_1_120 mw_0_3 mw_1_121
theorem gc_Ff_comesTo {c : Cond} {own : String} {i : Nat} (h : Cond.methodLink own i y_Ff_comesTo ∈ wsAll) : GoodIn (c :: wsAll) (wsV own i "FactFlow" y_Ff_comesTo ws_Ff_comesTo) := ws_gV h mw_1_124 mw_p_4 mw_0_1 mw_1_125
theorem gc_Ff_bits {c : Cond} {own : String} {i : Nat} (h : Cond.methodLink own i y_Ff_bits ∈ wsAll) : GoodIn (c :: wsAll) (wsV own i "FactFlow" y_Ff_bits ws_Ff_bits) := ws_gV h mw_1_127 mw_1_128 mw_0_1 mw_1_129
theorem gc_Ff_rest {c : Cond} {own : String} {i : Nat} (h : Cond.methodLink own i y_Ff_rest ∈ wsAll) : GoodIn (c :: wsAll) (wsV own i "FactFlow" y_Ff_rest ws_Ff_rest) := ws_gV h mw_1_132 mw_1_133 mw_0_1 mw_1_134
theorem gc_Ff_signs {c : Cond} {own : String} {i : Nat} (h : Cond.methodLink own i y_Ff_signs ∈ wsAll) : GoodIn (c :: wsAll) (wsV own i "FactFlow" y_Ff_signs ws_Ff_signs) := ws_gV h mw_1_136 mw_1_137 mw_0_1 mw_1_138
theorem gc_Ff_rewrite {c : Cond} {own : String} {i : Nat} (h : Cond.methodLink own i y_Ff_rewrite ∈ wsAll) : GoodIn (c :: wsAll) (wsV own i "FactFlow" y_Ff_rewrite ws_Ff_rewrite) := ws_gV h mw_1_140 mw_1_141 mw_0_1 mw_1_142
theorem gc_Pr_improve {c : Cond} {own : String} {i : Nat} (h : Cond.methodLink own i y_Pr_improve ∈ wsAll) : GoodIn (c :: wsAll) (wsV own i "FactFlow$Program" y_Pr_improve ws_Pr_improve) := ws_gV h mw_1_144 mw_1_145 mw_0_2 mw_1_146
theorem gc_Pr_stopInstead {c : Cond} {own : String} {i : Nat} (h : Cond.methodLink own i y_Pr_stopInstead ∈ wsAll) : GoodIn (c :: wsAll) (va_wsS own i y_Pr_stopInstead ws_Pr_stopInstead) := ws_gS h mw_1_148 mw_0_2 mw_1_149
theorem gn_Pr_stopInstead {c : Cond} : GoodIn (c :: wsAll) ws_Pr_stopInstead := ws_gc mw_1_149
theorem gc_Pr_goInstead {c : Cond} {own : String} {i : Nat} (h : Cond.methodLink own i y_Pr_goInstead ∈ wsAll) : GoodIn (c :: wsAll) (va_wsS own i y_Pr_goInstead ws_Pr_goInstead) := ws_gS h mw_1_152 mw_0_2 mw_1_153
theorem gn_Pr_goInstead {c : Cond} : GoodIn (c :: wsAll) ws_Pr_goInstead := ws_gc mw_1_153
theorem gc_Pr_setInstead {c : Cond} {own : String} {i : Nat} (h : Cond.methodLink own i y_Pr_setInstead ∈ wsAll) : GoodIn (c :: wsAll) (va_wsS own i y_Pr_setInstead ws_Pr_setInstead) := ws_gS h mw_1_156 mw_0_2 mw_1_157
theorem gn_Pr_setInstead {c : Cond} : GoodIn (c :: wsAll) ws_Pr_setInstead := ws_gc mw_1_157
theorem gc_Ff_input {c : Cond} {own : String} {i : Nat} (h : Cond.methodLink own i y_Ff_input ∈ wsAll) : GoodIn (c :: wsAll) (wsV own i "FactFlow" y_Ff_input ws_Ff_input) := ws_gV h mw_1_161 mw_1_162 mw_0_1 mw_1_163
theorem gc_Ip_take {c : Cond} {own : String} {i : Nat} (h : Cond.methodLink own i y_Ip_take ∈ wsAll) : GoodIn (c :: wsAll) (wsV own i "FactFlow$Inputs" y_Ip_take ws_Ip_take) := ws_gV h mw_1_165 mw_1_166 mw_0_7 mw_1_167
theorem gc_Ff_dry {c : Cond} {own : String} {i : Nat} (h : Cond.methodLink own i y_Ff_dry ∈ wsAll) : GoodIn (c :: wsAll) (wsV own i "FactFlow" y_Ff_dry ws_Ff_dry) := ws_gV h mw_1_169 mw_1_170 mw_0_1 mw_1_171
theorem gc_Ff_run {c : Cond} {own : String} {i : Nat} (h : Cond.methodLink own i y_Ff_run ∈ wsAll) : GoodIn (c :: wsAll) (wsV own i "FactFlow" y_Ff_run ws_Ff_run) := ws_gV h mw_1_173 mw_1_174 mw_0_1 mw_1_175
theorem gc_Ma_execute {c : Cond} {own : String} {i : Nat} (h : Cond.methodLink own i y_Ma_execute ∈ wsAll) : GoodIn (c :: wsAll) (wsV own i "FactFlow$Machine" y_Ma_execute ws_Ma_execute) := ws_gV h mw_1_177 mw_1_178 mw_0_8 mw_1_179
theorem gc_Ma_begin {c : Cond} {own : String} {i : Nat} (h : Cond.methodLink own i y_Ma_begin ∈ wsAll) : GoodIn (c :: wsAll) (wsV own i "FactFlow$Machine" y_Ma_begin ws_Ma_begin) := ws_gV h mw_1_182 mw_p_5 mw_0_8 mw_1_183
theorem gc_Ma_change {c : Cond} {own : String} {i : Nat} (h : Cond.methodLink own i y_Ma_change ∈ wsAll) : GoodIn (c :: wsAll) (wsV own i "FactFlow$Machine" y_Ma_change ws_Ma_change) := ws_gV h mw_1_187 mw_p_6 mw_0_8 mw_1_188
theorem gc_Ip_numberOrZero {c : Cond} {own : String} {i : Nat} (h : Cond.methodLink own i y_Ip_numberOrZero ∈ wsAll) : GoodIn (c :: wsAll) (wsV own i "FactFlow$Inputs" y_Ip_numberOrZero ws_Ip_numberOrZero) := ws_gV h mw_1_191 mw_1_192 mw_0_7 mw_1_193
theorem gc_Ma_print {c : Cond} {own : String} {i : Nat} (h : Cond.methodLink own i y_Ma_print ∈ wsAll) : GoodIn (c :: wsAll) (wsV own i "FactFlow$Machine" y_Ma_print ws_Ma_print) := ws_gV h mw_1_196 mw_p_7 mw_0_8 mw_1_197
theorem gc_Ma_placeBehind {c : Cond} {own : String} {i : Nat} (h : Cond.methodLink own i y_Ma_placeBehind ∈ wsAll) : GoodIn (c :: wsAll) (wsV own i "FactFlow$Machine" y_Ma_placeBehind ws_Ma_placeBehind) := ws_gV h mw_1_200 mw_p_8 mw_0_8 mw_1_201
theorem gc_Ff_steps {c : Cond} {own : String} {i : Nat} (h : Cond.methodLink own i y_Ff_steps ∈ wsAll) : GoodIn (c :: wsAll) (wsV own i "FactFlow" y_Ff_steps ws_Ff_steps) := ws_gV h mw_1_203 mw_1_204 mw_0_1 mw_1_205
theorem gc_Ff_next {c : Cond} {own : String} {i : Nat} (h : Cond.methodLink own i y_Ff_next ∈ wsAll) : GoodIn (c :: wsAll) (wsV own i "FactFlow" y_Ff_next ws_Ff_next) := ws_gV h mw_1_207 mw_1_208 mw_0_1 mw_1_209
theorem gc_Ff_variable {c : Cond} {own : String} {i : Nat} (h : Cond.methodLink own i y_Ff_variable ∈ wsAll) : GoodIn (c :: wsAll) (wsV own i "FactFlow" y_Ff_variable ws_Ff_variable) := ws_gV h mw_1_211 mw_1_212 mw_0_1 mw_1_213
theorem gc_Ff_outputs {c : Cond} {own : String} {i : Nat} (h : Cond.methodLink own i y_Ff_outputs ∈ wsAll) : GoodIn (c :: wsAll) (wsV own i "FactFlow" y_Ff_outputs ws_Ff_outputs) := ws_gV h mw_1_215 mw_1_216 mw_0_1 mw_1_217
theorem gc_Ff_output {c : Cond} {own : String} {i : Nat} (h : Cond.methodLink own i y_Ff_output ∈ wsAll) : GoodIn (c :: wsAll) (wsV own i "FactFlow" y_Ff_output ws_Ff_output) := ws_gV h mw_1_219 mw_1_220 mw_0_1 mw_1_221
theorem gn_Mo_init {c : Cond} : GoodIn (c :: wsAll) ws_Mo_init := ws_gc mw_1_226
theorem gc_Mo_add {c : Cond} {own : String} {i : Nat} (h : Cond.methodLink own i y_Mo_add ∈ wsAll) : GoodIn (c :: wsAll) (wsV own i "FactFlowModel" y_Mo_add ws_Mo_add) := ws_gV h mw_2_65 mw_2_66 mw_0_9 mw_2_67
theorem gc_Mo_wrong {c : Cond} {own : String} {i : Nat} (h : Cond.methodLink own i y_Mo_wrong ∈ wsAll) : GoodIn (c :: wsAll) (va_wsS own i y_Mo_wrong ws_Mo_wrong) := ws_gS h mw_2_69 mw_0_9 mw_2_70
theorem gn_Mo_wrong {c : Cond} : GoodIn (c :: wsAll) ws_Mo_wrong := ws_gc mw_2_70
theorem gc_Mo_usesFirst {c : Cond} {own : String} {i : Nat} (h : Cond.methodLink own i y_Mo_usesFirst ∈ wsAll) : GoodIn (c :: wsAll) (va_wsS own i y_Mo_usesFirst ws_Mo_usesFirst) := ws_gS h mw_2_72 mw_0_9 mw_2_73
theorem gn_Mo_usesFirst {c : Cond} : GoodIn (c :: wsAll) ws_Mo_usesFirst := ws_gc mw_2_73
theorem gc_Mo_isVariable {c : Cond} {own : String} {i : Nat} (h : Cond.methodLink own i y_Mo_isVariable ∈ wsAll) : GoodIn (c :: wsAll) (va_wsS own i y_Mo_isVariable ws_Mo_isVariable) := ws_gS h mw_2_75 mw_0_9 mw_2_76
theorem gn_Mo_isVariable {c : Cond} : GoodIn (c :: wsAll) ws_Mo_isVariable := ws_gc mw_2_76
theorem gc_Mo_usesSecond {c : Cond} {own : String} {i : Nat} (h : Cond.methodLink own i y_Mo_usesSecond ∈ wsAll) : GoodIn (c :: wsAll) (va_wsS own i y_Mo_usesSecond ws_Mo_usesSecond) := ws_gS h mw_2_78 mw_0_9 mw_2_79
theorem gn_Mo_usesSecond {c : Cond} : GoodIn (c :: wsAll) ws_Mo_usesSecond := ws_gc mw_2_79
theorem gc_Mo_jumps {c : Cond} {own : String} {i : Nat} (h : Cond.methodLink own i y_Mo_jumps ∈ wsAll) : GoodIn (c :: wsAll) (va_wsS own i y_Mo_jumps ws_Mo_jumps) := ws_gS h mw_2_81 mw_0_9 mw_2_82
theorem gn_Mo_jumps {c : Cond} : GoodIn (c :: wsAll) ws_Mo_jumps := ws_gc mw_2_82
theorem gc_Mo_place {c : Cond} {own : String} {i : Nat} (h : Cond.methodLink own i y_Mo_place ∈ wsAll) : GoodIn (c :: wsAll) (wsV own i "FactFlowModel" y_Mo_place ws_Mo_place) := ws_gV h mw_2_85 mw_p_9 mw_0_9 mw_2_86
theorem gc_Mo_usesThird {c : Cond} {own : String} {i : Nat} (h : Cond.methodLink own i y_Mo_usesThird ∈ wsAll) : GoodIn (c :: wsAll) (va_wsS own i y_Mo_usesThird ws_Mo_usesThird) := ws_gS h mw_2_88 mw_0_9 mw_2_89
theorem gn_Mo_usesThird {c : Cond} : GoodIn (c :: wsAll) ws_Mo_usesThird := ws_gc mw_2_89
theorem gc_Mo_put {c : Cond} {own : String} {i : Nat} (h : Cond.methodLink own i y_Mo_put ∈ wsAll) : GoodIn (c :: wsAll) (wsV own i "FactFlowModel" y_Mo_put ws_Mo_put) := ws_gV h mw_2_91 mw_2_92 mw_0_9 mw_2_93
theorem gc_Mo_none {c : Cond} {own : String} {i : Nat} (h : Cond.methodLink own i y_Mo_none ∈ wsAll) : GoodIn (c :: wsAll) (wsV own i "FactFlowModel" y_Mo_none ws_Mo_none) := ws_gV h mw_2_96 mw_p_10 mw_0_9 mw_2_97
theorem gc_Mo_clear {c : Cond} {own : String} {i : Nat} (h : Cond.methodLink own i y_Mo_clear ∈ wsAll) : GoodIn (c :: wsAll) (wsV own i "FactFlowModel" y_Mo_clear ws_Mo_clear) := ws_gV h mw_2_99 mw_2_100 mw_0_9 mw_2_101
theorem gc_Mo_length {c : Cond} {own : String} {i : Nat} (h : Cond.methodLink own i y_Mo_length ∈ wsAll) : GoodIn (c :: wsAll) (wsV own i "FactFlowModel" y_Mo_length ws_Mo_length) := ws_gV h mw_2_103 mw_2_104 mw_0_9 mw_2_105
theorem gc_Mo_code {c : Cond} {own : String} {i : Nat} (h : Cond.methodLink own i y_Mo_code ∈ wsAll) : GoodIn (c :: wsAll) (wsV own i "FactFlowModel" y_Mo_code ws_Mo_code) := ws_gV h mw_2_107 mw_2_108 mw_0_9 mw_2_109
theorem gc_Mo_reached {c : Cond} {own : String} {i : Nat} (h : Cond.methodLink own i y_Mo_reached ∈ wsAll) : GoodIn (c :: wsAll) (wsV own i "FactFlowModel" y_Mo_reached ws_Mo_reached) := ws_gV h mw_2_111 mw_2_112 mw_0_9 mw_2_113
theorem gc_Mo_solve {c : Cond} {own : String} {i : Nat} (h : Cond.methodLink own i y_Mo_solve ∈ wsAll) : GoodIn (c :: wsAll) (wsV own i "FactFlowModel" y_Mo_solve ws_Mo_solve) := ws_gV h mw_2_116 mw_p_11 mw_0_9 mw_2_117
theorem gc_Mo_result {c : Cond} {own : String} {i : Nat} (h : Cond.methodLink own i y_Mo_result ∈ wsAll) : GoodIn (c :: wsAll) (wsV own i "FactFlowModel" y_Mo_result ws_Mo_result) := ws_gV h mw_2_120 mw_p_12 mw_0_9 mw_2_121
theorem gc_Mo_take {c : Cond} {own : String} {i : Nat} (h : Cond.methodLink own i y_Mo_take ∈ wsAll) : GoodIn (c :: wsAll) (wsV own i "FactFlowModel" y_Mo_take ws_Mo_take) := ws_gV h mw_2_124 mw_p_13 mw_0_9 mw_2_125
theorem gc_Mo_join {c : Cond} {own : String} {i : Nat} (h : Cond.methodLink own i y_Mo_join ∈ wsAll) : GoodIn (c :: wsAll) (wsV own i "FactFlowModel" y_Mo_join ws_Mo_join) := ws_gV h mw_2_128 mw_p_14 mw_0_9 mw_2_129
theorem gc_Mo_joinFact {c : Cond} {own : String} {i : Nat} (h : Cond.methodLink own i y_Mo_joinFact ∈ wsAll) : GoodIn (c :: wsAll) (wsV own i "FactFlowModel" y_Mo_joinFact ws_Mo_joinFact) := ws_gV h mw_2_132 mw_p_15 mw_0_9 mw_2_133
theorem gc_Mo_least {c : Cond} {own : String} {i : Nat} (h : Cond.methodLink own i y_Mo_least ∈ wsAll) : GoodIn (c :: wsAll) (va_wsS own i y_Mo_least ws_Mo_least) := ws_gS h mw_2_135 mw_0_9 mw_2_136
theorem gn_Mo_least {c : Cond} : GoodIn (c :: wsAll) ws_Mo_least := ws_gc mw_2_136
theorem gc_Mo_zeros {c : Cond} {own : String} {i : Nat} (h : Cond.methodLink own i y_Mo_zeros ∈ wsAll) : GoodIn (c :: wsAll) (va_wsS own i y_Mo_zeros ws_Mo_zeros) := ws_gS h mw_2_138 mw_0_9 mw_2_139
theorem gn_Mo_zeros {c : Cond} : GoodIn (c :: wsAll) ws_Mo_zeros := ws_gc mw_2_139
theorem gc_Mo_cut {c : Cond} {own : String} {i : Nat} (h : Cond.methodLink own i y_Mo_cut ∈ wsAll) : GoodIn (c :: wsAll) (va_wsS own i y_Mo_cut ws_Mo_cut) := ws_gS h mw_2_141 mw_0_9 mw_2_142
theorem gn_Mo_cut {c : Cond} : GoodIn (c :: wsAll) ws_Mo_cut := ws_gc mw_2_142
theorem gc_Mo_pass {c : Cond} {own : String} {i : Nat} (h : Cond.methodLink own i y_Mo_pass ∈ wsAll) : GoodIn (c :: wsAll) (wsV own i "FactFlowModel" y_Mo_pass ws_Mo_pass) := ws_gV h mw_2_145 mw_p_16 mw_0_9 mw_2_146
theorem gc_Mo_load {c : Cond} {own : String} {i : Nat} (h : Cond.methodLink own i y_Mo_load ∈ wsAll) : GoodIn (c :: wsAll) (wsV own i "FactFlowModel" y_Mo_load ws_Mo_load) := ws_gV h mw_2_149 mw_p_17 mw_0_9 mw_2_150
theorem gc_Mo_only {c : Cond} {own : String} {i : Nat} (h : Cond.methodLink own i y_Mo_only ∈ wsAll) : GoodIn (c :: wsAll) (wsV own i "FactFlowModel" y_Mo_only ws_Mo_only) := ws_gV h mw_2_153 mw_p_18 mw_0_9 mw_2_154
theorem gc_Mo_reduced {c : Cond} {own : String} {i : Nat} (h : Cond.methodLink own i y_Mo_reduced ∈ wsAll) : GoodIn (c :: wsAll) (wsV own i "FactFlowModel" y_Mo_reduced ws_Mo_reduced) := ws_gV h mw_2_157 mw_p_19 mw_0_9 mw_2_158
theorem gc_Mo_sign {c : Cond} {own : String} {i : Nat} (h : Cond.methodLink own i y_Mo_sign ∈ wsAll) : GoodIn (c :: wsAll) (va_wsS own i y_Mo_sign ws_Mo_sign) := ws_gS h mw_2_160 mw_0_9 mw_2_161
theorem gn_Mo_sign {c : Cond} : GoodIn (c :: wsAll) ws_Mo_sign := ws_gc mw_2_161
theorem gc_Mo_worked {c : Cond} {own : String} {i : Nat} (h : Cond.methodLink own i y_Mo_worked ∈ wsAll) : GoodIn (c :: wsAll) (wsV own i "FactFlowModel" y_Mo_worked ws_Mo_worked) := ws_gV h mw_2_164 mw_p_20 mw_0_9 mw_2_165
theorem gc_Mo_reckon {c : Cond} {own : String} {i : Nat} (h : Cond.methodLink own i y_Mo_reckon ∈ wsAll) : GoodIn (c :: wsAll) (wsV own i "FactFlowModel" y_Mo_reckon ws_Mo_reckon) := ws_gV h mw_2_168 mw_p_21 mw_0_9 mw_2_169
theorem gc_Mo_signsBy {c : Cond} {own : String} {i : Nat} (h : Cond.methodLink own i y_Mo_signsBy ∈ wsAll) : GoodIn (c :: wsAll) (wsV own i "FactFlowModel" y_Mo_signsBy ws_Mo_signsBy) := ws_gV h mw_2_172 mw_p_22 mw_0_9 mw_2_173
theorem gc_Mo_pairSigns {c : Cond} {own : String} {i : Nat} (h : Cond.methodLink own i y_Mo_pairSigns ∈ wsAll) : GoodIn (c :: wsAll) (va_wsS own i y_Mo_pairSigns ws_Mo_pairSigns) := ws_gS h mw_2_175 mw_0_9 mw_2_176
theorem gn_Mo_pairSigns {c : Cond} : GoodIn (c :: wsAll) ws_Mo_pairSigns := ws_gc mw_2_176
theorem gc_Mo_sumSigns {c : Cond} {own : String} {i : Nat} (h : Cond.methodLink own i y_Mo_sumSigns ∈ wsAll) : GoodIn (c :: wsAll) (va_wsS own i y_Mo_sumSigns ws_Mo_sumSigns) := ws_gS h mw_2_178 mw_0_9 mw_2_179
theorem gn_Mo_sumSigns {c : Cond} : GoodIn (c :: wsAll) ws_Mo_sumSigns := ws_gc mw_2_179
theorem gc_Mo_lessSigns {c : Cond} {own : String} {i : Nat} (h : Cond.methodLink own i y_Mo_lessSigns ∈ wsAll) : GoodIn (c :: wsAll) (va_wsS own i y_Mo_lessSigns ws_Mo_lessSigns) := ws_gS h mw_2_181 mw_0_9 mw_2_182
theorem gn_Mo_lessSigns {c : Cond} : GoodIn (c :: wsAll) ws_Mo_lessSigns := ws_gc mw_2_182
theorem gc_Mo_partSigns {c : Cond} {own : String} {i : Nat} (h : Cond.methodLink own i y_Mo_partSigns ∈ wsAll) : GoodIn (c :: wsAll) (va_wsS own i y_Mo_partSigns ws_Mo_partSigns) := ws_gS h mw_2_184 mw_0_9 mw_2_185
theorem gn_Mo_partSigns {c : Cond} : GoodIn (c :: wsAll) ws_Mo_partSigns := ws_gc mw_2_185
theorem gc_Mo_divided {c : Cond} {own : String} {i : Nat} (h : Cond.methodLink own i y_Mo_divided ∈ wsAll) : GoodIn (c :: wsAll) (va_wsS own i y_Mo_divided ws_Mo_divided) := ws_gS h mw_2_187 mw_0_9 mw_2_188
theorem gn_Mo_divided {c : Cond} : GoodIn (c :: wsAll) ws_Mo_divided := ws_gc mw_2_188
theorem gc_Mo_bits {c : Cond} {own : String} {i : Nat} (h : Cond.methodLink own i y_Mo_bits ∈ wsAll) : GoodIn (c :: wsAll) (wsV own i "FactFlowModel" y_Mo_bits ws_Mo_bits) := ws_gV h mw_2_190 mw_2_191 mw_0_9 mw_2_192
theorem gc_Mo_untold {c : Cond} {own : String} {i : Nat} (h : Cond.methodLink own i y_Mo_untold ∈ wsAll) : GoodIn (c :: wsAll) (wsV own i "FactFlowModel" y_Mo_untold ws_Mo_untold) := ws_gV h mw_2_195 mw_p_23 mw_0_9 mw_2_196
theorem gc_Mo_rest {c : Cond} {own : String} {i : Nat} (h : Cond.methodLink own i y_Mo_rest ∈ wsAll) : GoodIn (c :: wsAll) (wsV own i "FactFlowModel" y_Mo_rest ws_Mo_rest) := ws_gV h mw_2_198 mw_2_199 mw_0_9 mw_2_200
theorem gc_Mo_signs {c : Cond} {own : String} {i : Nat} (h : Cond.methodLink own i y_Mo_signs ∈ wsAll) : GoodIn (c :: wsAll) (wsV own i "FactFlowModel" y_Mo_signs ws_Mo_signs) := ws_gV h mw_2_202 mw_2_203 mw_0_9 mw_2_204
theorem gc_Mo_rewrite {c : Cond} {own : String} {i : Nat} (h : Cond.methodLink own i y_Mo_rewrite ∈ wsAll) : GoodIn (c :: wsAll) (wsV own i "FactFlowModel" y_Mo_rewrite ws_Mo_rewrite) := ws_gV h mw_2_206 mw_2_207 mw_0_9 mw_2_208
theorem gc_Mo_written {c : Cond} {own : String} {i : Nat} (h : Cond.methodLink own i y_Mo_written ∈ wsAll) : GoodIn (c :: wsAll) (wsV own i "FactFlowModel" y_Mo_written ws_Mo_written) := ws_gV h mw_2_211 mw_p_24 mw_0_9 mw_2_212
theorem gc_Mo_input {c : Cond} {own : String} {i : Nat} (h : Cond.methodLink own i y_Mo_input ∈ wsAll) : GoodIn (c :: wsAll) (wsV own i "FactFlowModel" y_Mo_input ws_Mo_input) := ws_gV h mw_2_214 mw_2_215 mw_0_9 mw_2_216
theorem gc_Mo_dry {c : Cond} {own : String} {i : Nat} (h : Cond.methodLink own i y_Mo_dry ∈ wsAll) : GoodIn (c :: wsAll) (wsV own i "FactFlowModel" y_Mo_dry ws_Mo_dry) := ws_gV h mw_2_218 mw_2_219 mw_0_9 mw_2_220
theorem gc_Mo_run {c : Cond} {own : String} {i : Nat} (h : Cond.methodLink own i y_Mo_run ∈ wsAll) : GoodIn (c :: wsAll) (wsV own i "FactFlowModel" y_Mo_run ws_Mo_run) := ws_gV h mw_2_222 mw_2_223 mw_0_9 mw_2_224
theorem gc_Mo_step {c : Cond} {own : String} {i : Nat} (h : Cond.methodLink own i y_Mo_step ∈ wsAll) : GoodIn (c :: wsAll) (wsV own i "FactFlowModel" y_Mo_step ws_Mo_step) := ws_gV h mw_2_227 mw_p_25 mw_0_9 mw_2_228
theorem gc_Mo_worth {c : Cond} {own : String} {i : Nat} (h : Cond.methodLink own i y_Mo_worth ∈ wsAll) : GoodIn (c :: wsAll) (wsV own i "FactFlowModel" y_Mo_worth ws_Mo_worth) := ws_gV h mw_2_231 mw_p_26 mw_0_9 mw_2_232
theorem gc_Mo_read {c : Cond} {own : String} {i : Nat} (h : Cond.methodLink own i y_Mo_read ∈ wsAll) : GoodIn (c :: wsAll) (wsV own i "FactFlowModel" y_Mo_read ws_Mo_read) := ws_gV h mw_2_235 mw_p_27 mw_0_9 mw_2_236
theorem gc_Mo_print {c : Cond} {own : String} {i : Nat} (h : Cond.methodLink own i y_Mo_print ∈ wsAll) : GoodIn (c :: wsAll) (wsV own i "FactFlowModel" y_Mo_print ws_Mo_print) := ws_gV h mw_2_239 mw_p_28 mw_0_9 mw_3_0
theorem gc_Mo_steps {c : Cond} {own : String} {i : Nat} (h : Cond.methodLink own i y_Mo_steps ∈ wsAll) : GoodIn (c :: wsAll) (wsV own i "FactFlowModel" y_Mo_steps ws_Mo_steps) := ws_gV h mw_3_2 mw_3_3 mw_0_9 mw_3_4
theorem gc_Mo_next {c : Cond} {own : String} {i : Nat} (h : Cond.methodLink own i y_Mo_next ∈ wsAll) : GoodIn (c :: wsAll) (wsV own i "FactFlowModel" y_Mo_next ws_Mo_next) := ws_gV h mw_3_6 mw_3_7 mw_0_9 mw_3_8
theorem gc_Mo_variable {c : Cond} {own : String} {i : Nat} (h : Cond.methodLink own i y_Mo_variable ∈ wsAll) : GoodIn (c :: wsAll) (wsV own i "FactFlowModel" y_Mo_variable ws_Mo_variable) := ws_gV h mw_3_10 mw_3_11 mw_0_9 mw_3_12
theorem gc_Mo_outputs {c : Cond} {own : String} {i : Nat} (h : Cond.methodLink own i y_Mo_outputs ∈ wsAll) : GoodIn (c :: wsAll) (wsV own i "FactFlowModel" y_Mo_outputs ws_Mo_outputs) := ws_gV h mw_3_14 mw_3_15 mw_0_9 mw_3_16
theorem gc_Mo_output {c : Cond} {own : String} {i : Nat} (h : Cond.methodLink own i y_Mo_output ∈ wsAll) : GoodIn (c :: wsAll) (wsV own i "FactFlowModel" y_Mo_output ws_Mo_output) := ws_gV h mw_3_18 mw_3_19 mw_0_9 mw_3_20
theorem iw_0 : ∀ w ∈ u_ws Rn_0 Tn_0 4, w ∈ wsAll := List.forall_mem_cons.mpr ⟨mw_0_192, List.forall_mem_cons.mpr ⟨mw_0_194, List.forall_mem_cons.mpr ⟨mw_0_196, List.forall_mem_cons.mpr ⟨mw_0_198, fun _ h => absurd h List.not_mem_nil⟩⟩⟩⟩
theorem iw_1 : ∀ w ∈ u_ws Rn_1 Tn_1 3, w ∈ wsAll := List.forall_mem_cons.mpr ⟨mw_0_92, List.forall_mem_cons.mpr ⟨mw_0_94, List.forall_mem_cons.mpr ⟨mw_0_96, fun _ h => absurd h List.not_mem_nil⟩⟩⟩
theorem iw_2 : ∀ w ∈ u_ws Rn_2 Tn_2 4, w ∈ wsAll := List.forall_mem_cons.mpr ⟨mw_0_75, List.forall_mem_cons.mpr ⟨mw_0_77, List.forall_mem_cons.mpr ⟨mw_0_79, List.forall_mem_cons.mpr ⟨mw_0_81, fun _ h => absurd h List.not_mem_nil⟩⟩⟩⟩
theorem iw_3 : ∀ w ∈ u_ws Rn_3 Tn_3 3, w ∈ wsAll := List.forall_mem_cons.mpr ⟨mw_0_44, List.forall_mem_cons.mpr ⟨mw_0_46, List.forall_mem_cons.mpr ⟨mw_0_48, fun _ h => absurd h List.not_mem_nil⟩⟩⟩
theorem iw_4 : ∀ w ∈ u_ws Rn_4 Tn_4 2, w ∈ wsAll := List.forall_mem_cons.mpr ⟨mw_0_122, List.forall_mem_cons.mpr ⟨mw_0_124, fun _ h => absurd h List.not_mem_nil⟩⟩
theorem iw_5 : ∀ w ∈ u_ws Rn_5 Tn_5 4, w ∈ wsAll := List.forall_mem_cons.mpr ⟨mw_0_134, List.forall_mem_cons.mpr ⟨mw_0_136, List.forall_mem_cons.mpr ⟨mw_0_138, List.forall_mem_cons.mpr ⟨mw_0_140, fun _ h => absurd h List.not_mem_nil⟩⟩⟩⟩
theorem iw_6 : ∀ w ∈ u_ws Rn_6 Tn_6 2, w ∈ wsAll := List.forall_mem_cons.mpr ⟨mw_0_152, List.forall_mem_cons.mpr ⟨mw_0_154, fun _ h => absurd h List.not_mem_nil⟩⟩
theorem iw_7 : ∀ w ∈ u_ws Rn_7 Tn_7 6, w ∈ wsAll := List.forall_mem_cons.mpr ⟨mw_0_175, List.forall_mem_cons.mpr ⟨mw_0_177, List.forall_mem_cons.mpr ⟨mw_0_179, List.forall_mem_cons.mpr ⟨mw_0_181, List.forall_mem_cons.mpr ⟨mw_0_183, List.forall_mem_cons.mpr ⟨mw_0_185, fun _ h => absurd h List.not_mem_nil⟩⟩⟩⟩⟩⟩
theorem iw_8 : ∀ w ∈ u_ws Rn_8 Tn_8 25, w ∈ wsAll := List.forall_mem_cons.mpr ⟨mw_2_13, List.forall_mem_cons.mpr ⟨mw_2_15, List.forall_mem_cons.mpr ⟨mw_2_17, List.forall_mem_cons.mpr ⟨mw_2_19, List.forall_mem_cons.mpr ⟨mw_2_21, List.forall_mem_cons.mpr ⟨mw_2_23, List.forall_mem_cons.mpr ⟨mw_2_25, List.forall_mem_cons.mpr ⟨mw_2_27, List.forall_mem_cons.mpr ⟨mw_2_29, List.forall_mem_cons.mpr ⟨mw_2_31, List.forall_mem_cons.mpr ⟨mw_2_33, List.forall_mem_cons.mpr ⟨mw_2_35, List.forall_mem_cons.mpr ⟨mw_2_37, List.forall_mem_cons.mpr ⟨mw_2_39, List.forall_mem_cons.mpr ⟨mw_2_41, List.forall_mem_cons.mpr ⟨mw_2_43, List.forall_mem_cons.mpr ⟨mw_2_45, List.forall_mem_cons.mpr ⟨mw_2_47, List.forall_mem_cons.mpr ⟨mw_2_49, List.forall_mem_cons.mpr ⟨mw_2_51, List.forall_mem_cons.mpr ⟨mw_2_53, List.forall_mem_cons.mpr ⟨mw_2_55, List.forall_mem_cons.mpr ⟨mw_2_57, List.forall_mem_cons.mpr ⟨mw_2_59, List.forall_mem_cons.mpr ⟨mw_2_61, fun _ h => absurd h List.not_mem_nil⟩⟩⟩⟩⟩⟩⟩⟩⟩⟩⟩⟩⟩⟩⟩⟩⟩⟩⟩⟩⟩⟩⟩⟩⟩
end
section
/-! the static tables' names; nest mates' links, arrays of objects: words that don't keep by themselves -/
def wm_TC : String := "FactFlow$Fact"
def wm_Tn (i : Nat) : String := match i with
  | 0 => "SUM_SIGNS"
  | 1 => "DIFFERENCE_SIGNS"
  | 2 => "PRODUCT_SIGNS"
  | _ => "QUOTIENT_SIGNS"
def wm_nw : List Cond := [Cond.methodLinkNest "FactFlow$Program" 23 y_Fa_init "FactFlow", Cond.methodLinkNest "FactFlow$Program" 28 y_In_init "FactFlow", Cond.methodLinkNest "FactFlow$State" 21 y_Fa_init "FactFlow", Cond.methodLinkNest "FactFlow" 25 y_Ip_init "FactFlow", Cond.methodLinkNest "FactFlow" 32 y_Ma_init "FactFlow", Cond.methodLinkNest "FactFlow$Instruction" 28 y_Ff_isVariable "FactFlow", Cond.methodLinkNest "FactFlow$Fact" 32 y_Ff_calculated "FactFlow", Cond.methodLinkNest "FactFlow$Machine" 66 y_Ff_calculated "FactFlow", Cond.arrayOver (.object "FactFlow$Instruction"), Cond.arrayOver (.object "FactFlow$State"), Cond.arrayOver (.object "FactFlow$Fact")]
theorem wm_nw_warm {s U : State} (hW : s.WarmedH U.vm) : ∀ w ∈ wm_nw, va_Nw w s → va_Nw w U := by
  intro w hw h
  unfold wm_nw at hw
  rcases List.mem_cons.mp hw with e | hw
  · subst e; exact va_Nw.warmM hW h
  rcases List.mem_cons.mp hw with e | hw
  · subst e; exact va_Nw.warmM hW h
  rcases List.mem_cons.mp hw with e | hw
  · subst e; exact va_Nw.warmM hW h
  rcases List.mem_cons.mp hw with e | hw
  · subst e; exact va_Nw.warmM hW h
  rcases List.mem_cons.mp hw with e | hw
  · subst e; exact va_Nw.warmM hW h
  rcases List.mem_cons.mp hw with e | hw
  · subst e; exact va_Nw.warmM hW h
  rcases List.mem_cons.mp hw with e | hw
  · subst e; exact va_Nw.warmM hW h
  rcases List.mem_cons.mp hw with e | hw
  · subst e; exact va_Nw.warmM hW h
  rcases List.mem_cons.mp hw with e | hw
  · subst e; exact va_AO.moved (C := "FactFlow$Instruction") hW.alike h
  rcases List.mem_cons.mp hw with e | hw
  · subst e; exact va_AO.moved (C := "FactFlow$State") hW.alike h
  rcases List.mem_cons.mp hw with e | hw
  · subst e; exact va_AO.moved (C := "FactFlow$Fact") hW.alike h
  cases hw
theorem wm_nw_same {s U : State} (e : s.vm = U.vm) : ∀ w ∈ wm_nw, va_Nw w s → va_Nw w U := by
  intro w hw h
  unfold wm_nw at hw
  rcases List.mem_cons.mp hw with e1 | hw
  · subst e1; exact va_Nw.same rfl e h
  rcases List.mem_cons.mp hw with e1 | hw
  · subst e1; exact va_Nw.same rfl e h
  rcases List.mem_cons.mp hw with e1 | hw
  · subst e1; exact va_Nw.same rfl e h
  rcases List.mem_cons.mp hw with e1 | hw
  · subst e1; exact va_Nw.same rfl e h
  rcases List.mem_cons.mp hw with e1 | hw
  · subst e1; exact va_Nw.same rfl e h
  rcases List.mem_cons.mp hw with e1 | hw
  · subst e1; exact va_Nw.same rfl e h
  rcases List.mem_cons.mp hw with e1 | hw
  · subst e1; exact va_Nw.same rfl e h
  rcases List.mem_cons.mp hw with e1 | hw
  · subst e1; exact va_Nw.same rfl e h
  rcases List.mem_cons.mp hw with e1 | hw
  · subst e1; exact va_AO.moved (C := "FactFlow$Instruction") (by rw [e]; exact Vm.Alike.refl _) h
  rcases List.mem_cons.mp hw with e1 | hw
  · subst e1; exact va_AO.moved (C := "FactFlow$State") (by rw [e]; exact Vm.Alike.refl _) h
  rcases List.mem_cons.mp hw with e1 | hw
  · subst e1; exact va_AO.moved (C := "FactFlow$Fact") (by rw [e]; exact Vm.Alike.refl _) h
  cases hw
end
section
/-! The layer: a memory of n cells from the base B on, locals as a list, one judgement wm_W. -/
abbrev wm_Sh : Type := Nat → (Nat → Int32) → va_E
abbrev wm_Sg : Type := Nat → Nat → Int32
/-- the classes' numbers, the array classes, the base, the static tables' addresses -/
abbrev wm_G : Type := va_G × (Nat → ClassId) × Nat × (Nat → Nat)
abbrev wm_G.B (G : wm_G) : Nat := G.2.2.1
abbrev wm_G.t (G : wm_G) : List (ClassId × FieldType) := [(G.2.1 0, .int), (G.2.1 1, .boolean), (G.2.1 2, .object "FactFlow$Instruction"), (G.2.1 3, .object "FactFlow$Fact"), (G.2.1 4, .object "FactFlow$State")]
abbrev wm_G.D (G : wm_G) : va_G := G.1
abbrev wm_G.F (G : wm_G) : Nat → Prop := fun q => G.2.2.1 ≤ q
def wm_l (B n : Nat) (S : wm_Sh) (g : wm_Sg) : va_W := (List.range n).map (fun k => (B + k, S k (g k)))
/-- one int of one cell is another one -/
def wm_u (g : wm_Sg) (o j : Nat) (v : Int32) : wm_Sg := fun a => if a = o then upd (g o) j v else g a
theorem wm_u_self (g : wm_Sg) (o j : Nat) (v : Int32) : wm_u g o j v o = upd (g o) j v := if_pos rfl
theorem wm_u_ne (g : wm_Sg) {o a : Nat} (j : Nat) (v : Int32) (h : a ≠ o) : wm_u g o j v a = g a := if_neg h
theorem wm_l_at {B n : Nat} {S : wm_Sh} {g : wm_Sg} {k : Nat} (h : k < n) : (wm_l B n S g)[k]? = some (B + k, S k (g k)) := by
  simp [wm_l, h]
theorem wm_l_of {B n : Nat} {S : wm_Sh} {g : wm_Sg} {k : Nat} {q : Nat × va_E} (h : (wm_l B n S g)[k]? = some q) : k < n ∧ q = (B + k, S k (g k)) := by
  have hl : k < n := by
    have := (List.getElem?_eq_some_iff.mp h).1
    simpa [wm_l] using this
  rw [wm_l_at hl] at h
  exact ⟨hl, (Option.some.inj h).symm⟩
theorem wm_l_put {D : va_G} {cl : List vw_C} {B n o : Nat} {S S' : wm_Sh} {g g' : wm_Sg} {H H1 : Heap} (hP : va_P D cl (wm_l B n S g) H) (ho : ∀ k, k < n → k ≠ o → S' k (g' k) = S k (g k)) (oq : ∀ q : Nat, q ≠ B + o → H1[q]? = H[q]?) (hx : va_at D cl (B + o, S' o (g' o)) H1) : va_P D cl (wm_l B n S' g') H1 := by
  intro k q hk
  obtain ⟨hl, rfl⟩ := wm_l_of hk
  by_cases h : k = o
  · subst h; exact hx
  · rw [ho k hl h]
    exact (hP k _ (wm_l_at hl)).kept (oq _ (by show B + k ≠ B + o; omega))
theorem wm_l_push {D : va_G} {cl : List vw_C} {B n : Nat} {S S' : wm_Sh} {g g' : wm_Sg} {H H1 : Heap} (hP : va_P D cl (wm_l B n S g) H) (ho : ∀ k, k < n → S' k (g' k) = S k (g k)) (oq : ∀ q : Nat, q < B + n → H1[q]? = H[q]?) (hx : va_at D cl (B + n, S' n (g' n)) H1) : va_P D cl (wm_l B (n + 1) S' g') H1 := by
  intro k q hk
  obtain ⟨hl, rfl⟩ := wm_l_of hk
  by_cases h : k = n
  · subst h; exact hx
  · rw [ho k (by omega)]
    exact (hP k _ (wm_l_at (by omega))).kept (oq _ (by show B + k < B + n; omega))
theorem wm_l_D (B n : Nat) (S : wm_Sh) (g : wm_Sg) : va_D (fun q => B ≤ q) (wm_l B n S g) := by
  refine ⟨fun i j x y hi hj hxy => ?_, fun k q hk => ?_⟩
  · obtain ⟨-, rfl⟩ := wm_l_of hi
    obtain ⟨-, rfl⟩ := wm_l_of hj
    have : B + i = B + j := hxy
    omega
  · obtain ⟨-, rfl⟩ := wm_l_of hk
    exact Nat.le_add_right _ _
/-- the static tables and the nest mates' words -/
def wm_St (G : wm_G) (U : State) (H : Heap) : Prop := (∀ i, i < 4 → va_Z wm_TC (wm_Tn i) "[I" (.ref (G.2.2.2 i)) G.F U H ∧ va_T .int (G.2.2.2 i) 9 (fun j => .int (fc_tab i j)) G.F U H) ∧ ∀ w ∈ wm_nw, va_Nw w U
theorem wm_St.kept {G : wm_G} {U : State} {H H1 : Heap} (h : wm_St G U H) (hq : ∀ a : Nat, a < H.size → ¬ G.F a → H1[a]? = H[a]?) : wm_St G U H1 := ⟨fun i hi => ⟨(h.1 i hi).1.kept hq, (h.1 i hi).2.kept hq⟩, h.2⟩
theorem wm_St.warm {G : wm_G} {s U : State} {H : Heap} (hW : s.WarmedH U.vm) (h : wm_St G s H) : wm_St G U H := ⟨fun i hi => ⟨va_Z.moved hW.alike (h.1 i hi).1, va_T.moved hW.alike (h.1 i hi).2⟩, fun w hw => wm_nw_warm hW w hw (h.2 w hw)⟩
theorem wm_St.same {G : wm_G} {s U : State} {H : Heap} (e : s.vm = U.vm) (h : wm_St G s H) : wm_St G U H := ⟨fun i hi => ⟨va_Z.moved (by rw [e]; exact Vm.Alike.refl _) (h.1 i hi).1, va_T.moved (by rw [e]; exact Vm.Alike.refl _) (h.1 i hi).2⟩, fun w hw => wm_nw_same e w hw (h.2 w hw)⟩
/-- the context of a walk: program, launch, environment, room, entry state, method, arguments, frames below, the method's data, its code, the end that is wanted -/
abbrev wm_X : Type := Program × Launch × Env × Room × State × MethodId × Array Value × List Frame × Method × Code × (State → Prop)
abbrev wm_X.p (X : wm_X) : Program := X.1
abbrev wm_X.l (X : wm_X) : Launch := X.2.1
abbrev wm_X.e (X : wm_X) : Env := X.2.2.1
abbrev wm_X.R (X : wm_X) : Room := X.2.2.2.1
abbrev wm_X.s (X : wm_X) : State := X.2.2.2.2.1
abbrev wm_X.m (X : wm_X) : MethodId := X.2.2.2.2.2.1
abbrev wm_X.a (X : wm_X) : Array Value := X.2.2.2.2.2.2.1
abbrev wm_X.b (X : wm_X) : List Frame := X.2.2.2.2.2.2.2.1
abbrev wm_X.y (X : wm_X) : Method := X.2.2.2.2.2.2.2.2.1
abbrev wm_X.c (X : wm_X) : Code := X.2.2.2.2.2.2.2.2.2.1
abbrev wm_X.Q (X : wm_X) : State → Prop := X.2.2.2.2.2.2.2.2.2.2
def wm_W (G : wm_G) (X : wm_X) (nL cells slots n : Nat) (S : wm_Sh) (g : wm_Sg) (pc : Nat) (L : List (Nat × Value)) (st : List Value) : Prop :=
  ∀ (H : Heap) (locs : List Loc) (ls : Array Slot), H.size = G.B + n → va_P G.D vwCl (wm_l G.B n S g) H → va_S G.F X.s.heap H locs → lv_has ls nL L →
    W X.p X.l X.e X.R X.s X.m X.a X.b X.y X.c H locs cells slots X.Q (F0 X.m pc ls st)
/-- what holds in a walk; d: frames that calls may take, rc, rs: the room's cells and slots -/
def wm_C (G : wm_G) (X : wm_X) (cc : ByteArray) (nL : Nat) (Ts : List Cond) (own : String) (d rc rs : Nat) : Prop :=
  X.p.tables.exec = Jvm.exec ∧ X.c.code = cc ∧ X.c.maxLocals = nL ∧ X.s.vm.findClass own = some X.m.cls ∧ (∀ w ∈ Ts, w.before X.a X.s = true) ∧ va_K G.D vwCl G.t X.s ∧ G.B ≤ X.s.heap.size ∧ wm_St G X.s X.s.heap ∧ d ≤ X.R.frames ∧ 40 * d ≤ X.R.locals ∧ rc ≤ X.R.cells ∧ rs ≤ X.R.slots
def wm_k : List (Nat × Value) → Nat → Option Value
  | [], _ => none
  | q :: t, k => cond (Nat.beq q.1 k) (some q.2) (wm_k t k)
theorem wm_k_mem : ∀ {L : List (Nat × Value)} {k : Nat} {v : Value}, wm_k L k = some v → (k, v) ∈ L
  | [], _, _, h => by cases h
  | q :: t, k, v, h => by
    unfold wm_k at h
    cases hq : Nat.beq q.1 k with
    | true =>
      rw [hq] at h
      have e1 : q.1 = k := Nat.eq_of_beq_eq_true hq
      have e2 : q.2 = v := Option.some.inj h
      subst e1; subst e2
      exact List.mem_cons_self
    | false =>
      rw [hq] at h
      exact List.mem_cons_of_mem _ (wm_k_mem h)
theorem wm_k_at {ls : Array Slot} {nL k : Nat} {L : List (Nat × Value)} {v : Value} (h : lv_has ls nL L) (hk : wm_k L k = some v) : ls[k]? = some (.val v) := h.2.2 (k, v) (wm_k_mem hk)
/-- the locals behind a store -/
def wm_s (L : List (Nat × Value)) (i : Nat) (v : Value) : List (Nat × Value) := (i, v) :: L.filter (fun q => !(q.1 == i) && !(q.1 + 1 == i && q.2.category == 2))
section WM
variable {G : wm_G} {X : wm_X} {cc : ByteArray} {nL : Nat} {Ts : List Cond} {own : String} {d rc rs : Nat} {cells slots n : Nat} {S : wm_Sh} {g : wm_Sg} {pc : Nat} {L : List (Nat × Value)} {rest : List Value}
theorem wm_widen {k j : Nat} {st : List Value} (h1 : cells ≤ k) (h2 : slots ≤ j) (kk : wm_W G X nL k j n S g pc L st) : wm_W G X nL cells slots n S g pc L st := fun H locs ls a b c d => W.widen h1 h2 (kk H locs ls a b c d)
/-- fewer locals, or in another order -/
theorem wm_L {L' : List (Nat × Value)} {st : List Value} (h : ∀ q ∈ L', wm_k L q.1 = some q.2) (kk : wm_W G X nL cells slots n S g pc L' st) : wm_W G X nL cells slots n S g pc L st := fun H locs ls a b c d => kk H locs ls a b c ⟨d.1, d.2.1, fun q hq => wm_k_at d (h q hq)⟩
theorem wm_top {x y : Int32} {st : List Value} (h : x = y) (kk : wm_W G X nL cells slots n S g pc L (.int y :: st)) : wm_W G X nL cells slots n S g pc L (.int x :: st) := by
  subst h; exact kk
theorem wm_g {g' : wm_Sg} {st : List Value} (h : g = g') (kk : wm_W G X nL cells slots n S g' pc L st) : wm_W G X nL cells slots n S g pc L st := by
  subst h; exact kk

theorem wm_iconst (C : wm_C G X cc nL Ts own d rc rs) {i : Int} {v : Int32} (dd : decode cc pc = .ok (.iconst i, 1)) (hv : Int32.ofInt i = v) (k : wm_W G X nL cells slots n S g (pc + 1) L (.int v :: rest)) : wm_W G X nL cells slots n S g pc L (rest) := fun H locs ls h1 h2 h3 h4 => lv_iconst C.1 C.2.1 dd hv (k H locs ls h1 h2 h3 h4)
theorem wm_bipush (C : wm_C G X cc nL Ts own d rc rs) {i : Int} {v : Int32} (dd : decode cc pc = .ok (.bipush i, 2)) (hv : (Int8.ofInt i).toInt32 = v) (k : wm_W G X nL cells slots n S g (pc + 2) L (.int v :: rest)) : wm_W G X nL cells slots n S g pc L (rest) := fun H locs ls h1 h2 h3 h4 => lv_bipush C.1 C.2.1 dd hv (k H locs ls h1 h2 h3 h4)
theorem wm_sipush (C : wm_C G X cc nL Ts own d rc rs) {i : Int} {v : Int32} (dd : decode cc pc = .ok (.sipush i, 3)) (hv : (Int16.ofInt i).toInt32 = v) (k : wm_W G X nL cells slots n S g (pc + 3) L (.int v :: rest)) : wm_W G X nL cells slots n S g pc L (rest) := fun H locs ls h1 h2 h3 h4 => lv_sipush C.1 C.2.1 dd hv (k H locs ls h1 h2 h3 h4)
theorem wm_ldc (C : wm_C G X cc nL Ts own d rc rs) {i : Nat} {v : Int32} (dd : decode cc pc = .ok (.ldc i, 2)) (hw : Cond.constant own i v ∈ Ts) (k : wm_W G X nL cells slots n S g (pc + 2) L (.int v :: rest)) : wm_W G X nL cells slots n S g pc L (rest) := fun H locs ls h1 h2 h3 h4 => lv_ldc C.1 C.2.1 C.2.2.2.1 (C.2.2.2.2.1 _ hw) dd (k H locs ls h1 h2 h3 h4)
theorem wm_ldc_w (C : wm_C G X cc nL Ts own d rc rs) {i : Nat} {v : Int32} (dd : decode cc pc = .ok (.ldc_w i, 3)) (hw : Cond.constant own i v ∈ Ts) (k : wm_W G X nL cells slots n S g (pc + 3) L (.int v :: rest)) : wm_W G X nL cells slots n S g pc L (rest) := fun H locs ls h1 h2 h3 h4 => lv_ldcw C.1 C.2.1 C.2.2.2.1 (C.2.2.2.2.1 _ hw) dd (k H locs ls h1 h2 h3 h4)
theorem wm_iload_n (C : wm_C G X cc nL Ts own d rc rs) {i : Fin 4} {x : Int32} (dd : decode cc pc = .ok (.iload_n i, 1)) (hk : wm_k L i.val = some (.int x)) (k : wm_W G X nL cells slots n S g (pc + 1) L (.int x :: rest)) : wm_W G X nL cells slots n S g pc L (rest) := fun H locs ls h1 h2 h3 h4 => lv_iload_n C.1 C.2.1 dd rfl (wm_k_at h4 hk) (k H locs ls h1 h2 h3 h4)
theorem wm_iload (C : wm_C G X cc nL Ts own d rc rs) {i : Nat} {x : Int32} (dd : decode cc pc = .ok (.iload i, 2)) (hk : wm_k L i = some (.int x)) (k : wm_W G X nL cells slots n S g (pc + 2) L (.int x :: rest)) : wm_W G X nL cells slots n S g pc L (rest) := fun H locs ls h1 h2 h3 h4 => lv_iload C.1 C.2.1 dd (wm_k_at h4 hk) (k H locs ls h1 h2 h3 h4)
theorem wm_aload_n (C : wm_C G X cc nL Ts own d rc rs) {i : Fin 4} {x : Nat} (dd : decode cc pc = .ok (.aload_n i, 1)) (hk : wm_k L i.val = some (.ref x)) (k : wm_W G X nL cells slots n S g (pc + 1) L (.ref x :: rest)) : wm_W G X nL cells slots n S g pc L (rest) := fun H locs ls h1 h2 h3 h4 => lv_aload_n C.1 C.2.1 dd rfl (wm_k_at h4 hk) (k H locs ls h1 h2 h3 h4)
theorem wm_aload (C : wm_C G X cc nL Ts own d rc rs) {i : Nat} {x : Nat} (dd : decode cc pc = .ok (.aload i, 2)) (hk : wm_k L i = some (.ref x)) (k : wm_W G X nL cells slots n S g (pc + 2) L (.ref x :: rest)) : wm_W G X nL cells slots n S g pc L (rest) := fun H locs ls h1 h2 h3 h4 => lv_aload C.1 C.2.1 dd (wm_k_at h4 hk) (k H locs ls h1 h2 h3 h4)
theorem wm_istore_n (C : wm_C G X cc nL Ts own d rc rs) {i : Fin 4} {x : Int32} (dd : decode cc pc = .ok (.istore_n i, 1)) (hn : i.val < nL) (k : wm_W G X nL cells slots n S g (pc + 1) (wm_s L i.val (.int x)) rest) : wm_W G X nL cells slots n S g pc L (.int x :: rest) := fun H locs ls h1 h2 h3 h4 => lv_istore_n C.1 C.2.1 dd rfl h4 hn rfl (fun ls' h' => k H locs ls' h1 h2 h3 h')
theorem wm_istore (C : wm_C G X cc nL Ts own d rc rs) {i : Nat} {x : Int32} (dd : decode cc pc = .ok (.istore i, 2)) (hn : i < nL) (k : wm_W G X nL cells slots n S g (pc + 2) (wm_s L i (.int x)) rest) : wm_W G X nL cells slots n S g pc L (.int x :: rest) := fun H locs ls h1 h2 h3 h4 => lv_istore C.1 C.2.1 dd h4 hn rfl (fun ls' h' => k H locs ls' h1 h2 h3 h')
theorem wm_astore_n (C : wm_C G X cc nL Ts own d rc rs) {i : Fin 4} {x : Nat} (dd : decode cc pc = .ok (.astore_n i, 1)) (hn : i.val < nL) (k : wm_W G X nL cells slots n S g (pc + 1) (wm_s L i.val (.ref x)) rest) : wm_W G X nL cells slots n S g pc L (.ref x :: rest) := fun H locs ls h1 h2 h3 h4 => lv_astore_n C.1 C.2.1 dd rfl h4 hn rfl (fun ls' h' => k H locs ls' h1 h2 h3 h')
theorem wm_astore (C : wm_C G X cc nL Ts own d rc rs) {i : Nat} {x : Nat} (dd : decode cc pc = .ok (.astore i, 2)) (hn : i < nL) (k : wm_W G X nL cells slots n S g (pc + 2) (wm_s L i (.ref x)) rest) : wm_W G X nL cells slots n S g pc L (.ref x :: rest) := fun H locs ls h1 h2 h3 h4 => lv_astore C.1 C.2.1 dd h4 hn rfl (fun ls' h' => k H locs ls' h1 h2 h3 h')
theorem wm_iinc (C : wm_C G X cc nL Ts own d rc rs) {i : Nat} {z : Int} {x v : Int32} (dd : decode cc pc = .ok (.iinc i z, 3)) (hk : wm_k L i = some (.int x)) (hv : x + Int32.ofInt z = v) (hn : i < nL) (k : wm_W G X nL cells slots n S g (pc + 3) (wm_s L i (.int v)) rest) : wm_W G X nL cells slots n S g pc L rest := by
  intro H locs ls h1 h2 h3 h4
  obtain ⟨j, hj⟩ := List.getElem?_of_mem (wm_k_mem hk)
  exact lv_iinc C.1 C.2.1 dd h4 hj hv hn rfl (fun ls' h' => k H locs ls' h1 h2 h3 h')
theorem wm_iadd (C : wm_C G X cc nL Ts own d rc rs) {x y : Int32} (dd : decode cc pc = .ok (.iadd, 1)) (k : wm_W G X nL cells slots n S g (pc + 1) L (.int (x + y) :: rest)) : wm_W G X nL cells slots n S g pc L (.int y :: .int x :: rest) := fun H locs ls h1 h2 h3 h4 => lv_iadd C.1 C.2.1 dd (k H locs ls h1 h2 h3 h4)
theorem wm_isub (C : wm_C G X cc nL Ts own d rc rs) {x y : Int32} (dd : decode cc pc = .ok (.isub, 1)) (k : wm_W G X nL cells slots n S g (pc + 1) L (.int (x - y) :: rest)) : wm_W G X nL cells slots n S g pc L (.int y :: .int x :: rest) := fun H locs ls h1 h2 h3 h4 => lv_isub C.1 C.2.1 dd (k H locs ls h1 h2 h3 h4)
theorem wm_imul (C : wm_C G X cc nL Ts own d rc rs) {x y : Int32} (dd : decode cc pc = .ok (.imul, 1)) (k : wm_W G X nL cells slots n S g (pc + 1) L (.int (x * y) :: rest)) : wm_W G X nL cells slots n S g pc L (.int y :: .int x :: rest) := fun H locs ls h1 h2 h3 h4 => lv_imul C.1 C.2.1 dd (k H locs ls h1 h2 h3 h4)
theorem wm_iand (C : wm_C G X cc nL Ts own d rc rs) {x y : Int32} (dd : decode cc pc = .ok (.iand, 1)) (k : wm_W G X nL cells slots n S g (pc + 1) L (.int (x &&& y) :: rest)) : wm_W G X nL cells slots n S g pc L (.int y :: .int x :: rest) := fun H locs ls h1 h2 h3 h4 => lv_iand C.1 C.2.1 dd (k H locs ls h1 h2 h3 h4)
theorem wm_ior (C : wm_C G X cc nL Ts own d rc rs) {x y : Int32} (dd : decode cc pc = .ok (.ior, 1)) (k : wm_W G X nL cells slots n S g (pc + 1) L (.int (x ||| y) :: rest)) : wm_W G X nL cells slots n S g pc L (.int y :: .int x :: rest) := fun H locs ls h1 h2 h3 h4 => lv_ior C.1 C.2.1 dd (k H locs ls h1 h2 h3 h4)
theorem wm_ixor (C : wm_C G X cc nL Ts own d rc rs) {x y : Int32} (dd : decode cc pc = .ok (.ixor, 1)) (k : wm_W G X nL cells slots n S g (pc + 1) L (.int (x ^^^ y) :: rest)) : wm_W G X nL cells slots n S g pc L (.int y :: .int x :: rest) := fun H locs ls h1 h2 h3 h4 => lv_ixor C.1 C.2.1 dd (k H locs ls h1 h2 h3 h4)
theorem wm_ishl (C : wm_C G X cc nL Ts own d rc rs) {x y : Int32} (dd : decode cc pc = .ok (.ishl, 1)) (k : wm_W G X nL cells slots n S g (pc + 1) L (.int (x <<< (y &&& 31)) :: rest)) : wm_W G X nL cells slots n S g pc L (.int y :: .int x :: rest) := fun H locs ls h1 h2 h3 h4 => lv_ishl C.1 C.2.1 dd (k H locs ls h1 h2 h3 h4)
theorem wm_ishr (C : wm_C G X cc nL Ts own d rc rs) {x y : Int32} (dd : decode cc pc = .ok (.ishr, 1)) (k : wm_W G X nL cells slots n S g (pc + 1) L (.int (x >>> (y &&& 31)) :: rest)) : wm_W G X nL cells slots n S g pc L (.int y :: .int x :: rest) := fun H locs ls h1 h2 h3 h4 => lv_ishr C.1 C.2.1 dd (k H locs ls h1 h2 h3 h4)
theorem wm_iushr (C : wm_C G X cc nL Ts own d rc rs) {x y v : Int32} (dd : decode cc pc = .ok (.iushr, 1)) (hv : (x.toUInt32 >>> (y.toUInt32 &&& Int32.toUInt32 31)).toInt32 = v) (k : wm_W G X nL cells slots n S g (pc + 1) L (.int v :: rest)) : wm_W G X nL cells slots n S g pc L (.int y :: .int x :: rest) := fun H locs ls h1 h2 h3 h4 => lv_iushr C.1 C.2.1 dd hv (k H locs ls h1 h2 h3 h4)
theorem wm_idiv (C : wm_C G X cc nL Ts own d rc rs) {x y : Int32} (dd : decode cc pc = .ok (.idiv, 1)) (hy : ¬ y = 0) (k : wm_W G X nL cells slots n S g (pc + 1) L (.int (x / y) :: rest)) : wm_W G X nL cells slots n S g pc L (.int y :: .int x :: rest) := fun H locs ls h1 h2 h3 h4 => lv_idiv C.1 C.2.1 dd hy (k H locs ls h1 h2 h3 h4)
theorem wm_irem (C : wm_C G X cc nL Ts own d rc rs) {x y : Int32} (dd : decode cc pc = .ok (.irem, 1)) (hy : ¬ y = 0) (k : wm_W G X nL cells slots n S g (pc + 1) L (.int (x - x / y * y) :: rest)) : wm_W G X nL cells slots n S g pc L (.int y :: .int x :: rest) := fun H locs ls h1 h2 h3 h4 => lv_irem C.1 C.2.1 dd hy (k H locs ls h1 h2 h3 h4)
theorem wm_ineg (C : wm_C G X cc nL Ts own d rc rs) {x : Int32} (dd : decode cc pc = .ok (.ineg, 1)) (k : wm_W G X nL cells slots n S g (pc + 1) L (.int (-x) :: rest)) : wm_W G X nL cells slots n S g pc L (.int x :: rest) := fun H locs ls h1 h2 h3 h4 => lv_ineg C.1 C.2.1 dd (k H locs ls h1 h2 h3 h4)
theorem wm_dup (C : wm_C G X cc nL Ts own d rc rs) {v : Value} (dd : decode cc pc = .ok (.dup, 1)) (hv : v.category = 1) (k : wm_W G X nL cells slots n S g (pc + 1) L (v :: v :: rest)) : wm_W G X nL cells slots n S g pc L (v :: rest) := fun H locs ls h1 h2 h3 h4 => lv_dup C.1 C.2.1 dd hv (k H locs ls h1 h2 h3 h4)
theorem wm_pop (C : wm_C G X cc nL Ts own d rc rs) {v : Value} (dd : decode cc pc = .ok (.pop, 1)) (hv : v.category = 1) (k : wm_W G X nL cells slots n S g (pc + 1) L (rest)) : wm_W G X nL cells slots n S g pc L (v :: rest) := fun H locs ls h1 h2 h3 h4 => lv_pop C.1 C.2.1 dd hv (k H locs ls h1 h2 h3 h4)
theorem wm_dup_x1 (C : wm_C G X cc nL Ts own d rc rs) {v u : Value} (dd : decode cc pc = .ok (.dup_x1, 1)) (hv : v.category = 1) (hu : u.category = 1) (k : wm_W G X nL cells slots n S g (pc + 1) L (v :: u :: v :: rest)) : wm_W G X nL cells slots n S g pc L (v :: u :: rest) := fun H locs ls h1 h2 h3 h4 => lv_dup_x1 C.1 C.2.1 dd hv hu (k H locs ls h1 h2 h3 h4)
theorem wm_if_eq (C : wm_C G X cc nL Ts own d rc rs) {x : Int32} {off : Int} {tgt : Nat} (dd : decode cc pc = .ok (.ifCond .eq off, 3)) (ht : (pc : Int) + off = (tgt : Int)) (kt : x = 0 → wm_W G X nL cells slots n S g tgt L rest) (kf : ¬ (x = 0) → wm_W G X nL cells slots n S g (pc + 3) L rest) : wm_W G X nL cells slots n S g pc L (.int x :: rest) := fun H locs ls h1 h2 h3 h4 => lv_if_eq C.1 C.2.1 dd ht (fun q => kt q H locs ls h1 h2 h3 h4) (fun q => kf q H locs ls h1 h2 h3 h4)
theorem wm_icmp_eq (C : wm_C G X cc nL Ts own d rc rs) {x y : Int32} {off : Int} {tgt : Nat} (dd : decode cc pc = .ok (.if_icmp .eq off, 3)) (ht : (pc : Int) + off = (tgt : Int)) (kt : x = y → wm_W G X nL cells slots n S g tgt L rest) (kf : ¬ (x = y) → wm_W G X nL cells slots n S g (pc + 3) L rest) : wm_W G X nL cells slots n S g pc L (.int y :: .int x :: rest) := fun H locs ls h1 h2 h3 h4 => lv_icmp_eq C.1 C.2.1 dd ht (fun q => kt q H locs ls h1 h2 h3 h4) (fun q => kf q H locs ls h1 h2 h3 h4)
theorem wm_if_ne (C : wm_C G X cc nL Ts own d rc rs) {x : Int32} {off : Int} {tgt : Nat} (dd : decode cc pc = .ok (.ifCond .ne off, 3)) (ht : (pc : Int) + off = (tgt : Int)) (kt : ¬ x = 0 → wm_W G X nL cells slots n S g tgt L rest) (kf : x = 0 → wm_W G X nL cells slots n S g (pc + 3) L rest) : wm_W G X nL cells slots n S g pc L (.int x :: rest) := fun H locs ls h1 h2 h3 h4 => lv_if_ne C.1 C.2.1 dd ht (fun q => kt q H locs ls h1 h2 h3 h4) (fun q => kf q H locs ls h1 h2 h3 h4)
theorem wm_icmp_ne (C : wm_C G X cc nL Ts own d rc rs) {x y : Int32} {off : Int} {tgt : Nat} (dd : decode cc pc = .ok (.if_icmp .ne off, 3)) (ht : (pc : Int) + off = (tgt : Int)) (kt : ¬ x = y → wm_W G X nL cells slots n S g tgt L rest) (kf : x = y → wm_W G X nL cells slots n S g (pc + 3) L rest) : wm_W G X nL cells slots n S g pc L (.int y :: .int x :: rest) := fun H locs ls h1 h2 h3 h4 => lv_icmp_ne C.1 C.2.1 dd ht (fun q => kt q H locs ls h1 h2 h3 h4) (fun q => kf q H locs ls h1 h2 h3 h4)
theorem wm_if_lt (C : wm_C G X cc nL Ts own d rc rs) {x : Int32} {off : Int} {tgt : Nat} (dd : decode cc pc = .ok (.ifCond .lt off, 3)) (ht : (pc : Int) + off = (tgt : Int)) (kt : x < 0 → wm_W G X nL cells slots n S g tgt L rest) (kf : ¬ (x < 0) → wm_W G X nL cells slots n S g (pc + 3) L rest) : wm_W G X nL cells slots n S g pc L (.int x :: rest) := fun H locs ls h1 h2 h3 h4 => lv_if_lt C.1 C.2.1 dd ht (fun q => kt q H locs ls h1 h2 h3 h4) (fun q => kf q H locs ls h1 h2 h3 h4)
theorem wm_icmp_lt (C : wm_C G X cc nL Ts own d rc rs) {x y : Int32} {off : Int} {tgt : Nat} (dd : decode cc pc = .ok (.if_icmp .lt off, 3)) (ht : (pc : Int) + off = (tgt : Int)) (kt : x < y → wm_W G X nL cells slots n S g tgt L rest) (kf : ¬ (x < y) → wm_W G X nL cells slots n S g (pc + 3) L rest) : wm_W G X nL cells slots n S g pc L (.int y :: .int x :: rest) := fun H locs ls h1 h2 h3 h4 => lv_icmp_lt C.1 C.2.1 dd ht (fun q => kt q H locs ls h1 h2 h3 h4) (fun q => kf q H locs ls h1 h2 h3 h4)
theorem wm_if_ge (C : wm_C G X cc nL Ts own d rc rs) {x : Int32} {off : Int} {tgt : Nat} (dd : decode cc pc = .ok (.ifCond .ge off, 3)) (ht : (pc : Int) + off = (tgt : Int)) (kt : 0 ≤ x → wm_W G X nL cells slots n S g tgt L rest) (kf : ¬ (0 ≤ x) → wm_W G X nL cells slots n S g (pc + 3) L rest) : wm_W G X nL cells slots n S g pc L (.int x :: rest) := fun H locs ls h1 h2 h3 h4 => lv_if_ge C.1 C.2.1 dd ht (fun q => kt q H locs ls h1 h2 h3 h4) (fun q => kf q H locs ls h1 h2 h3 h4)
theorem wm_icmp_ge (C : wm_C G X cc nL Ts own d rc rs) {x y : Int32} {off : Int} {tgt : Nat} (dd : decode cc pc = .ok (.if_icmp .ge off, 3)) (ht : (pc : Int) + off = (tgt : Int)) (kt : y ≤ x → wm_W G X nL cells slots n S g tgt L rest) (kf : ¬ (y ≤ x) → wm_W G X nL cells slots n S g (pc + 3) L rest) : wm_W G X nL cells slots n S g pc L (.int y :: .int x :: rest) := fun H locs ls h1 h2 h3 h4 => lv_icmp_ge C.1 C.2.1 dd ht (fun q => kt q H locs ls h1 h2 h3 h4) (fun q => kf q H locs ls h1 h2 h3 h4)
theorem wm_if_gt (C : wm_C G X cc nL Ts own d rc rs) {x : Int32} {off : Int} {tgt : Nat} (dd : decode cc pc = .ok (.ifCond .gt off, 3)) (ht : (pc : Int) + off = (tgt : Int)) (kt : 0 < x → wm_W G X nL cells slots n S g tgt L rest) (kf : ¬ (0 < x) → wm_W G X nL cells slots n S g (pc + 3) L rest) : wm_W G X nL cells slots n S g pc L (.int x :: rest) := fun H locs ls h1 h2 h3 h4 => lv_if_gt C.1 C.2.1 dd ht (fun q => kt q H locs ls h1 h2 h3 h4) (fun q => kf q H locs ls h1 h2 h3 h4)
theorem wm_icmp_gt (C : wm_C G X cc nL Ts own d rc rs) {x y : Int32} {off : Int} {tgt : Nat} (dd : decode cc pc = .ok (.if_icmp .gt off, 3)) (ht : (pc : Int) + off = (tgt : Int)) (kt : y < x → wm_W G X nL cells slots n S g tgt L rest) (kf : ¬ (y < x) → wm_W G X nL cells slots n S g (pc + 3) L rest) : wm_W G X nL cells slots n S g pc L (.int y :: .int x :: rest) := fun H locs ls h1 h2 h3 h4 => lv_icmp_gt C.1 C.2.1 dd ht (fun q => kt q H locs ls h1 h2 h3 h4) (fun q => kf q H locs ls h1 h2 h3 h4)
theorem wm_if_le (C : wm_C G X cc nL Ts own d rc rs) {x : Int32} {off : Int} {tgt : Nat} (dd : decode cc pc = .ok (.ifCond .le off, 3)) (ht : (pc : Int) + off = (tgt : Int)) (kt : x ≤ 0 → wm_W G X nL cells slots n S g tgt L rest) (kf : ¬ (x ≤ 0) → wm_W G X nL cells slots n S g (pc + 3) L rest) : wm_W G X nL cells slots n S g pc L (.int x :: rest) := fun H locs ls h1 h2 h3 h4 => lv_if_le C.1 C.2.1 dd ht (fun q => kt q H locs ls h1 h2 h3 h4) (fun q => kf q H locs ls h1 h2 h3 h4)
theorem wm_icmp_le (C : wm_C G X cc nL Ts own d rc rs) {x y : Int32} {off : Int} {tgt : Nat} (dd : decode cc pc = .ok (.if_icmp .le off, 3)) (ht : (pc : Int) + off = (tgt : Int)) (kt : x ≤ y → wm_W G X nL cells slots n S g tgt L rest) (kf : ¬ (x ≤ y) → wm_W G X nL cells slots n S g (pc + 3) L rest) : wm_W G X nL cells slots n S g pc L (.int y :: .int x :: rest) := fun H locs ls h1 h2 h3 h4 => lv_icmp_le C.1 C.2.1 dd ht (fun q => kt q H locs ls h1 h2 h3 h4) (fun q => kf q H locs ls h1 h2 h3 h4)
theorem wm_goto (C : wm_C G X cc nL Ts own d rc rs) {off : Int} {tgt : Nat} (dd : decode cc pc = .ok (.goto off, 3)) (ht : (pc : Int) + off = (tgt : Int)) (k : wm_W G X nL cells slots n S g tgt L rest) : wm_W G X nL cells slots n S g pc L rest := fun H locs ls h1 h2 h3 h4 => lv_goto C.1 C.2.1 dd ht (k H locs ls h1 h2 h3 h4)
theorem wm_tableOut (C : wm_C G X cc nL Ts own d rc rs) {dflt lo hi : Int} {offs : Array Int} {len : Nat} {x : Int32} {tgt : Nat} (dd : decode cc pc = .ok (.tableswitch dflt lo hi offs, len)) (h : x.toInt < lo ∨ hi < x.toInt) (ht : (pc : Int) + dflt = (tgt : Int)) (k : wm_W G X nL cells slots n S g tgt L rest) : wm_W G X nL cells slots n S g pc L (.int x :: rest) := fun H locs ls h1 h2 h3 h4 => lv_tableOut C.1 C.2.1 dd h ht (k H locs ls h1 h2 h3 h4)
theorem wm_tableIn (C : wm_C G X cc nL Ts own d rc rs) {dflt lo hi : Int} {offs : Array Int} {len : Nat} {x : Int32} {off : Int} {tgt : Nat} (dd : decode cc pc = .ok (.tableswitch dflt lo hi offs, len)) (g1 : ¬ x.toInt < lo) (g2 : ¬ hi < x.toInt) (ho : offs[(x.toInt - lo).toNat]? = some off) (ht : (pc : Int) + off = (tgt : Int)) (k : wm_W G X nL cells slots n S g tgt L rest) : wm_W G X nL cells slots n S g pc L (.int x :: rest) := fun H locs ls h1 h2 h3 h4 => lv_tableIn C.1 C.2.1 dd g1 g2 ho ht (k H locs ls h1 h2 h3 h4)
theorem wm_lookup (C : wm_C G X cc nL Ts own d rc rs) {dflt : Int} {ps : Array (Int × Int)} {len : Nat} {x : Int32} {off : Int} {tgt : Nat} (dd : decode cc pc = .ok (.lookupswitch dflt ps, len)) (hp : (ps.toList.zip (ps.toList.drop 1)).all (fun (a, next) => a.1 < next.1) = true) (ho : Op.lookupswitch.offset ps.toList dflt x.toInt = off) (ht : (pc : Int) + off = (tgt : Int)) (k : wm_W G X nL cells slots n S g tgt L rest) : wm_W G X nL cells slots n S g pc L (.int x :: rest) := fun H locs ls h1 h2 h3 h4 => lv_lookup C.1 C.2.1 dd hp ho ht (k H locs ls h1 h2 h3 h4)
/-- a field is read -/
theorem wm_get (C : wm_C G X cc nL Ts own d rc rs) {o ci index N : Nat} {cn : String} {T : u_T} {fs : List Value} {v : Value} (j : Nat) (dd : decode cc pc = .ok (.getfield index, 3)) (hm : S o (g o) = .inr (ci, fs)) (ho : o < n) (hc : vwCl[ci]? = some (cn, T, N)) (hin : ∀ w ∈ u_ws cn T N, w ∈ Ts) (hj : j < N) (hw : Cond.fieldLink own index (T j).1 (T j).2.1 (T j).2.2.1 ∈ Ts) (hv : fs[j]? = some v) (k : wm_W G X nL cells slots n S g (pc + 3) L (v :: rest)) : wm_W G X nL cells slots n S g pc L (.ref (G.B + o) :: rest) := fun H locs ls h1 h2 h3 h4 => va_get C.1 C.2.1 C.2.2.2.2.1 hin C.2.2.2.1 C.2.2.2.2.2.1 h2 o (by rw [wm_l_at ho, hm]) hc j hj (C.2.2.2.2.1 _ hw) (fun _ h => h) hv dd (k H locs ls h1 h2 h3 h4)
/-- a field (not final) is written; S', g': the memory behind it -/
theorem wm_put (C : wm_C G X cc nL Ts own d rc rs) {o ci index N : Nat} {cn : String} {T : u_T} {fs : List Value} {v : Value} {ty : FieldType} {S' : wm_Sh} {g' : wm_Sg} (j : Nat) (ty0 : Nat → FieldType) (hty : ∀ k, k < N → parseFieldDescriptor (T k).2.2.1 = some (ty0 k)) (hnm : ∀ a, a < N → ∀ b, b < N → a ≠ b → (T a).2.1 ≠ (T b).2.1) (dd : decode cc pc = .ok (.putfield index, 3)) (hm : S o (g o) = .inr (ci, fs)) (ho : o < n) (hc : vwCl[ci]? = some (cn, T, N)) (hin : ∀ w ∈ u_ws cn T N, w ∈ Ts) (hj : j < N) (hw : Cond.fieldLink own index (T j).1 (T j).2.1 (T j).2.2.1 ∈ Ts) (hfin : (T j).2.2.2 = false) (hd : parseFieldDescriptor (T j).2.2.1 = some ty) (hn : narrow ty v = v) (hfit : fits ty v = true) (hl : j < fs.length) (hn1 : S' o (g' o) = .inr (ci, fs.set j v)) (hn2 : ∀ a, a < n → a ≠ o → S' a (g' a) = S a (g a)) (k : wm_W G X nL cells slots n S' g' (pc + 3) L rest) : wm_W G X nL cells slots n S g pc L (v :: .ref (G.B + o) :: rest) := by
  intro H locs ls h1 h2 h3 h4
  have hts := C.2.2.2.2.1
  have hK := C.2.2.2.2.2.1
  have hap := va_apart (own := own) hts hin ty0 hty hnm hK hc
  have hat := h2 o _ (wm_l_at ho)
  rw [hm] at hat
  obtain ⟨r, e1, cell, q1, q2, q3, q4⟩ := hat
  cases e1.symm.trans hc
  obtain ⟨hS, hfc, kC, hkC, hkind⟩ := hK.1 ci _ hc
  obtain ⟨cf, kf, fi, f, hi, hsl⟩ := hS j hj
  have hlay := hts _ (hin _ (u_in_lay hj))
  unfold u_lay at hlay
  rw [if_neg (by rw [hfin]; decide)] at hlay
  refine W.putK C.1 C.2.1 (f := f) ⟨C.2.2.2.1, hts _ hw, ⟨_, _, _, hi⟩, (u_facts hfc hkC (Or.inl hlay) hi).1⟩ (by rw [q2]; exact u_store hfc hkC hkind hlay hi hd hn hfit) q1 q3 (by rw [hsl]; exact k2_hasslot (q4 j hj)) rfl rfl dd fun H1 a1 a2 a3 => ?_
  rw [hsl] at a1 ⊢
  refine k H1 _ ls (a2.trans h1) (wm_l_put h2 hn2 a3 ?_) (h3.put a2 a3 (Nat.le_add_right _ _)) h4
  rw [hn1]
  exact ⟨_, hc, t_OB.to (V := updV (vp_V fs) j v) ⟨_, a1, q2, q3, t_set q4 hap hj v⟩ (fun i _ => vp_updV_set hl v i)⟩
/-- an int field is written: only the ints change -/
theorem wm_puti (C : wm_C G X cc nL Ts own d rc rs) {o ci index N : Nat} {cn : String} {T : u_T} {fs : List Value} {x : Int32} {ty : FieldType} (j : Nat) (ty0 : Nat → FieldType) (hty : ∀ k, k < N → parseFieldDescriptor (T k).2.2.1 = some (ty0 k)) (hnm : ∀ a, a < N → ∀ b, b < N → a ≠ b → (T a).2.1 ≠ (T b).2.1) (dd : decode cc pc = .ok (.putfield index, 3)) (hm : S o (g o) = .inr (ci, fs)) (ho : o < n) (hc : vwCl[ci]? = some (cn, T, N)) (hin : ∀ w ∈ u_ws cn T N, w ∈ Ts) (hj : j < N) (hw : Cond.fieldLink own index (T j).1 (T j).2.1 (T j).2.2.1 ∈ Ts) (hfin : (T j).2.2.2 = false) (hd : parseFieldDescriptor (T j).2.2.1 = some ty) (hn : narrow ty (.int x) = .int x) (hfit : fits ty (.int x) = true) (hl : j < fs.length) (hn1 : S o (upd (g o) j x) = .inr (ci, fs.set j (.int x))) (k : wm_W G X nL cells slots n S (wm_u g o j x) (pc + 3) L rest) : wm_W G X nL cells slots n S g pc L (.int x :: .ref (G.B + o) :: rest) :=
  wm_put C j ty0 hty hnm dd hm ho hc hin hj hw hfin hd hn hfit hl (by rw [wm_u_self]; exact hn1) (fun a _ h => by rw [wm_u_ne _ _ _ h]) k
theorem wm_iald (C : wm_C G X cc nL Ts own d rc rs) {o N t0 : Nat} {cA : ClassId} {f : Nat → Int32} {i : Int32} (dd : decode cc pc = .ok (.iaload, 1)) (hm : S o (g o) = .inl (cA, N, .inl f)) (ho : o < n) (ht : G.t[t0]? = some (cA, .int)) (hin : vp_in i N) (k : wm_W G X nL cells slots n S g (pc + 1) L (.int (f i.toNatClampNeg) :: rest)) : wm_W G X nL cells slots n S g pc L (.int i :: .ref (G.B + o) :: rest) := fun H locs ls h1 h2 h3 h4 => va_iald C.1 C.2.1 C.2.2.2.2.2.1 h2 o t0 (by rw [wm_l_at ho, hm]) ht hin dd (k H locs ls h1 h2 h3 h4)
theorem wm_zald (C : wm_C G X cc nL Ts own d rc rs) {o N t0 : Nat} {cA : ClassId} {f : Nat → Int32} {i : Int32} (dd : decode cc pc = .ok (.baload, 1)) (hm : S o (g o) = .inl (cA, N, .inl f)) (ho : o < n) (ht : G.t[t0]? = some (cA, .boolean)) (hin : vp_in i N) (k : wm_W G X nL cells slots n S g (pc + 1) L (.int (f i.toNatClampNeg) :: rest)) : wm_W G X nL cells slots n S g pc L (.int i :: .ref (G.B + o) :: rest) := fun H locs ls h1 h2 h3 h4 => va_zald C.1 C.2.1 C.2.2.2.2.2.1 h2 o t0 (by rw [wm_l_at ho, hm]) ht hin dd (k H locs ls h1 h2 h3 h4)
theorem wm_aald (C : wm_C G X cc nL Ts own d rc rs) {o N t0 : Nat} {cA : ClassId} {cn : String} {f : Nat → Option Nat} {i : Int32} {x : Nat} (dd : decode cc pc = .ok (.aaload, 1)) (hm : S o (g o) = .inl (cA, N, .inr (.inr (.inr (.inr f))))) (ho : o < n) (ht : G.t[t0]? = some (cA, .object cn)) (hin : vp_in i N) (hx : f i.toNatClampNeg = some x) (k : wm_W G X nL cells slots n S g (pc + 1) L (.ref x :: rest)) : wm_W G X nL cells slots n S g pc L (.int i :: .ref (G.B + o) :: rest) := fun H locs ls h1 h2 h3 h4 => va_aldq C.1 C.2.1 C.2.2.2.2.2.1 h2 o t0 (by rw [wm_l_at ho, hm]) ht hin dd (by rw [hx]; exact k H locs ls h1 h2 h3 h4)
theorem wm_iast (C : wm_C G X cc nL Ts own d rc rs) {o N t0 : Nat} {cA : ClassId} {f : Nat → Int32} {i x : Int32} (dd : decode cc pc = .ok (.iastore, 1)) (hm : S o (g o) = .inl (cA, N, .inl f)) (ho : o < n) (ht : G.t[t0]? = some (cA, .int)) (hin : vp_in i N) (hn1 : S o (upd (g o) i.toNatClampNeg x) = .inl (cA, N, .inl (upd f i.toNatClampNeg x))) (k : wm_W G X nL cells slots n S (wm_u g o i.toNatClampNeg x) (pc + 1) L rest) : wm_W G X nL cells slots n S g pc L (.int x :: .int i :: .ref (G.B + o) :: rest) := by
  intro H locs ls h1 h2 h3 h4
  have hat := h2 o _ (wm_l_at ho)
  rw [hm] at hat
  refine W.iast C.1 C.2.1 hat ((C.2.2.2.2.2.1.2 t0 _ ht).1 N (fun j => .int (f j))) (fun q => by cases q) (by show ¬ (i < 0 ∨ (arrV _ _ _).slots.size ≤ _); rw [arrV_size]; exact hin) rfl rfl dd fun H1 a1 a2 a3 => ?_
  refine k H1 _ ls (a2.trans h1) (wm_l_put h2 (fun a _ h => by rw [wm_u_ne _ _ _ h]) a3 ?_) (h3.put a2 a3 (Nat.le_add_right _ _)) h4
  rw [wm_u_self, hn1]
  show H1[G.B + o]? = some (vp_cell _ _)
  rw [a1, vp_cell_i, vp_cell_i, arrV_store]
  congr 2
  funext q
  by_cases hq : q = i.toNatClampNeg
  · subst hq
    simp [updV, upd]
  · simp [updV, upd, hq]
theorem wm_zast (C : wm_C G X cc nL Ts own d rc rs) {o N t0 : Nat} {cA : ClassId} {f : Nat → Int32} {i x : Int32} (dd : decode cc pc = .ok (.bastore, 1)) (hm : S o (g o) = .inl (cA, N, .inl f)) (ho : o < n) (ht : G.t[t0]? = some (cA, .boolean)) (hin : vp_in i N) (hx : narrow .boolean (.int x) = .int x) (hn1 : S o (upd (g o) i.toNatClampNeg x) = .inl (cA, N, .inl (upd f i.toNatClampNeg x))) (k : wm_W G X nL cells slots n S (wm_u g o i.toNatClampNeg x) (pc + 1) L rest) : wm_W G X nL cells slots n S g pc L (.int x :: .int i :: .ref (G.B + o) :: rest) := by
  intro H locs ls h1 h2 h3 h4
  have hat := h2 o _ (wm_l_at ho)
  rw [hm] at hat
  refine W.zast C.1 C.2.1 hat ((C.2.2.2.2.2.1.2 t0 _ ht).1 N (fun j => .int (f j))) (fun q => by cases q) (by show ¬ (i < 0 ∨ (arrV _ _ _).slots.size ≤ _); rw [arrV_size]; exact hin) rfl rfl dd fun H1 a1 a2 a3 => ?_
  refine k H1 _ ls (a2.trans h1) (wm_l_put h2 (fun a _ h => by rw [wm_u_ne _ _ _ h]) a3 ?_) (h3.put a2 a3 (Nat.le_add_right _ _)) h4
  rw [wm_u_self, hn1]
  show H1[G.B + o]? = some (vp_cell _ _)
  rw [a1, vp_cell_i, vp_cell_i, arrV_store]
  congr 2
  funext q
  by_cases hq : q = i.toNatClampNeg
  · subst hq
    simp [updV, upd, hx]
  · simp [updV, upd, hq]
theorem wm_gets (C : wm_C G X cc nL Ts own d rc rs) {index : Nat} {nm : String} (i : Nat) (hi : i < 4) (dd : decode cc pc = .ok (.getstatic index, 3)) (hn : wm_Tn i = nm) (hw : Cond.fieldLink own index wm_TC nm "[I" ∈ Ts) (k : wm_W G X nL cells slots n S g (pc + 3) L (.ref (G.2.2.2 i) :: rest)) : wm_W G X nL cells slots n S g pc L rest := fun H locs ls h1 h2 h3 h4 => va_gets C.1 C.2.1 (C.2.2.2.2.2.2.2.1.1 i hi).1 h3 C.2.2.2.1 (by rw [hn]; exact C.2.2.2.2.1 _ hw) (fun _ h => h) dd (k H locs ls h1 h2 h3 h4)
theorem wm_tab (C : wm_C G X cc nL Ts own d rc rs) {x : Int32} (i : Nat) (hi : i < 4) (dd : decode cc pc = .ok (.iaload, 1)) (hin : vp_in x 9) (k : wm_W G X nL cells slots n S g (pc + 1) L (.int (fc_tab i x.toNatClampNeg) :: rest)) : wm_W G X nL cells slots n S g pc L (.int x :: .ref (G.2.2.2 i) :: rest) := fun H locs ls h1 h2 h3 h4 => va_ti C.1 C.2.1 (C.2.2.2.2.2.2.2.1.1 i hi).2 h3 hin rfl dd (k H locs ls h1 h2 h3 h4)
theorem wm_mmin (C : wm_C G X cc nL Ts own d rc rs) {index : Nat} {x y : Int32} (dd : decode cc pc = .ok (.invokestatic index, 3)) (w1 : Cond.methodLink own index Lib.Math.min.name ∈ Ts) (w2 : Cond.static Lib.Math.min.name ∈ Ts) (w3 : Cond.initialized "java/lang/Math" ∈ Ts) (w4 : Cond.code Lib.Math.min.name Lib.Math.min.code 2 (some .int) ∈ Ts) (hd : 1 ≤ d) (hr : (rest.map fun v => v.category).sum + 13 ≤ 40) (hc : cells ≤ rc) (hs : slots ≤ rs) (k : wm_W G X nL cells slots n S g (pc + 3) L (.int (if y < x then y else x) :: rest)) : wm_W G X nL cells slots n S g pc L (.int y :: .int x :: rest) := fun H locs ls h1 h2 h3 h4 => va_mmin C.1 C.2.1 (C.2.2.1.trans h4.1.symm) C.2.2.2.1 (C.2.2.2.2.1 _ w1) (C.2.2.2.2.1 _ w2) (C.2.2.2.2.1 _ w3) (C.2.2.2.2.1 _ w4) (Nat.le_trans hd C.2.2.2.2.2.2.2.2.1) (by have := C.2.2.2.2.2.2.2.2.2.1; omega) (Nat.le_trans hc C.2.2.2.2.2.2.2.2.2.2.1) (Nat.le_trans hs C.2.2.2.2.2.2.2.2.2.2.2) dd (k H locs ls h1 h2 h3 h4)
end WM
/-! contracts: at memory (n, S, g) with the arguments av the method returns, the memory is (n, S, g') then, with post -/
def wm_rm (d mc ms : Nat) : Room := { frames := d, cells := mc, slots := ms, locals := 40 * d }
def wm_B (G : wm_G) (n : Nat) (S : wm_Sh) (g : wm_Sg) (t : State) : Prop := t.heap.size = G.B + n ∧ va_P G.D vwCl (wm_l G.B n S g) t.heap
def wm_A (G : wm_G) (n : Nat) (S : wm_Sh) (g : wm_Sg) (U : State) : Prop := wm_B G n S g U ∧ va_K G.D vwCl G.t U ∧ wm_St G U U.heap
def wm_Mi (l : Launch) (G : wm_G) (y : MethodName) (ws : List Cond) (d n : Nat) (S : wm_Sh) (av : List Value) (g : wm_Sg) (post : Int32 → wm_Sg → Prop) : Prop := Met l y ws (wm_rm d 0 0) (va_Pc av (wm_A G n S g)) (va_Qi post (wm_B G n S) G.F) 0 0 G.F
def wm_Mv (l : Launch) (G : wm_G) (y : MethodName) (ws : List Cond) (d n : Nat) (S : wm_Sh) (av : List Value) (g : wm_Sg) (post : wm_Sg → Prop) : Prop := Met l y ws (wm_rm d 0 0) (va_Pc av (wm_A G n S g)) (va_Qv post (wm_B G n S) G.F) 0 0 G.F
def wm_Mr (l : Launch) (G : wm_G) (y : MethodName) (ws : List Cond) (d n : Nat) (S : wm_Sh) (av : List Value) (g : wm_Sg) (post : Nat → wm_Sg → Prop) : Prop := Met l y ws (wm_rm d 0 0) (va_Pc av (wm_A G n S g)) (va_Qr (fun _ : wm_Sg => True) (fun g' a t => wm_B G n S g' t ∧ post a g') G.F) 0 0 G.F
/-- a constructor: cells may come, shapes may change -/
def wm_MI (l : Launch) (G : wm_G) (y : MethodName) (ws : List Cond) (d mc ms n : Nat) (S : wm_Sh) (av : List Value) (g : wm_Sg) (post : Nat → wm_Sh → wm_Sg → Prop) : Prop := Met l y ws (wm_rm d mc ms) (va_Pc av (wm_A G n S g)) (va_Qv (fun u : Nat × wm_Sh × wm_Sg => post u.1 u.2.1 u.2.2) (fun u => wm_B G u.1 u.2.1 u.2.2) G.F) mc ms G.F
theorem wm_A.blind {G : wm_G} {n : Nat} {S : wm_Sh} {g : wm_Sg} {av : List Value} : FrameBlind (va_Pc av (wm_A G n S g)) := fun a U f mk h => ⟨h.1, h.2.1, va_K.moved (u := U) (U := U.calling f mk a) (Vm.Alike.refl U.vm) h.2.2.1, wm_St.same (s := U) (U := U.calling f mk a) rfl h.2.2.2⟩
theorem wm_A.pre {G : wm_G} {X : wm_X} {cc : ByteArray} {nL : Nat} {Ts : List Cond} {own : String} {d rc rs n : Nat} {S : wm_Sh} {g : wm_Sg} {H : Heap} {locs : List Loc} (C : wm_C G X cc nL Ts own d rc rs) (h1 : H.size = G.B + n) (h2 : va_P G.D vwCl (wm_l G.B n S g) H) (h3 : va_S G.F X.s.heap H locs) (U : State) (hU : U.heap = H) (hW : X.s.WarmedH U.vm) : wm_A G n S g U := by
  refine ⟨⟨by rw [hU]; exact h1, by rw [hU]; exact h2⟩, va_K.moved hW.alike C.2.2.2.2.2.1, ?_⟩
  rw [hU]
  exact (C.2.2.2.2.2.2.2.1.kept (fun a ha hA => h3.2.1 a ha hA)).warm hW

theorem wm_in_i {l : Launch} {G : wm_G} {y : MethodName} {ws ws' : List Cond} {d n : Nat} {S : wm_Sh} {av : List Value} {g : wm_Sg} {cc : ByteArray} {maxL : Nat} {post : Int32 → wm_Sg → Prop} (hy : plainName y.cls = true) (hw : ws = Cond.code y cc maxL (some .int) :: ws') (hlen : (lg_sl av).length ≤ maxL)
    (body : ∀ X : wm_X, wm_C G X cc maxL ws y.cls d 0 0 → X.l = l → (∀ (r : Int32) (g' : wm_Sg) (pc : Nat) (L : List (Nat × Value)), decode cc pc = .ok (.ireturn, 1) → post r g' → wm_W G X maxL 0 0 n S g' pc L [.int r]) → wm_W G X maxL 0 0 n S g 0 (lv_args 0 av) []) : wm_Mi l G y ws d n S av g post := by
  refine Met.ofW (cc := cc) (maxL := maxL) (ret := (some .int)) hy hw ?_
  intro p e s m args below meth c s₁ B hml hv
  obtain ⟨rfl, ⟨hsz, hP⟩, hK, hSt⟩ := hv
  have hl := lv_entry av (n := maxL) hlen
  rw [lg_entry_eq]
  have hB : G.B ≤ s.heap.size := by rw [hsz]; exact Nat.le_add_right _ _
  refine body (p, l, e, (headSpec ws (wm_rm d 0 0)).room, s, m, av.toArray, below, meth, c, MQ below (va_Qi post (wm_B G n S) G.F) av.toArray s 0 0 G.F) ⟨B.exec, B.bytes, hml, findClass_of_methodNamed B.named, atoms_spec (ws := ws) B.pre, hK, hB, hSt, Nat.le_refl _, Nat.le_refl _, Nat.le_refl _, Nat.le_refl _⟩ rfl ?_ s.heap [] _ hsz hP va_S.rf hl
  intro r g' pc L hd hp H locs ls h1 h2 h3 h4
  exact W.iret B.exec B.bytes B.returns (fun t ht hW => ⟨⟨r, g', rfl, hp, ⟨by rw [ht]; exact h1, by rw [ht]; exact h2⟩⟩, h3.F ht⟩) h3.2.2 hd B.notSynchronized
theorem wm_in_z {l : Launch} {G : wm_G} {y : MethodName} {ws ws' : List Cond} {d n : Nat} {S : wm_Sh} {av : List Value} {g : wm_Sg} {cc : ByteArray} {maxL : Nat} {post : Int32 → wm_Sg → Prop} (hy : plainName y.cls = true) (hw : ws = Cond.code y cc maxL (some .boolean) :: ws') (hlen : (lg_sl av).length ≤ maxL)
    (body : ∀ X : wm_X, wm_C G X cc maxL ws y.cls d 0 0 → X.l = l → (∀ (r : Int32) (g' : wm_Sg) (pc : Nat) (L : List (Nat × Value)), decode cc pc = .ok (.ireturn, 1) → narrow .boolean (.int r) = .int r → post r g' → wm_W G X maxL 0 0 n S g' pc L [.int r]) → wm_W G X maxL 0 0 n S g 0 (lv_args 0 av) []) : wm_Mi l G y ws d n S av g post := by
  refine Met.ofW (cc := cc) (maxL := maxL) (ret := (some .boolean)) hy hw ?_
  intro p e s m args below meth c s₁ B hml hv
  obtain ⟨rfl, ⟨hsz, hP⟩, hK, hSt⟩ := hv
  have hl := lv_entry av (n := maxL) hlen
  rw [lg_entry_eq]
  have hB : G.B ≤ s.heap.size := by rw [hsz]; exact Nat.le_add_right _ _
  refine body (p, l, e, (headSpec ws (wm_rm d 0 0)).room, s, m, av.toArray, below, meth, c, MQ below (va_Qi post (wm_B G n S) G.F) av.toArray s 0 0 G.F) ⟨B.exec, B.bytes, hml, findClass_of_methodNamed B.named, atoms_spec (ws := ws) B.pre, hK, hB, hSt, Nat.le_refl _, Nat.le_refl _, Nat.le_refl _, Nat.le_refl _⟩ rfl ?_ s.heap [] _ hsz hP va_S.rf hl
  intro r g' pc L hd hz hp H locs ls h1 h2 h3 h4
  exact W.zret B.exec B.bytes B.returns hz (fun t ht hW => ⟨⟨r, g', rfl, hp, ⟨by rw [ht]; exact h1, by rw [ht]; exact h2⟩⟩, h3.F ht⟩) h3.2.2 hd B.notSynchronized
theorem wm_in_v {l : Launch} {G : wm_G} {y : MethodName} {ws ws' : List Cond} {d n : Nat} {S : wm_Sh} {av : List Value} {g : wm_Sg} {cc : ByteArray} {maxL : Nat} {post : wm_Sg → Prop} (hy : plainName y.cls = true) (hw : ws = Cond.code y cc maxL none :: ws') (hlen : (lg_sl av).length ≤ maxL)
    (body : ∀ X : wm_X, wm_C G X cc maxL ws y.cls d 0 0 → X.l = l → (∀ (g' : wm_Sg) (pc : Nat) (L : List (Nat × Value)), decode cc pc = .ok (.return_, 1) → post g' → wm_W G X maxL 0 0 n S g' pc L []) → wm_W G X maxL 0 0 n S g 0 (lv_args 0 av) []) : wm_Mv l G y ws d n S av g post := by
  refine Met.ofW (cc := cc) (maxL := maxL) (ret := none) hy hw ?_
  intro p e s m args below meth c s₁ B hml hv
  obtain ⟨rfl, ⟨hsz, hP⟩, hK, hSt⟩ := hv
  have hl := lv_entry av (n := maxL) hlen
  rw [lg_entry_eq]
  have hB : G.B ≤ s.heap.size := by rw [hsz]; exact Nat.le_add_right _ _
  refine body (p, l, e, (headSpec ws (wm_rm d 0 0)).room, s, m, av.toArray, below, meth, c, MQ below (va_Qv post (wm_B G n S) G.F) av.toArray s 0 0 G.F) ⟨B.exec, B.bytes, hml, findClass_of_methodNamed B.named, atoms_spec (ws := ws) B.pre, hK, hB, hSt, Nat.le_refl _, Nat.le_refl _, Nat.le_refl _, Nat.le_refl _⟩ rfl ?_ s.heap [] _ hsz hP va_S.rf hl
  intro g' pc L hd hp H locs ls h1 h2 h3 h4
  exact W.vret B.exec B.bytes B.returns (fun t ht hW => ⟨⟨g', rfl, hp, ⟨by rw [ht]; exact h1, by rw [ht]; exact h2⟩⟩, h3.F ht⟩) h3.2.2 hd B.notSynchronized
theorem wm_in_r {l : Launch} {G : wm_G} {y : MethodName} {ws ws' : List Cond} {d n : Nat} {S : wm_Sh} {av : List Value} {g : wm_Sg} {cc : ByteArray} {maxL : Nat} {post : Nat → wm_Sg → Prop} {rt : FieldType} (hrt : (∃ n, rt = .object n) ∨ ∃ t, rt = .array t) (hy : plainName y.cls = true) (hw : ws = Cond.code y cc maxL (some rt) :: ws') (hlen : (lg_sl av).length ≤ maxL)
    (body : ∀ X : wm_X, wm_C G X cc maxL ws y.cls d 0 0 → X.l = l → (∀ (r : Nat) (g' : wm_Sg) (pc : Nat) (L : List (Nat × Value)), decode cc pc = .ok (.areturn, 1) → post r g' → wm_W G X maxL 0 0 n S g' pc L [.ref r]) → wm_W G X maxL 0 0 n S g 0 (lv_args 0 av) []) : wm_Mr l G y ws d n S av g post := by
  refine Met.ofW (cc := cc) (maxL := maxL) (ret := (some rt)) hy hw ?_
  intro p e s m args below meth c s₁ B hml hv
  obtain ⟨rfl, ⟨hsz, hP⟩, hK, hSt⟩ := hv
  have hl := lv_entry av (n := maxL) hlen
  rw [lg_entry_eq]
  have hB : G.B ≤ s.heap.size := by rw [hsz]; exact Nat.le_add_right _ _
  refine body (p, l, e, (headSpec ws (wm_rm d 0 0)).room, s, m, av.toArray, below, meth, c, MQ below (va_Qr (fun _ : wm_Sg => True) (fun g' a t => wm_B G n S g' t ∧ post a g') G.F) av.toArray s 0 0 G.F) ⟨B.exec, B.bytes, hml, findClass_of_methodNamed B.named, atoms_spec (ws := ws) B.pre, hK, hB, hSt, Nat.le_refl _, Nat.le_refl _, Nat.le_refl _, Nat.le_refl _⟩ rfl ?_ s.heap [] _ hsz hP va_S.rf hl
  intro r g' pc L hd hp H locs ls h1 h2 h3 h4
  exact W.aret B.exec B.bytes B.returns hrt (Or.inr ⟨r, rfl⟩) (fun t ht hW => ⟨⟨g', r, rfl, trivial, ⟨by rw [ht]; exact h1, by rw [ht]; exact h2⟩, hp⟩, h3.F ht⟩) h3.2.2 hd B.notSynchronized
theorem wm_in_I {l : Launch} {G : wm_G} {y : MethodName} {ws ws' : List Cond} {d n : Nat} {S : wm_Sh} {av : List Value} {g : wm_Sg} {cc : ByteArray} {maxL : Nat} {mc ms : Nat} {post : Nat → wm_Sh → wm_Sg → Prop} (hy : plainName y.cls = true) (hw : ws = Cond.code y cc maxL none :: ws') (hlen : (lg_sl av).length ≤ maxL)
    (body : ∀ X : wm_X, wm_C G X cc maxL ws y.cls d mc ms → X.l = l → X.y.name = y.name → (∀ (n' : Nat) (S' : wm_Sh) (g' : wm_Sg) (pc : Nat) (L : List (Nat × Value)), decode cc pc = .ok (.return_, 1) → post n' S' g' → wm_W G X maxL mc ms n' S' g' pc L []) → wm_W G X maxL 0 0 n S g 0 (lv_args 0 av) []) : wm_MI l G y ws d mc ms n S av g post := by
  refine Met.ofW (cc := cc) (maxL := maxL) (ret := none) hy hw ?_
  intro p e s m args below meth c s₁ B hml hv
  obtain ⟨rfl, ⟨hsz, hP⟩, hK, hSt⟩ := hv
  have hl := lv_entry av (n := maxL) hlen
  rw [lg_entry_eq]
  have hB : G.B ≤ s.heap.size := by rw [hsz]; exact Nat.le_add_right _ _
  refine body (p, l, e, (headSpec ws (wm_rm d mc ms)).room, s, m, av.toArray, below, meth, c, MQ below (va_Qv (fun u : Nat × wm_Sh × wm_Sg => post u.1 u.2.1 u.2.2) (fun u => wm_B G u.1 u.2.1 u.2.2) G.F) av.toArray s mc ms G.F) ⟨B.exec, B.bytes, hml, findClass_of_methodNamed B.named, atoms_spec (ws := ws) B.pre, hK, hB, hSt, Nat.le_refl _, Nat.le_refl _, Nat.le_refl _, Nat.le_refl _⟩ rfl (name_of_methodNamed B.named B.method).1 ?_ s.heap [] _ hsz hP va_S.rf hl
  intro n' S' g' pc L hd hp H locs ls h1 h2 h3 h4
  exact W.vret B.exec B.bytes B.returns (fun t ht hW => ⟨⟨(n', S', g'), rfl, hp, ⟨by rw [ht]; exact h1, by rw [ht]; exact h2⟩⟩, h3.F ht⟩) h3.2.2 hd B.notSynchronized
section WC
variable {G : wm_G} {X : wm_X} {cc : ByteArray} {nL : Nat} {Ts : List Cond} {own : String} {d rc rs : Nat} {cells slots n : Nat} {S : wm_Sh} {g : wm_Sg} {pc : Nat} {L : List (Nat × Value)} {rest st : List Value}
variable {y : MethodName} {ws ws' : List Cond} {bytes : ByteArray} {maxL dy index : Nat} {ret : Option FieldType} {As : List Value}
theorem wm_recv {ci o : Nat} {q : vw_C} (C : wm_C G X cc nL Ts own d rc rs) {H : Heap} (h2 : va_P G.D vwCl (wm_l G.B n S g) H) (ho : o < n) (hc : vwCl[ci]? = some q) (hm : ∃ fs, S o (g o) = .inr (ci, fs)) : ∃ cell : Cell, H[G.B + o]? = some cell ∧ cell.vm.isStatics = false ∧ X.s.vm.findClass q.1 = some cell.cls := by
  obtain ⟨fs, hm⟩ := hm
  exact va_recv C.2.2.2.2.2.1 h2 hc (by rw [wm_l_at ho, hm])

theorem wm_cSi (C : wm_C G X cc nL Ts own d rc rs) {post : Int32 → wm_Sg → Prop} (hM : wm_Mi X.l G y ws dy n S As g post) (gi : GoodIn Ts (va_wsS own index y ws)) (hw : ws = Cond.code y bytes maxL ret :: ws') (hd : y.cls ≠ "java/lang/invoke/MethodHandle" ∧ y.cls ≠ "java/lang/invoke/VarHandle" ∧ (parseMethodDescriptor y.desc).map (fun d => d.parameters.length) = some As.length) (hdy : dy + 1 ≤ d) (hml : maxL ≤ 21) (dd : decode cc pc = .ok (.invokestatic index, 3)) (hst : st = As.reverse ++ rest) (hr : (rest.map fun v => v.category).sum ≤ 8) (hcs : cells ≤ rc) (hss : slots ≤ rs) (k : ∀ (r : Int32) (g' : wm_Sg), post r g' → wm_W G X nL cells slots n S g' (pc + 3) L (.int r :: rest)) : wm_W G X nL cells slots n S g pc L st := by
  intro H locs ls h1 h2 h3 h4
  subst hst
  refine va_calli (va_runS (As := As) (rest := rest) ⟨C.1, C.2.1, C.2.2.1, C.2.2.2.1, C.2.2.2.2.1⟩ hM (va_cwS As.length C.2.2.2.2.1 gi hw rfl rfl hd ⟨by show dy + 1 ≤ X.R.frames; have := C.2.2.2.2.2.2.2.2.1; omega, by show 8 + (maxL + 11) + 40 * dy ≤ X.R.locals; have := C.2.2.2.2.2.2.2.2.2.1; omega⟩) ⟨wm_A.blind, fun U hU hW => ⟨rfl, wm_A.pre C h1 h2 h3 U hU hW⟩⟩ rfl rfl h4.1 rfl (lv_room hr) dd ⟨Nat.le_trans hcs C.2.2.2.2.2.2.2.2.2.2.1, Nat.le_trans hss C.2.2.2.2.2.2.2.2.2.2.2⟩) h3 (fun q _ h => h) (fun q h => h) (fun r g' t H1 locs1 ht hvm hp hB hz hk hS => k r g' hp H1 locs1 ls (by rw [← ht]; exact hB.1) (by rw [← ht]; exact hB.2) hS h4)
theorem wm_cNi (C : wm_C G X cc nL Ts own d rc rs) {post : Int32 → wm_Sg → Prop} {host : String} (hM : wm_Mi X.l G y ws dy n S As g post) (gi : GoodIn Ts ws) (hnw : Cond.methodLinkNest own index y host ∈ wm_nw) (hs1 : Cond.static y ∈ Ts) (hs2 : Cond.initialized y.cls ∈ Ts) (hw : ws = Cond.code y bytes maxL ret :: ws') (hd : y.cls ≠ "java/lang/invoke/MethodHandle" ∧ y.cls ≠ "java/lang/invoke/VarHandle" ∧ (parseMethodDescriptor y.desc).map (fun d => d.parameters.length) = some As.length) (hdy : dy + 1 ≤ d) (hml : maxL ≤ 21) (dd : decode cc pc = .ok (.invokestatic index, 3)) (hst : st = As.reverse ++ rest) (hr : (rest.map fun v => v.category).sum ≤ 8) (hcs : cells ≤ rc) (hss : slots ≤ rs) (k : ∀ (r : Int32) (g' : wm_Sg), post r g' → wm_W G X nL cells slots n S g' (pc + 3) L (.int r :: rest)) : wm_W G X nL cells slots n S g pc L st := by
  intro H locs ls h1 h2 h3 h4
  subst hst
  refine va_calli (va_runSN (As := As) (rest := rest) ⟨C.1, C.2.1, C.2.2.1, C.2.2.2.1, C.2.2.2.2.1⟩ hM ⟨va_cnB As.length C.2.2.2.2.1 gi hw rfl rfl (C.2.2.2.2.2.2.2.1.2 _ hnw) (C.2.2.2.2.1 _ hs2) hd ⟨by show dy + 1 ≤ X.R.frames; have := C.2.2.2.2.2.2.2.2.1; omega, by show 8 + (maxL + 11) + 40 * dy ≤ X.R.locals; have := C.2.2.2.2.2.2.2.2.2.1; omega⟩, C.2.2.2.2.1 _ hs1, trivial⟩ ⟨wm_A.blind, fun U hU hW => ⟨rfl, wm_A.pre C h1 h2 h3 U hU hW⟩⟩ rfl rfl h4.1 rfl (lv_room hr) dd ⟨Nat.le_trans hcs C.2.2.2.2.2.2.2.2.2.2.1, Nat.le_trans hss C.2.2.2.2.2.2.2.2.2.2.2⟩) h3 (fun q _ h => h) (fun q h => h) (fun r g' t H1 locs1 ht hvm hp hB hz hk hS => k r g' hp H1 locs1 ls (by rw [← ht]; exact hB.1) (by rw [← ht]; exact hB.2) hS h4)
theorem wm_cVi (C : wm_C G X cc nL Ts own d rc rs) {post : Int32 → wm_Sg → Prop} {o ci : Nat} {q : vw_C} (hM : wm_Mi X.l G y ws dy n S (.ref (G.B + o) :: As) g post) (gi : GoodIn Ts (wsV own index q.1 y ws)) (ho : o < n) (hc : vwCl[ci]? = some q) (hm : ∃ fs, S o (g o) = .inr (ci, fs)) (hyc : y.cls = q.1) (hw : ws = Cond.code y bytes maxL ret :: ws') (hd : y.cls ≠ "java/lang/invoke/MethodHandle" ∧ y.cls ≠ "java/lang/invoke/VarHandle" ∧ (parseMethodDescriptor y.desc).map (fun d => d.parameters.length) = some As.length) (hdy : dy + 1 ≤ d) (hml : maxL ≤ 21) (dd : decode cc pc = .ok (.invokevirtual index, 3)) (hst : st = As.reverse ++ .ref (G.B + o) :: rest) (hr : (rest.map fun v => v.category).sum ≤ 8) (hcs : cells ≤ rc) (hss : slots ≤ rs) (k : ∀ (r : Int32) (g' : wm_Sg), post r g' → wm_W G X nL cells slots n S g' (pc + 3) L (.int r :: rest)) : wm_W G X nL cells slots n S g pc L st := by
  intro H locs ls h1 h2 h3 h4
  subst hst
  refine va_calli (va_runV (As := As) (rest := rest) ⟨C.1, C.2.1, C.2.2.1, C.2.2.2.1, C.2.2.2.2.1⟩ hM (cwV As.length C.2.2.2.2.1 gi hw rfl rfl ⟨hyc, hd⟩ ⟨by show dy + 1 ≤ X.R.frames; have := C.2.2.2.2.2.2.2.2.1; omega, by show 8 + (maxL + 11) + 40 * dy ≤ X.R.locals; have := C.2.2.2.2.2.2.2.2.2.1; omega⟩) ⟨wm_A.blind, wm_recv C h2 ho hc hm, fun U hU hW => ⟨rfl, wm_A.pre C h1 h2 h3 U hU hW⟩⟩ rfl rfl h4.1 rfl (lv_room hr) dd ⟨Nat.le_trans hcs C.2.2.2.2.2.2.2.2.2.2.1, Nat.le_trans hss C.2.2.2.2.2.2.2.2.2.2.2⟩) h3 (fun q _ h => h) (fun q h => h) (fun r g' t H1 locs1 ht hvm hp hB hz hk hS => k r g' hp H1 locs1 ls (by rw [← ht]; exact hB.1) (by rw [← ht]; exact hB.2) hS h4)
theorem wm_cSv (C : wm_C G X cc nL Ts own d rc rs) {post : wm_Sg → Prop} (hM : wm_Mv X.l G y ws dy n S As g post) (gi : GoodIn Ts (va_wsS own index y ws)) (hw : ws = Cond.code y bytes maxL ret :: ws') (hd : y.cls ≠ "java/lang/invoke/MethodHandle" ∧ y.cls ≠ "java/lang/invoke/VarHandle" ∧ (parseMethodDescriptor y.desc).map (fun d => d.parameters.length) = some As.length) (hdy : dy + 1 ≤ d) (hml : maxL ≤ 21) (dd : decode cc pc = .ok (.invokestatic index, 3)) (hst : st = As.reverse ++ rest) (hr : (rest.map fun v => v.category).sum ≤ 8) (hcs : cells ≤ rc) (hss : slots ≤ rs) (k : ∀ g' : wm_Sg, post g' → wm_W G X nL cells slots n S g' (pc + 3) L rest) : wm_W G X nL cells slots n S g pc L st := by
  intro H locs ls h1 h2 h3 h4
  subst hst
  refine va_callv (va_runS (As := As) (rest := rest) ⟨C.1, C.2.1, C.2.2.1, C.2.2.2.1, C.2.2.2.2.1⟩ hM (va_cwS As.length C.2.2.2.2.1 gi hw rfl rfl hd ⟨by show dy + 1 ≤ X.R.frames; have := C.2.2.2.2.2.2.2.2.1; omega, by show 8 + (maxL + 11) + 40 * dy ≤ X.R.locals; have := C.2.2.2.2.2.2.2.2.2.1; omega⟩) ⟨wm_A.blind, fun U hU hW => ⟨rfl, wm_A.pre C h1 h2 h3 U hU hW⟩⟩ rfl rfl h4.1 rfl (lv_room hr) dd ⟨Nat.le_trans hcs C.2.2.2.2.2.2.2.2.2.2.1, Nat.le_trans hss C.2.2.2.2.2.2.2.2.2.2.2⟩) h3 (fun q _ h => h) (fun q h => h) (fun g' t H1 locs1 ht hvm hp hB hz hk hS => k g' hp H1 locs1 ls (by rw [← ht]; exact hB.1) (by rw [← ht]; exact hB.2) hS h4)
theorem wm_cNv (C : wm_C G X cc nL Ts own d rc rs) {post : wm_Sg → Prop} {host : String} (hM : wm_Mv X.l G y ws dy n S As g post) (gi : GoodIn Ts ws) (hnw : Cond.methodLinkNest own index y host ∈ wm_nw) (hs1 : Cond.static y ∈ Ts) (hs2 : Cond.initialized y.cls ∈ Ts) (hw : ws = Cond.code y bytes maxL ret :: ws') (hd : y.cls ≠ "java/lang/invoke/MethodHandle" ∧ y.cls ≠ "java/lang/invoke/VarHandle" ∧ (parseMethodDescriptor y.desc).map (fun d => d.parameters.length) = some As.length) (hdy : dy + 1 ≤ d) (hml : maxL ≤ 21) (dd : decode cc pc = .ok (.invokestatic index, 3)) (hst : st = As.reverse ++ rest) (hr : (rest.map fun v => v.category).sum ≤ 8) (hcs : cells ≤ rc) (hss : slots ≤ rs) (k : ∀ g' : wm_Sg, post g' → wm_W G X nL cells slots n S g' (pc + 3) L rest) : wm_W G X nL cells slots n S g pc L st := by
  intro H locs ls h1 h2 h3 h4
  subst hst
  refine va_callv (va_runSN (As := As) (rest := rest) ⟨C.1, C.2.1, C.2.2.1, C.2.2.2.1, C.2.2.2.2.1⟩ hM ⟨va_cnB As.length C.2.2.2.2.1 gi hw rfl rfl (C.2.2.2.2.2.2.2.1.2 _ hnw) (C.2.2.2.2.1 _ hs2) hd ⟨by show dy + 1 ≤ X.R.frames; have := C.2.2.2.2.2.2.2.2.1; omega, by show 8 + (maxL + 11) + 40 * dy ≤ X.R.locals; have := C.2.2.2.2.2.2.2.2.2.1; omega⟩, C.2.2.2.2.1 _ hs1, trivial⟩ ⟨wm_A.blind, fun U hU hW => ⟨rfl, wm_A.pre C h1 h2 h3 U hU hW⟩⟩ rfl rfl h4.1 rfl (lv_room hr) dd ⟨Nat.le_trans hcs C.2.2.2.2.2.2.2.2.2.2.1, Nat.le_trans hss C.2.2.2.2.2.2.2.2.2.2.2⟩) h3 (fun q _ h => h) (fun q h => h) (fun g' t H1 locs1 ht hvm hp hB hz hk hS => k g' hp H1 locs1 ls (by rw [← ht]; exact hB.1) (by rw [← ht]; exact hB.2) hS h4)
theorem wm_cVv (C : wm_C G X cc nL Ts own d rc rs) {post : wm_Sg → Prop} {o ci : Nat} {q : vw_C} (hM : wm_Mv X.l G y ws dy n S (.ref (G.B + o) :: As) g post) (gi : GoodIn Ts (wsV own index q.1 y ws)) (ho : o < n) (hc : vwCl[ci]? = some q) (hm : ∃ fs, S o (g o) = .inr (ci, fs)) (hyc : y.cls = q.1) (hw : ws = Cond.code y bytes maxL ret :: ws') (hd : y.cls ≠ "java/lang/invoke/MethodHandle" ∧ y.cls ≠ "java/lang/invoke/VarHandle" ∧ (parseMethodDescriptor y.desc).map (fun d => d.parameters.length) = some As.length) (hdy : dy + 1 ≤ d) (hml : maxL ≤ 21) (dd : decode cc pc = .ok (.invokevirtual index, 3)) (hst : st = As.reverse ++ .ref (G.B + o) :: rest) (hr : (rest.map fun v => v.category).sum ≤ 8) (hcs : cells ≤ rc) (hss : slots ≤ rs) (k : ∀ g' : wm_Sg, post g' → wm_W G X nL cells slots n S g' (pc + 3) L rest) : wm_W G X nL cells slots n S g pc L st := by
  intro H locs ls h1 h2 h3 h4
  subst hst
  refine va_callv (va_runV (As := As) (rest := rest) ⟨C.1, C.2.1, C.2.2.1, C.2.2.2.1, C.2.2.2.2.1⟩ hM (cwV As.length C.2.2.2.2.1 gi hw rfl rfl ⟨hyc, hd⟩ ⟨by show dy + 1 ≤ X.R.frames; have := C.2.2.2.2.2.2.2.2.1; omega, by show 8 + (maxL + 11) + 40 * dy ≤ X.R.locals; have := C.2.2.2.2.2.2.2.2.2.1; omega⟩) ⟨wm_A.blind, wm_recv C h2 ho hc hm, fun U hU hW => ⟨rfl, wm_A.pre C h1 h2 h3 U hU hW⟩⟩ rfl rfl h4.1 rfl (lv_room hr) dd ⟨Nat.le_trans hcs C.2.2.2.2.2.2.2.2.2.2.1, Nat.le_trans hss C.2.2.2.2.2.2.2.2.2.2.2⟩) h3 (fun q _ h => h) (fun q h => h) (fun g' t H1 locs1 ht hvm hp hB hz hk hS => k g' hp H1 locs1 ls (by rw [← ht]; exact hB.1) (by rw [← ht]; exact hB.2) hS h4)
theorem wm_cSr (C : wm_C G X cc nL Ts own d rc rs) {post : Nat → wm_Sg → Prop} (hM : wm_Mr X.l G y ws dy n S As g post) (gi : GoodIn Ts (va_wsS own index y ws)) (hw : ws = Cond.code y bytes maxL ret :: ws') (hd : y.cls ≠ "java/lang/invoke/MethodHandle" ∧ y.cls ≠ "java/lang/invoke/VarHandle" ∧ (parseMethodDescriptor y.desc).map (fun d => d.parameters.length) = some As.length) (hdy : dy + 1 ≤ d) (hml : maxL ≤ 21) (dd : decode cc pc = .ok (.invokestatic index, 3)) (hst : st = As.reverse ++ rest) (hr : (rest.map fun v => v.category).sum ≤ 8) (hcs : cells ≤ rc) (hss : slots ≤ rs) (k : ∀ (r : Nat) (g' : wm_Sg), post r g' → wm_W G X nL cells slots n S g' (pc + 3) L (.ref r :: rest)) : wm_W G X nL cells slots n S g pc L st := by
  intro H locs ls h1 h2 h3 h4
  subst hst
  refine va_callr (va_runS (As := As) (rest := rest) ⟨C.1, C.2.1, C.2.2.1, C.2.2.2.1, C.2.2.2.2.1⟩ hM (va_cwS As.length C.2.2.2.2.1 gi hw rfl rfl hd ⟨by show dy + 1 ≤ X.R.frames; have := C.2.2.2.2.2.2.2.2.1; omega, by show 8 + (maxL + 11) + 40 * dy ≤ X.R.locals; have := C.2.2.2.2.2.2.2.2.2.1; omega⟩) ⟨wm_A.blind, fun U hU hW => ⟨rfl, wm_A.pre C h1 h2 h3 U hU hW⟩⟩ rfl rfl h4.1 rfl (lv_room hr) dd ⟨Nat.le_trans hcs C.2.2.2.2.2.2.2.2.2.2.1, Nat.le_trans hss C.2.2.2.2.2.2.2.2.2.2.2⟩) h3 (fun q _ h => h) (fun q h => h) (fun g' r t H1 locs1 ht hvm hp hB hz hk hS => k r g' hB.2 H1 locs1 ls (by rw [← ht]; exact hB.1.1) (by rw [← ht]; exact hB.1.2) hS h4)
theorem wm_cNr (C : wm_C G X cc nL Ts own d rc rs) {post : Nat → wm_Sg → Prop} {host : String} (hM : wm_Mr X.l G y ws dy n S As g post) (gi : GoodIn Ts ws) (hnw : Cond.methodLinkNest own index y host ∈ wm_nw) (hs1 : Cond.static y ∈ Ts) (hs2 : Cond.initialized y.cls ∈ Ts) (hw : ws = Cond.code y bytes maxL ret :: ws') (hd : y.cls ≠ "java/lang/invoke/MethodHandle" ∧ y.cls ≠ "java/lang/invoke/VarHandle" ∧ (parseMethodDescriptor y.desc).map (fun d => d.parameters.length) = some As.length) (hdy : dy + 1 ≤ d) (hml : maxL ≤ 21) (dd : decode cc pc = .ok (.invokestatic index, 3)) (hst : st = As.reverse ++ rest) (hr : (rest.map fun v => v.category).sum ≤ 8) (hcs : cells ≤ rc) (hss : slots ≤ rs) (k : ∀ (r : Nat) (g' : wm_Sg), post r g' → wm_W G X nL cells slots n S g' (pc + 3) L (.ref r :: rest)) : wm_W G X nL cells slots n S g pc L st := by
  intro H locs ls h1 h2 h3 h4
  subst hst
  refine va_callr (va_runSN (As := As) (rest := rest) ⟨C.1, C.2.1, C.2.2.1, C.2.2.2.1, C.2.2.2.2.1⟩ hM ⟨va_cnB As.length C.2.2.2.2.1 gi hw rfl rfl (C.2.2.2.2.2.2.2.1.2 _ hnw) (C.2.2.2.2.1 _ hs2) hd ⟨by show dy + 1 ≤ X.R.frames; have := C.2.2.2.2.2.2.2.2.1; omega, by show 8 + (maxL + 11) + 40 * dy ≤ X.R.locals; have := C.2.2.2.2.2.2.2.2.2.1; omega⟩, C.2.2.2.2.1 _ hs1, trivial⟩ ⟨wm_A.blind, fun U hU hW => ⟨rfl, wm_A.pre C h1 h2 h3 U hU hW⟩⟩ rfl rfl h4.1 rfl (lv_room hr) dd ⟨Nat.le_trans hcs C.2.2.2.2.2.2.2.2.2.2.1, Nat.le_trans hss C.2.2.2.2.2.2.2.2.2.2.2⟩) h3 (fun q _ h => h) (fun q h => h) (fun g' r t H1 locs1 ht hvm hp hB hz hk hS => k r g' hB.2 H1 locs1 ls (by rw [← ht]; exact hB.1.1) (by rw [← ht]; exact hB.1.2) hS h4)
theorem wm_cVr (C : wm_C G X cc nL Ts own d rc rs) {post : Nat → wm_Sg → Prop} {o ci : Nat} {q : vw_C} (hM : wm_Mr X.l G y ws dy n S (.ref (G.B + o) :: As) g post) (gi : GoodIn Ts (wsV own index q.1 y ws)) (ho : o < n) (hc : vwCl[ci]? = some q) (hm : ∃ fs, S o (g o) = .inr (ci, fs)) (hyc : y.cls = q.1) (hw : ws = Cond.code y bytes maxL ret :: ws') (hd : y.cls ≠ "java/lang/invoke/MethodHandle" ∧ y.cls ≠ "java/lang/invoke/VarHandle" ∧ (parseMethodDescriptor y.desc).map (fun d => d.parameters.length) = some As.length) (hdy : dy + 1 ≤ d) (hml : maxL ≤ 21) (dd : decode cc pc = .ok (.invokevirtual index, 3)) (hst : st = As.reverse ++ .ref (G.B + o) :: rest) (hr : (rest.map fun v => v.category).sum ≤ 8) (hcs : cells ≤ rc) (hss : slots ≤ rs) (k : ∀ (r : Nat) (g' : wm_Sg), post r g' → wm_W G X nL cells slots n S g' (pc + 3) L (.ref r :: rest)) : wm_W G X nL cells slots n S g pc L st := by
  intro H locs ls h1 h2 h3 h4
  subst hst
  refine va_callr (va_runV (As := As) (rest := rest) ⟨C.1, C.2.1, C.2.2.1, C.2.2.2.1, C.2.2.2.2.1⟩ hM (cwV As.length C.2.2.2.2.1 gi hw rfl rfl ⟨hyc, hd⟩ ⟨by show dy + 1 ≤ X.R.frames; have := C.2.2.2.2.2.2.2.2.1; omega, by show 8 + (maxL + 11) + 40 * dy ≤ X.R.locals; have := C.2.2.2.2.2.2.2.2.2.1; omega⟩) ⟨wm_A.blind, wm_recv C h2 ho hc hm, fun U hU hW => ⟨rfl, wm_A.pre C h1 h2 h3 U hU hW⟩⟩ rfl rfl h4.1 rfl (lv_room hr) dd ⟨Nat.le_trans hcs C.2.2.2.2.2.2.2.2.2.2.1, Nat.le_trans hss C.2.2.2.2.2.2.2.2.2.2.2⟩) h3 (fun q _ h => h) (fun q h => h) (fun g' r t H1 locs1 ht hvm hp hB hz hk hS => k r g' hB.2 H1 locs1 ls (by rw [← ht]; exact hB.1.1) (by rw [← ht]; exact hB.1.2) hS h4)
end WC
end
section
/-! the shape of the memory: the class's object at 0 .. 185, the reference's at 186 .. 200 -/
abbrev wm_n : Nat := 201
def kd (o : Nat) : Nat :=
  if o < 37 then (if o = 0 then 0 else if o = 1 then 1 else if o = 2 then 22 else if o = 3 then 3 else if o < 28 then 2 else if o = 28 then 5 else if o = 29 then 24 else if o = 30 then 21 else if o = 31 then 4 else if o = 32 then 23 else 3)
  else if o < 181 then (if (o - 37) % 6 = 0 then 4 else if (o - 37) % 6 = 1 then 23 else 3)
  else if o = 181 then 6 else if o = 183 then 7 else if o = 186 then 8 else if o = 191 then 21 else if o < 201 then 20 else 99
def sh_n (o : Nat) : Nat := match kd o with
  | 21 => 24
  | 22 => 24
  | 23 => 4
  | 24 => 24
  | _ => if o = 182 ∨ o = 198 then 16 else if o = 184 ∨ o = 195 ∨ o = 196 ∨ o = 197 ∨ o = 199 then 4 else if o = 185 ∨ o = 200 then 40 else if o = 192 ∨ o = 193 ∨ o = 194 then 96 else 24
def sh_r (o j : Nat) : Nat := match kd o with
  | 0 => if j = 0 then 1 else if j = 1 then 28 else if j = 2 then 181 else 183
  | 1 => if j = 0 then 2 else 3
  | 4 => o + 1
  | 5 => if j = 0 then 29 else if j = 2 then 30 else 31
  | 6 => 182
  | 7 => if j = 0 then 184 else 185
  | 8 => if j = 1 then 187 else if j = 2 then 188 else if j = 3 then 189 else if j = 4 then 190 else if j = 6 then 191 else if j = 7 then 192 else if j = 8 then 193 else if j = 9 then 194 else if j = 11 then 195 else if j = 12 then 196 else if j = 13 then 197 else if j = 18 then 198 else if j = 21 then 199 else 200
  | 22 => 4 + j
  | 23 => o + 1 + j
  | 24 => 37 + 6 * j
  | _ => 0
def wm_S (G : wm_G) (o : Nat) (f : Nat → Int32) : va_E := match kd o with
  | 0 => .inr (0, [.ref (G.B + sh_r o 0), .ref (G.B + sh_r o 1), .ref (G.B + sh_r o 2), .ref (G.B + sh_r o 3)])
  | 1 => .inr (1, [.ref (G.B + sh_r o 0), .int (f 1), .ref (G.B + sh_r o 2)])
  | 2 => .inr (2, [.int (f 0), .int (f 1), .int (f 2), .int (f 3)])
  | 3 => .inr (3, [.int (f 0), .int (f 1), .int (f 2)])
  | 4 => .inr (4, [.ref (G.B + sh_r o 0), .int (f 1)])
  | 5 => .inr (5, [.ref (G.B + sh_r o 0), .int (f 1), .ref (G.B + sh_r o 2), .ref (G.B + sh_r o 3)])
  | 6 => .inr (6, [.ref (G.B + sh_r o 0), .int (f 1)])
  | 7 => .inr (7, [.ref (G.B + sh_r o 0), .ref (G.B + sh_r o 1), .int (f 2), .int (f 3), .int (f 4), .int (f 5)])
  | 8 => .inr (8, [.int (f 0), .ref (G.B + sh_r o 1), .ref (G.B + sh_r o 2), .ref (G.B + sh_r o 3), .ref (G.B + sh_r o 4), .int (f 5), .ref (G.B + sh_r o 6), .ref (G.B + sh_r o 7), .ref (G.B + sh_r o 8), .ref (G.B + sh_r o 9), .int (f 10), .ref (G.B + sh_r o 11), .ref (G.B + sh_r o 12), .ref (G.B + sh_r o 13), .int (f 14), .int (f 15), .int (f 16), .int (f 17), .ref (G.B + sh_r o 18), .int (f 19), .int (f 20), .ref (G.B + sh_r o 21), .int (f 22), .ref (G.B + sh_r o 23), .int (f 24)])
  | 20 => .inl (G.2.1 0, sh_n o, .inl f)
  | 21 => .inl (G.2.1 1, sh_n o, .inl f)
  | 22 => .inl (G.2.1 2, sh_n o, .inr (.inr (.inr (.inr (fun j => some (G.B + sh_r o j))))))
  | 23 => .inl (G.2.1 3, sh_n o, .inr (.inr (.inr (.inr (fun j => some (G.B + sh_r o j))))))
  | 24 => .inl (G.2.1 4, sh_n o, .inr (.inr (.inr (.inr (fun j => some (G.B + sh_r o j))))))
  | _ => .inl (G.2.1 0, 0, .inl f)
theorem kd_lt {o : Nat} (h : kd o ≠ 99) : o < wm_n := by
  show o < 201
  apply Decidable.byContradiction
  intro q
  apply h
  unfold kd
  rw [if_neg (by omega), if_neg (by omega), if_neg (by omega), if_neg (by omega), if_neg (by omega), if_neg (by omega), if_neg (by omega)]
theorem wm_S_0 {G : wm_G} {o : Nat} (hk : kd o = 0) (f : Nat → Int32) : wm_S G o f = .inr (0, [.ref (G.B + sh_r o 0), .ref (G.B + sh_r o 1), .ref (G.B + sh_r o 2), .ref (G.B + sh_r o 3)]) := by
  unfold wm_S
  rw [hk] <;> rfl
theorem wm_S_1 {G : wm_G} {o : Nat} (hk : kd o = 1) (f : Nat → Int32) : wm_S G o f = .inr (1, [.ref (G.B + sh_r o 0), .int (f 1), .ref (G.B + sh_r o 2)]) := by
  unfold wm_S
  rw [hk] <;> rfl
theorem wm_S_2 {G : wm_G} {o : Nat} (hk : kd o = 2) (f : Nat → Int32) : wm_S G o f = .inr (2, [.int (f 0), .int (f 1), .int (f 2), .int (f 3)]) := by
  unfold wm_S
  rw [hk] <;> rfl
theorem wm_S_3 {G : wm_G} {o : Nat} (hk : kd o = 3) (f : Nat → Int32) : wm_S G o f = .inr (3, [.int (f 0), .int (f 1), .int (f 2)]) := by
  unfold wm_S
  rw [hk] <;> rfl
theorem wm_S_4 {G : wm_G} {o : Nat} (hk : kd o = 4) (f : Nat → Int32) : wm_S G o f = .inr (4, [.ref (G.B + sh_r o 0), .int (f 1)]) := by
  unfold wm_S
  rw [hk] <;> rfl
theorem wm_S_5 {G : wm_G} {o : Nat} (hk : kd o = 5) (f : Nat → Int32) : wm_S G o f = .inr (5, [.ref (G.B + sh_r o 0), .int (f 1), .ref (G.B + sh_r o 2), .ref (G.B + sh_r o 3)]) := by
  unfold wm_S
  rw [hk] <;> rfl
theorem wm_S_6 {G : wm_G} {o : Nat} (hk : kd o = 6) (f : Nat → Int32) : wm_S G o f = .inr (6, [.ref (G.B + sh_r o 0), .int (f 1)]) := by
  unfold wm_S
  rw [hk] <;> rfl
theorem wm_S_7 {G : wm_G} {o : Nat} (hk : kd o = 7) (f : Nat → Int32) : wm_S G o f = .inr (7, [.ref (G.B + sh_r o 0), .ref (G.B + sh_r o 1), .int (f 2), .int (f 3), .int (f 4), .int (f 5)]) := by
  unfold wm_S
  rw [hk] <;> rfl
theorem wm_S_8 {G : wm_G} {o : Nat} (hk : kd o = 8) (f : Nat → Int32) : wm_S G o f = .inr (8, [.int (f 0), .ref (G.B + sh_r o 1), .ref (G.B + sh_r o 2), .ref (G.B + sh_r o 3), .ref (G.B + sh_r o 4), .int (f 5), .ref (G.B + sh_r o 6), .ref (G.B + sh_r o 7), .ref (G.B + sh_r o 8), .ref (G.B + sh_r o 9), .int (f 10), .ref (G.B + sh_r o 11), .ref (G.B + sh_r o 12), .ref (G.B + sh_r o 13), .int (f 14), .int (f 15), .int (f 16), .int (f 17), .ref (G.B + sh_r o 18), .int (f 19), .int (f 20), .ref (G.B + sh_r o 21), .int (f 22), .ref (G.B + sh_r o 23), .int (f 24)]) := by
  unfold wm_S
  rw [hk] <;> rfl
theorem wm_S_i {G : wm_G} {o : Nat} (hk : kd o = 20) (f : Nat → Int32) : wm_S G o f = .inl (G.2.1 0, sh_n o, .inl f) := by
  unfold wm_S
  rw [hk] <;> rfl
theorem wm_S_z {G : wm_G} {o : Nat} (hk : kd o = 21) (f : Nat → Int32) : wm_S G o f = .inl (G.2.1 1, sh_n o, .inl f) := by
  unfold wm_S
  rw [hk] <;> rfl
theorem wm_S_22 {G : wm_G} {o : Nat} (hk : kd o = 22) (f : Nat → Int32) : wm_S G o f = .inl (G.2.1 2, sh_n o, .inr (.inr (.inr (.inr (fun j => some (G.B + sh_r o j)))))) := by
  unfold wm_S
  rw [hk] <;> rfl
theorem wm_S_23 {G : wm_G} {o : Nat} (hk : kd o = 23) (f : Nat → Int32) : wm_S G o f = .inl (G.2.1 3, sh_n o, .inr (.inr (.inr (.inr (fun j => some (G.B + sh_r o j)))))) := by
  unfold wm_S
  rw [hk] <;> rfl
theorem wm_S_24 {G : wm_G} {o : Nat} (hk : kd o = 24) (f : Nat → Int32) : wm_S G o f = .inl (G.2.1 4, sh_n o, .inr (.inr (.inr (.inr (fun j => some (G.B + sh_r o j)))))) := by
  unfold wm_S
  rw [hk] <;> rfl
theorem kr_0_0 {o : Nat} (h : kd o = 0) : kd (sh_r o 0) = 1 := (by decide +kernel : ∀ o, o < 201 → kd o = 0 → kd (sh_r o 0) = 1) o (kd_lt (by rw [h]; decide)) h
theorem kr_0_1 {o : Nat} (h : kd o = 0) : kd (sh_r o 1) = 5 := (by decide +kernel : ∀ o, o < 201 → kd o = 0 → kd (sh_r o 1) = 5) o (kd_lt (by rw [h]; decide)) h
theorem kr_0_2 {o : Nat} (h : kd o = 0) : kd (sh_r o 2) = 6 := (by decide +kernel : ∀ o, o < 201 → kd o = 0 → kd (sh_r o 2) = 6) o (kd_lt (by rw [h]; decide)) h
theorem kr_0_3 {o : Nat} (h : kd o = 0) : kd (sh_r o 3) = 7 := (by decide +kernel : ∀ o, o < 201 → kd o = 0 → kd (sh_r o 3) = 7) o (kd_lt (by rw [h]; decide)) h
theorem kr_1_0 {o : Nat} (h : kd o = 1) : kd (sh_r o 0) = 22 := (by decide +kernel : ∀ o, o < 201 → kd o = 1 → kd (sh_r o 0) = 22) o (kd_lt (by rw [h]; decide)) h
theorem kr_1_2 {o : Nat} (h : kd o = 1) : kd (sh_r o 2) = 3 := (by decide +kernel : ∀ o, o < 201 → kd o = 1 → kd (sh_r o 2) = 3) o (kd_lt (by rw [h]; decide)) h
theorem kr_4_0 {o : Nat} (h : kd o = 4) : kd (sh_r o 0) = 23 := (by decide +kernel : ∀ o, o < 201 → kd o = 4 → kd (sh_r o 0) = 23) o (kd_lt (by rw [h]; decide)) h
theorem kr_5_0 {o : Nat} (h : kd o = 5) : kd (sh_r o 0) = 24 := (by decide +kernel : ∀ o, o < 201 → kd o = 5 → kd (sh_r o 0) = 24) o (kd_lt (by rw [h]; decide)) h
theorem kr_5_2 {o : Nat} (h : kd o = 5) : kd (sh_r o 2) = 21 := (by decide +kernel : ∀ o, o < 201 → kd o = 5 → kd (sh_r o 2) = 21) o (kd_lt (by rw [h]; decide)) h
theorem kr_5_3 {o : Nat} (h : kd o = 5) : kd (sh_r o 3) = 4 := (by decide +kernel : ∀ o, o < 201 → kd o = 5 → kd (sh_r o 3) = 4) o (kd_lt (by rw [h]; decide)) h
theorem kr_6_0 {o : Nat} (h : kd o = 6) : kd (sh_r o 0) = 20 := (by decide +kernel : ∀ o, o < 201 → kd o = 6 → kd (sh_r o 0) = 20) o (kd_lt (by rw [h]; decide)) h
theorem kr_7_0 {o : Nat} (h : kd o = 7) : kd (sh_r o 0) = 20 := (by decide +kernel : ∀ o, o < 201 → kd o = 7 → kd (sh_r o 0) = 20) o (kd_lt (by rw [h]; decide)) h
theorem kr_7_1 {o : Nat} (h : kd o = 7) : kd (sh_r o 1) = 20 := (by decide +kernel : ∀ o, o < 201 → kd o = 7 → kd (sh_r o 1) = 20) o (kd_lt (by rw [h]; decide)) h
theorem kr_8_1 {o : Nat} (h : kd o = 8) : kd (sh_r o 1) = 20 := (by decide +kernel : ∀ o, o < 201 → kd o = 8 → kd (sh_r o 1) = 20) o (kd_lt (by rw [h]; decide)) h
theorem kr_8_2 {o : Nat} (h : kd o = 8) : kd (sh_r o 2) = 20 := (by decide +kernel : ∀ o, o < 201 → kd o = 8 → kd (sh_r o 2) = 20) o (kd_lt (by rw [h]; decide)) h
theorem kr_8_3 {o : Nat} (h : kd o = 8) : kd (sh_r o 3) = 20 := (by decide +kernel : ∀ o, o < 201 → kd o = 8 → kd (sh_r o 3) = 20) o (kd_lt (by rw [h]; decide)) h
theorem kr_8_4 {o : Nat} (h : kd o = 8) : kd (sh_r o 4) = 20 := (by decide +kernel : ∀ o, o < 201 → kd o = 8 → kd (sh_r o 4) = 20) o (kd_lt (by rw [h]; decide)) h
theorem kr_8_6 {o : Nat} (h : kd o = 8) : kd (sh_r o 6) = 21 := (by decide +kernel : ∀ o, o < 201 → kd o = 8 → kd (sh_r o 6) = 21) o (kd_lt (by rw [h]; decide)) h
theorem kr_8_7 {o : Nat} (h : kd o = 8) : kd (sh_r o 7) = 20 := (by decide +kernel : ∀ o, o < 201 → kd o = 8 → kd (sh_r o 7) = 20) o (kd_lt (by rw [h]; decide)) h
theorem kr_8_8 {o : Nat} (h : kd o = 8) : kd (sh_r o 8) = 20 := (by decide +kernel : ∀ o, o < 201 → kd o = 8 → kd (sh_r o 8) = 20) o (kd_lt (by rw [h]; decide)) h
theorem kr_8_9 {o : Nat} (h : kd o = 8) : kd (sh_r o 9) = 20 := (by decide +kernel : ∀ o, o < 201 → kd o = 8 → kd (sh_r o 9) = 20) o (kd_lt (by rw [h]; decide)) h
theorem kr_8_11 {o : Nat} (h : kd o = 8) : kd (sh_r o 11) = 20 := (by decide +kernel : ∀ o, o < 201 → kd o = 8 → kd (sh_r o 11) = 20) o (kd_lt (by rw [h]; decide)) h
theorem kr_8_12 {o : Nat} (h : kd o = 8) : kd (sh_r o 12) = 20 := (by decide +kernel : ∀ o, o < 201 → kd o = 8 → kd (sh_r o 12) = 20) o (kd_lt (by rw [h]; decide)) h
theorem kr_8_13 {o : Nat} (h : kd o = 8) : kd (sh_r o 13) = 20 := (by decide +kernel : ∀ o, o < 201 → kd o = 8 → kd (sh_r o 13) = 20) o (kd_lt (by rw [h]; decide)) h
theorem kr_8_18 {o : Nat} (h : kd o = 8) : kd (sh_r o 18) = 20 := (by decide +kernel : ∀ o, o < 201 → kd o = 8 → kd (sh_r o 18) = 20) o (kd_lt (by rw [h]; decide)) h
theorem kr_8_21 {o : Nat} (h : kd o = 8) : kd (sh_r o 21) = 20 := (by decide +kernel : ∀ o, o < 201 → kd o = 8 → kd (sh_r o 21) = 20) o (kd_lt (by rw [h]; decide)) h
theorem kr_8_23 {o : Nat} (h : kd o = 8) : kd (sh_r o 23) = 20 := (by decide +kernel : ∀ o, o < 201 → kd o = 8 → kd (sh_r o 23) = 20) o (kd_lt (by rw [h]; decide)) h
theorem kr_22 {o : Nat} {i : Int32} (h : kd o = 22) (q : ¬ (i < 0 ∨ sh_n o ≤ i.toNatClampNeg)) : kd (sh_r o i.toNatClampNeg) = 2 := (by decide +kernel : ∀ o, o < 201 → kd o = 22 → ∀ j, j < 24 → kd (sh_r o j) = 2) o (kd_lt (by rw [h]; decide)) h _ (by
  have e : sh_n o = 24 := by unfold sh_n; rw [h] <;> rfl
  rw [e] at q
  omega)
theorem kr_23 {o : Nat} {i : Int32} (h : kd o = 23) (q : ¬ (i < 0 ∨ sh_n o ≤ i.toNatClampNeg)) : kd (sh_r o i.toNatClampNeg) = 3 := (by decide +kernel : ∀ o, o < 201 → kd o = 23 → ∀ j, j < 4 → kd (sh_r o j) = 3) o (kd_lt (by rw [h]; decide)) h _ (by
  have e : sh_n o = 4 := by unfold sh_n; rw [h] <;> rfl
  rw [e] at q
  omega)
theorem kr_24 {o : Nat} {i : Int32} (h : kd o = 24) (q : ¬ (i < 0 ∨ sh_n o ≤ i.toNatClampNeg)) : kd (sh_r o i.toNatClampNeg) = 4 := (by decide +kernel : ∀ o, o < 201 → kd o = 24 → ∀ j, j < 24 → kd (sh_r o j) = 4) o (kd_lt (by rw [h]; decide)) h _ (by
  have e : sh_n o = 24 := by unfold sh_n; rw [h] <;> rfl
  rw [e] at q
  omega)
theorem wk_nar0 {x : Int32} (h : x = 0 ∨ x = 1) : narrow .boolean (.int x) = .int x := by
  rcases h with rfl | rfl <;> rfl
theorem wk_fit0 {x : Int32} (h : x = 0 ∨ x = 1) : fits .boolean (.int x) = true := by
  rcases h with rfl | rfl <;> rfl
section SH
variable {G : wm_G} {X : wm_X} {cc : ByteArray} {nL : Nat} {Ts : List Cond} {own : String} {d rc rs : Nat} {cells slots : Nat} {g : wm_Sg} {pc : Nat} {L : List (Nat × Value)} {rest : List Value} {o index : Nat}
theorem gt_0_0 (C : wm_C G X cc nL Ts own d rc rs) (hk : kd o = 0) (hin : ∀ w ∈ u_ws Rn_0 Tn_0 4, w ∈ Ts) (hw : Cond.fieldLink own index "FactFlow" "program" "LFactFlow$Program;" ∈ Ts) (dd : decode cc pc = .ok (.getfield index, 3)) (kk : wm_W G X nL cells slots wm_n (wm_S G) g (pc + 3) L (.ref (G.B + sh_r o 0) :: rest)) : wm_W G X nL cells slots wm_n (wm_S G) g pc L (.ref (G.B + o) :: rest) := wm_get C 0 dd (wm_S_0 hk (g o)) (kd_lt (by rw [hk]; decide)) (show vwCl[0]? = some (Rn_0, Tn_0, 4) from rfl) hin (by decide) hw rfl kk
theorem gt_0_1 (C : wm_C G X cc nL Ts own d rc rs) (hk : kd o = 0) (hin : ∀ w ∈ u_ws Rn_0 Tn_0 4, w ∈ Ts) (hw : Cond.fieldLink own index "FactFlow" "solution" "LFactFlow$Solution;" ∈ Ts) (dd : decode cc pc = .ok (.getfield index, 3)) (kk : wm_W G X nL cells slots wm_n (wm_S G) g (pc + 3) L (.ref (G.B + sh_r o 1) :: rest)) : wm_W G X nL cells slots wm_n (wm_S G) g pc L (.ref (G.B + o) :: rest) := wm_get C 1 dd (wm_S_0 hk (g o)) (kd_lt (by rw [hk]; decide)) (show vwCl[0]? = some (Rn_0, Tn_0, 4) from rfl) hin (by decide) hw rfl kk
theorem gt_0_2 (C : wm_C G X cc nL Ts own d rc rs) (hk : kd o = 0) (hin : ∀ w ∈ u_ws Rn_0 Tn_0 4, w ∈ Ts) (hw : Cond.fieldLink own index "FactFlow" "inputs" "LFactFlow$Inputs;" ∈ Ts) (dd : decode cc pc = .ok (.getfield index, 3)) (kk : wm_W G X nL cells slots wm_n (wm_S G) g (pc + 3) L (.ref (G.B + sh_r o 2) :: rest)) : wm_W G X nL cells slots wm_n (wm_S G) g pc L (.ref (G.B + o) :: rest) := wm_get C 2 dd (wm_S_0 hk (g o)) (kd_lt (by rw [hk]; decide)) (show vwCl[0]? = some (Rn_0, Tn_0, 4) from rfl) hin (by decide) hw rfl kk
theorem gt_0_3 (C : wm_C G X cc nL Ts own d rc rs) (hk : kd o = 0) (hin : ∀ w ∈ u_ws Rn_0 Tn_0 4, w ∈ Ts) (hw : Cond.fieldLink own index "FactFlow" "machine" "LFactFlow$Machine;" ∈ Ts) (dd : decode cc pc = .ok (.getfield index, 3)) (kk : wm_W G X nL cells slots wm_n (wm_S G) g (pc + 3) L (.ref (G.B + sh_r o 3) :: rest)) : wm_W G X nL cells slots wm_n (wm_S G) g pc L (.ref (G.B + o) :: rest) := wm_get C 3 dd (wm_S_0 hk (g o)) (kd_lt (by rw [hk]; decide)) (show vwCl[0]? = some (Rn_0, Tn_0, 4) from rfl) hin (by decide) hw rfl kk
theorem gt_1_0 (C : wm_C G X cc nL Ts own d rc rs) (hk : kd o = 1) (hin : ∀ w ∈ u_ws Rn_1 Tn_1 3, w ∈ Ts) (hw : Cond.fieldLink own index "FactFlow$Program" "instructions" "[LFactFlow$Instruction;" ∈ Ts) (dd : decode cc pc = .ok (.getfield index, 3)) (kk : wm_W G X nL cells slots wm_n (wm_S G) g (pc + 3) L (.ref (G.B + sh_r o 0) :: rest)) : wm_W G X nL cells slots wm_n (wm_S G) g pc L (.ref (G.B + o) :: rest) := wm_get C 0 dd (wm_S_1 hk (g o)) (kd_lt (by rw [hk]; decide)) (show vwCl[1]? = some (Rn_1, Tn_1, 3) from rfl) hin (by decide) hw rfl kk
theorem gt_1_1 (C : wm_C G X cc nL Ts own d rc rs) (hk : kd o = 1) (hin : ∀ w ∈ u_ws Rn_1 Tn_1 3, w ∈ Ts) (hw : Cond.fieldLink own index "FactFlow$Program" "count" "I" ∈ Ts) (dd : decode cc pc = .ok (.getfield index, 3)) (kk : wm_W G X nL cells slots wm_n (wm_S G) g (pc + 3) L (.int (g o 1) :: rest)) : wm_W G X nL cells slots wm_n (wm_S G) g pc L (.ref (G.B + o) :: rest) := wm_get C 1 dd (wm_S_1 hk (g o)) (kd_lt (by rw [hk]; decide)) (show vwCl[1]? = some (Rn_1, Tn_1, 3) from rfl) hin (by decide) hw rfl kk
theorem pt_1_1 (C : wm_C G X cc nL Ts own d rc rs) {x : Int32} (hk : kd o = 1) (hin : ∀ w ∈ u_ws Rn_1 Tn_1 3, w ∈ Ts) (hw : Cond.fieldLink own index "FactFlow$Program" "count" "I" ∈ Ts) (dd : decode cc pc = .ok (.putfield index, 3)) (kk : wm_W G X nL cells slots wm_n (wm_S G) (wm_u g o 1 x) (pc + 3) L rest) : wm_W G X nL cells slots wm_n (wm_S G) g pc L (.int x :: .ref (G.B + o) :: rest) := wm_puti C (ty := .int) 1 tn_1 tk_1 nn_1 dd (wm_S_1 hk (g o)) (kd_lt (by rw [hk]; decide)) (show vwCl[1]? = some (Rn_1, Tn_1, 3) from rfl) hin (by decide) hw rfl (by decide +kernel) rfl rfl (Nat.le_of_ble_eq_true rfl) (wm_S_1 hk _) kk
theorem gt_1_2 (C : wm_C G X cc nL Ts own d rc rs) (hk : kd o = 1) (hin : ∀ w ∈ u_ws Rn_1 Tn_1 3, w ∈ Ts) (hw : Cond.fieldLink own index "FactFlow$Program" "result" "LFactFlow$Fact;" ∈ Ts) (dd : decode cc pc = .ok (.getfield index, 3)) (kk : wm_W G X nL cells slots wm_n (wm_S G) g (pc + 3) L (.ref (G.B + sh_r o 2) :: rest)) : wm_W G X nL cells slots wm_n (wm_S G) g pc L (.ref (G.B + o) :: rest) := wm_get C 2 dd (wm_S_1 hk (g o)) (kd_lt (by rw [hk]; decide)) (show vwCl[1]? = some (Rn_1, Tn_1, 3) from rfl) hin (by decide) hw rfl kk
theorem gt_2_0 (C : wm_C G X cc nL Ts own d rc rs) (hk : kd o = 2) (hin : ∀ w ∈ u_ws Rn_2 Tn_2 4, w ∈ Ts) (hw : Cond.fieldLink own index "FactFlow$Instruction" "operation" "I" ∈ Ts) (dd : decode cc pc = .ok (.getfield index, 3)) (kk : wm_W G X nL cells slots wm_n (wm_S G) g (pc + 3) L (.int (g o 0) :: rest)) : wm_W G X nL cells slots wm_n (wm_S G) g pc L (.ref (G.B + o) :: rest) := wm_get C 0 dd (wm_S_2 hk (g o)) (kd_lt (by rw [hk]; decide)) (show vwCl[2]? = some (Rn_2, Tn_2, 4) from rfl) hin (by decide) hw rfl kk
theorem pt_2_0 (C : wm_C G X cc nL Ts own d rc rs) {x : Int32} (hk : kd o = 2) (hin : ∀ w ∈ u_ws Rn_2 Tn_2 4, w ∈ Ts) (hw : Cond.fieldLink own index "FactFlow$Instruction" "operation" "I" ∈ Ts) (dd : decode cc pc = .ok (.putfield index, 3)) (kk : wm_W G X nL cells slots wm_n (wm_S G) (wm_u g o 0 x) (pc + 3) L rest) : wm_W G X nL cells slots wm_n (wm_S G) g pc L (.int x :: .ref (G.B + o) :: rest) := wm_puti C (ty := .int) 0 tn_2 tk_2 nn_2 dd (wm_S_2 hk (g o)) (kd_lt (by rw [hk]; decide)) (show vwCl[2]? = some (Rn_2, Tn_2, 4) from rfl) hin (by decide) hw rfl (by decide +kernel) rfl rfl (Nat.le_of_ble_eq_true rfl) (wm_S_2 hk _) kk
theorem gt_2_1 (C : wm_C G X cc nL Ts own d rc rs) (hk : kd o = 2) (hin : ∀ w ∈ u_ws Rn_2 Tn_2 4, w ∈ Ts) (hw : Cond.fieldLink own index "FactFlow$Instruction" "a" "I" ∈ Ts) (dd : decode cc pc = .ok (.getfield index, 3)) (kk : wm_W G X nL cells slots wm_n (wm_S G) g (pc + 3) L (.int (g o 1) :: rest)) : wm_W G X nL cells slots wm_n (wm_S G) g pc L (.ref (G.B + o) :: rest) := wm_get C 1 dd (wm_S_2 hk (g o)) (kd_lt (by rw [hk]; decide)) (show vwCl[2]? = some (Rn_2, Tn_2, 4) from rfl) hin (by decide) hw rfl kk
theorem pt_2_1 (C : wm_C G X cc nL Ts own d rc rs) {x : Int32} (hk : kd o = 2) (hin : ∀ w ∈ u_ws Rn_2 Tn_2 4, w ∈ Ts) (hw : Cond.fieldLink own index "FactFlow$Instruction" "a" "I" ∈ Ts) (dd : decode cc pc = .ok (.putfield index, 3)) (kk : wm_W G X nL cells slots wm_n (wm_S G) (wm_u g o 1 x) (pc + 3) L rest) : wm_W G X nL cells slots wm_n (wm_S G) g pc L (.int x :: .ref (G.B + o) :: rest) := wm_puti C (ty := .int) 1 tn_2 tk_2 nn_2 dd (wm_S_2 hk (g o)) (kd_lt (by rw [hk]; decide)) (show vwCl[2]? = some (Rn_2, Tn_2, 4) from rfl) hin (by decide) hw rfl (by decide +kernel) rfl rfl (Nat.le_of_ble_eq_true rfl) (wm_S_2 hk _) kk
theorem gt_2_2 (C : wm_C G X cc nL Ts own d rc rs) (hk : kd o = 2) (hin : ∀ w ∈ u_ws Rn_2 Tn_2 4, w ∈ Ts) (hw : Cond.fieldLink own index "FactFlow$Instruction" "b" "I" ∈ Ts) (dd : decode cc pc = .ok (.getfield index, 3)) (kk : wm_W G X nL cells slots wm_n (wm_S G) g (pc + 3) L (.int (g o 2) :: rest)) : wm_W G X nL cells slots wm_n (wm_S G) g pc L (.ref (G.B + o) :: rest) := wm_get C 2 dd (wm_S_2 hk (g o)) (kd_lt (by rw [hk]; decide)) (show vwCl[2]? = some (Rn_2, Tn_2, 4) from rfl) hin (by decide) hw rfl kk
theorem pt_2_2 (C : wm_C G X cc nL Ts own d rc rs) {x : Int32} (hk : kd o = 2) (hin : ∀ w ∈ u_ws Rn_2 Tn_2 4, w ∈ Ts) (hw : Cond.fieldLink own index "FactFlow$Instruction" "b" "I" ∈ Ts) (dd : decode cc pc = .ok (.putfield index, 3)) (kk : wm_W G X nL cells slots wm_n (wm_S G) (wm_u g o 2 x) (pc + 3) L rest) : wm_W G X nL cells slots wm_n (wm_S G) g pc L (.int x :: .ref (G.B + o) :: rest) := wm_puti C (ty := .int) 2 tn_2 tk_2 nn_2 dd (wm_S_2 hk (g o)) (kd_lt (by rw [hk]; decide)) (show vwCl[2]? = some (Rn_2, Tn_2, 4) from rfl) hin (by decide) hw rfl (by decide +kernel) rfl rfl (Nat.le_of_ble_eq_true rfl) (wm_S_2 hk _) kk
theorem gt_2_3 (C : wm_C G X cc nL Ts own d rc rs) (hk : kd o = 2) (hin : ∀ w ∈ u_ws Rn_2 Tn_2 4, w ∈ Ts) (hw : Cond.fieldLink own index "FactFlow$Instruction" "c" "I" ∈ Ts) (dd : decode cc pc = .ok (.getfield index, 3)) (kk : wm_W G X nL cells slots wm_n (wm_S G) g (pc + 3) L (.int (g o 3) :: rest)) : wm_W G X nL cells slots wm_n (wm_S G) g pc L (.ref (G.B + o) :: rest) := wm_get C 3 dd (wm_S_2 hk (g o)) (kd_lt (by rw [hk]; decide)) (show vwCl[2]? = some (Rn_2, Tn_2, 4) from rfl) hin (by decide) hw rfl kk
theorem pt_2_3 (C : wm_C G X cc nL Ts own d rc rs) {x : Int32} (hk : kd o = 2) (hin : ∀ w ∈ u_ws Rn_2 Tn_2 4, w ∈ Ts) (hw : Cond.fieldLink own index "FactFlow$Instruction" "c" "I" ∈ Ts) (dd : decode cc pc = .ok (.putfield index, 3)) (kk : wm_W G X nL cells slots wm_n (wm_S G) (wm_u g o 3 x) (pc + 3) L rest) : wm_W G X nL cells slots wm_n (wm_S G) g pc L (.int x :: .ref (G.B + o) :: rest) := wm_puti C (ty := .int) 3 tn_2 tk_2 nn_2 dd (wm_S_2 hk (g o)) (kd_lt (by rw [hk]; decide)) (show vwCl[2]? = some (Rn_2, Tn_2, 4) from rfl) hin (by decide) hw rfl (by decide +kernel) rfl rfl (Nat.le_of_ble_eq_true rfl) (wm_S_2 hk _) kk
theorem gt_3_0 (C : wm_C G X cc nL Ts own d rc rs) (hk : kd o = 3) (hin : ∀ w ∈ u_ws Rn_3 Tn_3 3, w ∈ Ts) (hw : Cond.fieldLink own index "FactFlow$Fact" "bits" "I" ∈ Ts) (dd : decode cc pc = .ok (.getfield index, 3)) (kk : wm_W G X nL cells slots wm_n (wm_S G) g (pc + 3) L (.int (g o 0) :: rest)) : wm_W G X nL cells slots wm_n (wm_S G) g pc L (.ref (G.B + o) :: rest) := wm_get C 0 dd (wm_S_3 hk (g o)) (kd_lt (by rw [hk]; decide)) (show vwCl[3]? = some (Rn_3, Tn_3, 3) from rfl) hin (by decide) hw rfl kk
theorem pt_3_0 (C : wm_C G X cc nL Ts own d rc rs) {x : Int32} (hk : kd o = 3) (hin : ∀ w ∈ u_ws Rn_3 Tn_3 3, w ∈ Ts) (hw : Cond.fieldLink own index "FactFlow$Fact" "bits" "I" ∈ Ts) (dd : decode cc pc = .ok (.putfield index, 3)) (kk : wm_W G X nL cells slots wm_n (wm_S G) (wm_u g o 0 x) (pc + 3) L rest) : wm_W G X nL cells slots wm_n (wm_S G) g pc L (.int x :: .ref (G.B + o) :: rest) := wm_puti C (ty := .int) 0 tn_3 tk_3 nn_3 dd (wm_S_3 hk (g o)) (kd_lt (by rw [hk]; decide)) (show vwCl[3]? = some (Rn_3, Tn_3, 3) from rfl) hin (by decide) hw rfl (by decide +kernel) rfl rfl (Nat.le_of_ble_eq_true rfl) (wm_S_3 hk _) kk
theorem gt_3_1 (C : wm_C G X cc nL Ts own d rc rs) (hk : kd o = 3) (hin : ∀ w ∈ u_ws Rn_3 Tn_3 3, w ∈ Ts) (hw : Cond.fieldLink own index "FactFlow$Fact" "rest" "I" ∈ Ts) (dd : decode cc pc = .ok (.getfield index, 3)) (kk : wm_W G X nL cells slots wm_n (wm_S G) g (pc + 3) L (.int (g o 1) :: rest)) : wm_W G X nL cells slots wm_n (wm_S G) g pc L (.ref (G.B + o) :: rest) := wm_get C 1 dd (wm_S_3 hk (g o)) (kd_lt (by rw [hk]; decide)) (show vwCl[3]? = some (Rn_3, Tn_3, 3) from rfl) hin (by decide) hw rfl kk
theorem pt_3_1 (C : wm_C G X cc nL Ts own d rc rs) {x : Int32} (hk : kd o = 3) (hin : ∀ w ∈ u_ws Rn_3 Tn_3 3, w ∈ Ts) (hw : Cond.fieldLink own index "FactFlow$Fact" "rest" "I" ∈ Ts) (dd : decode cc pc = .ok (.putfield index, 3)) (kk : wm_W G X nL cells slots wm_n (wm_S G) (wm_u g o 1 x) (pc + 3) L rest) : wm_W G X nL cells slots wm_n (wm_S G) g pc L (.int x :: .ref (G.B + o) :: rest) := wm_puti C (ty := .int) 1 tn_3 tk_3 nn_3 dd (wm_S_3 hk (g o)) (kd_lt (by rw [hk]; decide)) (show vwCl[3]? = some (Rn_3, Tn_3, 3) from rfl) hin (by decide) hw rfl (by decide +kernel) rfl rfl (Nat.le_of_ble_eq_true rfl) (wm_S_3 hk _) kk
theorem gt_3_2 (C : wm_C G X cc nL Ts own d rc rs) (hk : kd o = 3) (hin : ∀ w ∈ u_ws Rn_3 Tn_3 3, w ∈ Ts) (hw : Cond.fieldLink own index "FactFlow$Fact" "signs" "I" ∈ Ts) (dd : decode cc pc = .ok (.getfield index, 3)) (kk : wm_W G X nL cells slots wm_n (wm_S G) g (pc + 3) L (.int (g o 2) :: rest)) : wm_W G X nL cells slots wm_n (wm_S G) g pc L (.ref (G.B + o) :: rest) := wm_get C 2 dd (wm_S_3 hk (g o)) (kd_lt (by rw [hk]; decide)) (show vwCl[3]? = some (Rn_3, Tn_3, 3) from rfl) hin (by decide) hw rfl kk
theorem pt_3_2 (C : wm_C G X cc nL Ts own d rc rs) {x : Int32} (hk : kd o = 3) (hin : ∀ w ∈ u_ws Rn_3 Tn_3 3, w ∈ Ts) (hw : Cond.fieldLink own index "FactFlow$Fact" "signs" "I" ∈ Ts) (dd : decode cc pc = .ok (.putfield index, 3)) (kk : wm_W G X nL cells slots wm_n (wm_S G) (wm_u g o 2 x) (pc + 3) L rest) : wm_W G X nL cells slots wm_n (wm_S G) g pc L (.int x :: .ref (G.B + o) :: rest) := wm_puti C (ty := .int) 2 tn_3 tk_3 nn_3 dd (wm_S_3 hk (g o)) (kd_lt (by rw [hk]; decide)) (show vwCl[3]? = some (Rn_3, Tn_3, 3) from rfl) hin (by decide) hw rfl (by decide +kernel) rfl rfl (Nat.le_of_ble_eq_true rfl) (wm_S_3 hk _) kk
theorem gt_4_0 (C : wm_C G X cc nL Ts own d rc rs) (hk : kd o = 4) (hin : ∀ w ∈ u_ws Rn_4 Tn_4 2, w ∈ Ts) (hw : Cond.fieldLink own index "FactFlow$State" "facts" "[LFactFlow$Fact;" ∈ Ts) (dd : decode cc pc = .ok (.getfield index, 3)) (kk : wm_W G X nL cells slots wm_n (wm_S G) g (pc + 3) L (.ref (G.B + sh_r o 0) :: rest)) : wm_W G X nL cells slots wm_n (wm_S G) g pc L (.ref (G.B + o) :: rest) := wm_get C 0 dd (wm_S_4 hk (g o)) (kd_lt (by rw [hk]; decide)) (show vwCl[4]? = some (Rn_4, Tn_4, 2) from rfl) hin (by decide) hw rfl kk
theorem gt_4_1 (C : wm_C G X cc nL Ts own d rc rs) (hk : kd o = 4) (hin : ∀ w ∈ u_ws Rn_4 Tn_4 2, w ∈ Ts) (hw : Cond.fieldLink own index "FactFlow$State" "none" "Z" ∈ Ts) (dd : decode cc pc = .ok (.getfield index, 3)) (kk : wm_W G X nL cells slots wm_n (wm_S G) g (pc + 3) L (.int (g o 1) :: rest)) : wm_W G X nL cells slots wm_n (wm_S G) g pc L (.ref (G.B + o) :: rest) := wm_get C 1 dd (wm_S_4 hk (g o)) (kd_lt (by rw [hk]; decide)) (show vwCl[4]? = some (Rn_4, Tn_4, 2) from rfl) hin (by decide) hw rfl kk
theorem pt_4_1 (C : wm_C G X cc nL Ts own d rc rs) {x : Int32} (hk : kd o = 4) (hx : x = 0 ∨ x = 1) (hin : ∀ w ∈ u_ws Rn_4 Tn_4 2, w ∈ Ts) (hw : Cond.fieldLink own index "FactFlow$State" "none" "Z" ∈ Ts) (dd : decode cc pc = .ok (.putfield index, 3)) (kk : wm_W G X nL cells slots wm_n (wm_S G) (wm_u g o 1 x) (pc + 3) L rest) : wm_W G X nL cells slots wm_n (wm_S G) g pc L (.int x :: .ref (G.B + o) :: rest) := wm_puti C (ty := .boolean) 1 tn_4 tk_4 nn_4 dd (wm_S_4 hk (g o)) (kd_lt (by rw [hk]; decide)) (show vwCl[4]? = some (Rn_4, Tn_4, 2) from rfl) hin (by decide) hw rfl (by decide +kernel) (wk_nar0 hx) (wk_fit0 hx) (Nat.le_of_ble_eq_true rfl) (wm_S_4 hk _) kk
theorem gt_5_0 (C : wm_C G X cc nL Ts own d rc rs) (hk : kd o = 5) (hin : ∀ w ∈ u_ws Rn_5 Tn_5 4, w ∈ Ts) (hw : Cond.fieldLink own index "FactFlow$Solution" "states" "[LFactFlow$State;" ∈ Ts) (dd : decode cc pc = .ok (.getfield index, 3)) (kk : wm_W G X nL cells slots wm_n (wm_S G) g (pc + 3) L (.ref (G.B + sh_r o 0) :: rest)) : wm_W G X nL cells slots wm_n (wm_S G) g pc L (.ref (G.B + o) :: rest) := wm_get C 0 dd (wm_S_5 hk (g o)) (kd_lt (by rw [hk]; decide)) (show vwCl[5]? = some (Rn_5, Tn_5, 4) from rfl) hin (by decide) hw rfl kk
theorem gt_5_1 (C : wm_C G X cc nL Ts own d rc rs) (hk : kd o = 5) (hin : ∀ w ∈ u_ws Rn_5 Tn_5 4, w ∈ Ts) (hw : Cond.fieldLink own index "FactFlow$Solution" "found" "Z" ∈ Ts) (dd : decode cc pc = .ok (.getfield index, 3)) (kk : wm_W G X nL cells slots wm_n (wm_S G) g (pc + 3) L (.int (g o 1) :: rest)) : wm_W G X nL cells slots wm_n (wm_S G) g pc L (.ref (G.B + o) :: rest) := wm_get C 1 dd (wm_S_5 hk (g o)) (kd_lt (by rw [hk]; decide)) (show vwCl[5]? = some (Rn_5, Tn_5, 4) from rfl) hin (by decide) hw rfl kk
theorem pt_5_1 (C : wm_C G X cc nL Ts own d rc rs) {x : Int32} (hk : kd o = 5) (hx : x = 0 ∨ x = 1) (hin : ∀ w ∈ u_ws Rn_5 Tn_5 4, w ∈ Ts) (hw : Cond.fieldLink own index "FactFlow$Solution" "found" "Z" ∈ Ts) (dd : decode cc pc = .ok (.putfield index, 3)) (kk : wm_W G X nL cells slots wm_n (wm_S G) (wm_u g o 1 x) (pc + 3) L rest) : wm_W G X nL cells slots wm_n (wm_S G) g pc L (.int x :: .ref (G.B + o) :: rest) := wm_puti C (ty := .boolean) 1 tn_5 tk_5 nn_5 dd (wm_S_5 hk (g o)) (kd_lt (by rw [hk]; decide)) (show vwCl[5]? = some (Rn_5, Tn_5, 4) from rfl) hin (by decide) hw rfl (by decide +kernel) (wk_nar0 hx) (wk_fit0 hx) (Nat.le_of_ble_eq_true rfl) (wm_S_5 hk _) kk
theorem gt_5_2 (C : wm_C G X cc nL Ts own d rc rs) (hk : kd o = 5) (hin : ∀ w ∈ u_ws Rn_5 Tn_5 4, w ∈ Ts) (hw : Cond.fieldLink own index "FactFlow$Solution" "waiting" "[Z" ∈ Ts) (dd : decode cc pc = .ok (.getfield index, 3)) (kk : wm_W G X nL cells slots wm_n (wm_S G) g (pc + 3) L (.ref (G.B + sh_r o 2) :: rest)) : wm_W G X nL cells slots wm_n (wm_S G) g pc L (.ref (G.B + o) :: rest) := wm_get C 2 dd (wm_S_5 hk (g o)) (kd_lt (by rw [hk]; decide)) (show vwCl[5]? = some (Rn_5, Tn_5, 4) from rfl) hin (by decide) hw rfl kk
theorem gt_5_3 (C : wm_C G X cc nL Ts own d rc rs) (hk : kd o = 5) (hin : ∀ w ∈ u_ws Rn_5 Tn_5 4, w ∈ Ts) (hw : Cond.fieldLink own index "FactFlow$Solution" "coming" "LFactFlow$State;" ∈ Ts) (dd : decode cc pc = .ok (.getfield index, 3)) (kk : wm_W G X nL cells slots wm_n (wm_S G) g (pc + 3) L (.ref (G.B + sh_r o 3) :: rest)) : wm_W G X nL cells slots wm_n (wm_S G) g pc L (.ref (G.B + o) :: rest) := wm_get C 3 dd (wm_S_5 hk (g o)) (kd_lt (by rw [hk]; decide)) (show vwCl[5]? = some (Rn_5, Tn_5, 4) from rfl) hin (by decide) hw rfl kk
theorem gt_6_0 (C : wm_C G X cc nL Ts own d rc rs) (hk : kd o = 6) (hin : ∀ w ∈ u_ws Rn_6 Tn_6 2, w ∈ Ts) (hw : Cond.fieldLink own index "FactFlow$Inputs" "numbers" "[I" ∈ Ts) (dd : decode cc pc = .ok (.getfield index, 3)) (kk : wm_W G X nL cells slots wm_n (wm_S G) g (pc + 3) L (.ref (G.B + sh_r o 0) :: rest)) : wm_W G X nL cells slots wm_n (wm_S G) g pc L (.ref (G.B + o) :: rest) := wm_get C 0 dd (wm_S_6 hk (g o)) (kd_lt (by rw [hk]; decide)) (show vwCl[6]? = some (Rn_6, Tn_6, 2) from rfl) hin (by decide) hw rfl kk
theorem gt_6_1 (C : wm_C G X cc nL Ts own d rc rs) (hk : kd o = 6) (hin : ∀ w ∈ u_ws Rn_6 Tn_6 2, w ∈ Ts) (hw : Cond.fieldLink own index "FactFlow$Inputs" "count" "I" ∈ Ts) (dd : decode cc pc = .ok (.getfield index, 3)) (kk : wm_W G X nL cells slots wm_n (wm_S G) g (pc + 3) L (.int (g o 1) :: rest)) : wm_W G X nL cells slots wm_n (wm_S G) g pc L (.ref (G.B + o) :: rest) := wm_get C 1 dd (wm_S_6 hk (g o)) (kd_lt (by rw [hk]; decide)) (show vwCl[6]? = some (Rn_6, Tn_6, 2) from rfl) hin (by decide) hw rfl kk
theorem pt_6_1 (C : wm_C G X cc nL Ts own d rc rs) {x : Int32} (hk : kd o = 6) (hin : ∀ w ∈ u_ws Rn_6 Tn_6 2, w ∈ Ts) (hw : Cond.fieldLink own index "FactFlow$Inputs" "count" "I" ∈ Ts) (dd : decode cc pc = .ok (.putfield index, 3)) (kk : wm_W G X nL cells slots wm_n (wm_S G) (wm_u g o 1 x) (pc + 3) L rest) : wm_W G X nL cells slots wm_n (wm_S G) g pc L (.int x :: .ref (G.B + o) :: rest) := wm_puti C (ty := .int) 1 tn_6 tk_6 nn_6 dd (wm_S_6 hk (g o)) (kd_lt (by rw [hk]; decide)) (show vwCl[6]? = some (Rn_6, Tn_6, 2) from rfl) hin (by decide) hw rfl (by decide +kernel) rfl rfl (Nat.le_of_ble_eq_true rfl) (wm_S_6 hk _) kk
theorem gt_7_0 (C : wm_C G X cc nL Ts own d rc rs) (hk : kd o = 7) (hin : ∀ w ∈ u_ws Rn_7 Tn_7 6, w ∈ Ts) (hw : Cond.fieldLink own index "FactFlow$Machine" "variables" "[I" ∈ Ts) (dd : decode cc pc = .ok (.getfield index, 3)) (kk : wm_W G X nL cells slots wm_n (wm_S G) g (pc + 3) L (.ref (G.B + sh_r o 0) :: rest)) : wm_W G X nL cells slots wm_n (wm_S G) g pc L (.ref (G.B + o) :: rest) := wm_get C 0 dd (wm_S_7 hk (g o)) (kd_lt (by rw [hk]; decide)) (show vwCl[7]? = some (Rn_7, Tn_7, 6) from rfl) hin (by decide) hw rfl kk
theorem gt_7_1 (C : wm_C G X cc nL Ts own d rc rs) (hk : kd o = 7) (hin : ∀ w ∈ u_ws Rn_7 Tn_7 6, w ∈ Ts) (hw : Cond.fieldLink own index "FactFlow$Machine" "prints" "[I" ∈ Ts) (dd : decode cc pc = .ok (.getfield index, 3)) (kk : wm_W G X nL cells slots wm_n (wm_S G) g (pc + 3) L (.ref (G.B + sh_r o 1) :: rest)) : wm_W G X nL cells slots wm_n (wm_S G) g pc L (.ref (G.B + o) :: rest) := wm_get C 1 dd (wm_S_7 hk (g o)) (kd_lt (by rw [hk]; decide)) (show vwCl[7]? = some (Rn_7, Tn_7, 6) from rfl) hin (by decide) hw rfl kk
theorem gt_7_2 (C : wm_C G X cc nL Ts own d rc rs) (hk : kd o = 7) (hin : ∀ w ∈ u_ws Rn_7 Tn_7 6, w ∈ Ts) (hw : Cond.fieldLink own index "FactFlow$Machine" "printed" "I" ∈ Ts) (dd : decode cc pc = .ok (.getfield index, 3)) (kk : wm_W G X nL cells slots wm_n (wm_S G) g (pc + 3) L (.int (g o 2) :: rest)) : wm_W G X nL cells slots wm_n (wm_S G) g pc L (.ref (G.B + o) :: rest) := wm_get C 2 dd (wm_S_7 hk (g o)) (kd_lt (by rw [hk]; decide)) (show vwCl[7]? = some (Rn_7, Tn_7, 6) from rfl) hin (by decide) hw rfl kk
theorem pt_7_2 (C : wm_C G X cc nL Ts own d rc rs) {x : Int32} (hk : kd o = 7) (hin : ∀ w ∈ u_ws Rn_7 Tn_7 6, w ∈ Ts) (hw : Cond.fieldLink own index "FactFlow$Machine" "printed" "I" ∈ Ts) (dd : decode cc pc = .ok (.putfield index, 3)) (kk : wm_W G X nL cells slots wm_n (wm_S G) (wm_u g o 2 x) (pc + 3) L rest) : wm_W G X nL cells slots wm_n (wm_S G) g pc L (.int x :: .ref (G.B + o) :: rest) := wm_puti C (ty := .int) 2 tn_7 tk_7 nn_7 dd (wm_S_7 hk (g o)) (kd_lt (by rw [hk]; decide)) (show vwCl[7]? = some (Rn_7, Tn_7, 6) from rfl) hin (by decide) hw rfl (by decide +kernel) rfl rfl (Nat.le_of_ble_eq_true rfl) (wm_S_7 hk _) kk
theorem gt_7_3 (C : wm_C G X cc nL Ts own d rc rs) (hk : kd o = 7) (hin : ∀ w ∈ u_ws Rn_7 Tn_7 6, w ∈ Ts) (hw : Cond.fieldLink own index "FactFlow$Machine" "done" "I" ∈ Ts) (dd : decode cc pc = .ok (.getfield index, 3)) (kk : wm_W G X nL cells slots wm_n (wm_S G) g (pc + 3) L (.int (g o 3) :: rest)) : wm_W G X nL cells slots wm_n (wm_S G) g pc L (.ref (G.B + o) :: rest) := wm_get C 3 dd (wm_S_7 hk (g o)) (kd_lt (by rw [hk]; decide)) (show vwCl[7]? = some (Rn_7, Tn_7, 6) from rfl) hin (by decide) hw rfl kk
theorem pt_7_3 (C : wm_C G X cc nL Ts own d rc rs) {x : Int32} (hk : kd o = 7) (hin : ∀ w ∈ u_ws Rn_7 Tn_7 6, w ∈ Ts) (hw : Cond.fieldLink own index "FactFlow$Machine" "done" "I" ∈ Ts) (dd : decode cc pc = .ok (.putfield index, 3)) (kk : wm_W G X nL cells slots wm_n (wm_S G) (wm_u g o 3 x) (pc + 3) L rest) : wm_W G X nL cells slots wm_n (wm_S G) g pc L (.int x :: .ref (G.B + o) :: rest) := wm_puti C (ty := .int) 3 tn_7 tk_7 nn_7 dd (wm_S_7 hk (g o)) (kd_lt (by rw [hk]; decide)) (show vwCl[7]? = some (Rn_7, Tn_7, 6) from rfl) hin (by decide) hw rfl (by decide +kernel) rfl rfl (Nat.le_of_ble_eq_true rfl) (wm_S_7 hk _) kk
theorem gt_7_4 (C : wm_C G X cc nL Ts own d rc rs) (hk : kd o = 7) (hin : ∀ w ∈ u_ws Rn_7 Tn_7 6, w ∈ Ts) (hw : Cond.fieldLink own index "FactFlow$Machine" "following" "I" ∈ Ts) (dd : decode cc pc = .ok (.getfield index, 3)) (kk : wm_W G X nL cells slots wm_n (wm_S G) g (pc + 3) L (.int (g o 4) :: rest)) : wm_W G X nL cells slots wm_n (wm_S G) g pc L (.ref (G.B + o) :: rest) := wm_get C 4 dd (wm_S_7 hk (g o)) (kd_lt (by rw [hk]; decide)) (show vwCl[7]? = some (Rn_7, Tn_7, 6) from rfl) hin (by decide) hw rfl kk
theorem pt_7_4 (C : wm_C G X cc nL Ts own d rc rs) {x : Int32} (hk : kd o = 7) (hin : ∀ w ∈ u_ws Rn_7 Tn_7 6, w ∈ Ts) (hw : Cond.fieldLink own index "FactFlow$Machine" "following" "I" ∈ Ts) (dd : decode cc pc = .ok (.putfield index, 3)) (kk : wm_W G X nL cells slots wm_n (wm_S G) (wm_u g o 4 x) (pc + 3) L rest) : wm_W G X nL cells slots wm_n (wm_S G) g pc L (.int x :: .ref (G.B + o) :: rest) := wm_puti C (ty := .int) 4 tn_7 tk_7 nn_7 dd (wm_S_7 hk (g o)) (kd_lt (by rw [hk]; decide)) (show vwCl[7]? = some (Rn_7, Tn_7, 6) from rfl) hin (by decide) hw rfl (by decide +kernel) rfl rfl (Nat.le_of_ble_eq_true rfl) (wm_S_7 hk _) kk
theorem gt_7_5 (C : wm_C G X cc nL Ts own d rc rs) (hk : kd o = 7) (hin : ∀ w ∈ u_ws Rn_7 Tn_7 6, w ∈ Ts) (hw : Cond.fieldLink own index "FactFlow$Machine" "taken" "I" ∈ Ts) (dd : decode cc pc = .ok (.getfield index, 3)) (kk : wm_W G X nL cells slots wm_n (wm_S G) g (pc + 3) L (.int (g o 5) :: rest)) : wm_W G X nL cells slots wm_n (wm_S G) g pc L (.ref (G.B + o) :: rest) := wm_get C 5 dd (wm_S_7 hk (g o)) (kd_lt (by rw [hk]; decide)) (show vwCl[7]? = some (Rn_7, Tn_7, 6) from rfl) hin (by decide) hw rfl kk
theorem pt_7_5 (C : wm_C G X cc nL Ts own d rc rs) {x : Int32} (hk : kd o = 7) (hin : ∀ w ∈ u_ws Rn_7 Tn_7 6, w ∈ Ts) (hw : Cond.fieldLink own index "FactFlow$Machine" "taken" "I" ∈ Ts) (dd : decode cc pc = .ok (.putfield index, 3)) (kk : wm_W G X nL cells slots wm_n (wm_S G) (wm_u g o 5 x) (pc + 3) L rest) : wm_W G X nL cells slots wm_n (wm_S G) g pc L (.int x :: .ref (G.B + o) :: rest) := wm_puti C (ty := .int) 5 tn_7 tk_7 nn_7 dd (wm_S_7 hk (g o)) (kd_lt (by rw [hk]; decide)) (show vwCl[7]? = some (Rn_7, Tn_7, 6) from rfl) hin (by decide) hw rfl (by decide +kernel) rfl rfl (Nat.le_of_ble_eq_true rfl) (wm_S_7 hk _) kk
theorem gt_8_0 (C : wm_C G X cc nL Ts own d rc rs) (hk : kd o = 8) (hin : ∀ w ∈ u_ws Rn_8 Tn_8 25, w ∈ Ts) (hw : Cond.fieldLink own index "FactFlowModel" "many" "I" ∈ Ts) (dd : decode cc pc = .ok (.getfield index, 3)) (kk : wm_W G X nL cells slots wm_n (wm_S G) g (pc + 3) L (.int (g o 0) :: rest)) : wm_W G X nL cells slots wm_n (wm_S G) g pc L (.ref (G.B + o) :: rest) := wm_get C 0 dd (wm_S_8 hk (g o)) (kd_lt (by rw [hk]; decide)) (show vwCl[8]? = some (Rn_8, Tn_8, 25) from rfl) hin (by decide) hw rfl kk
theorem pt_8_0 (C : wm_C G X cc nL Ts own d rc rs) {x : Int32} (hk : kd o = 8) (hin : ∀ w ∈ u_ws Rn_8 Tn_8 25, w ∈ Ts) (hw : Cond.fieldLink own index "FactFlowModel" "many" "I" ∈ Ts) (dd : decode cc pc = .ok (.putfield index, 3)) (kk : wm_W G X nL cells slots wm_n (wm_S G) (wm_u g o 0 x) (pc + 3) L rest) : wm_W G X nL cells slots wm_n (wm_S G) g pc L (.int x :: .ref (G.B + o) :: rest) := wm_puti C (ty := .int) 0 tn_8 tk_8 nn_8 dd (wm_S_8 hk (g o)) (kd_lt (by rw [hk]; decide)) (show vwCl[8]? = some (Rn_8, Tn_8, 25) from rfl) hin (by decide) hw rfl (by decide +kernel) rfl rfl (Nat.le_of_ble_eq_true rfl) (wm_S_8 hk _) kk
theorem gt_8_1 (C : wm_C G X cc nL Ts own d rc rs) (hk : kd o = 8) (hin : ∀ w ∈ u_ws Rn_8 Tn_8 25, w ∈ Ts) (hw : Cond.fieldLink own index "FactFlowModel" "op" "[I" ∈ Ts) (dd : decode cc pc = .ok (.getfield index, 3)) (kk : wm_W G X nL cells slots wm_n (wm_S G) g (pc + 3) L (.ref (G.B + sh_r o 1) :: rest)) : wm_W G X nL cells slots wm_n (wm_S G) g pc L (.ref (G.B + o) :: rest) := wm_get C 1 dd (wm_S_8 hk (g o)) (kd_lt (by rw [hk]; decide)) (show vwCl[8]? = some (Rn_8, Tn_8, 25) from rfl) hin (by decide) hw rfl kk
theorem gt_8_2 (C : wm_C G X cc nL Ts own d rc rs) (hk : kd o = 8) (hin : ∀ w ∈ u_ws Rn_8 Tn_8 25, w ∈ Ts) (hw : Cond.fieldLink own index "FactFlowModel" "first" "[I" ∈ Ts) (dd : decode cc pc = .ok (.getfield index, 3)) (kk : wm_W G X nL cells slots wm_n (wm_S G) g (pc + 3) L (.ref (G.B + sh_r o 2) :: rest)) : wm_W G X nL cells slots wm_n (wm_S G) g pc L (.ref (G.B + o) :: rest) := wm_get C 2 dd (wm_S_8 hk (g o)) (kd_lt (by rw [hk]; decide)) (show vwCl[8]? = some (Rn_8, Tn_8, 25) from rfl) hin (by decide) hw rfl kk
theorem gt_8_3 (C : wm_C G X cc nL Ts own d rc rs) (hk : kd o = 8) (hin : ∀ w ∈ u_ws Rn_8 Tn_8 25, w ∈ Ts) (hw : Cond.fieldLink own index "FactFlowModel" "second" "[I" ∈ Ts) (dd : decode cc pc = .ok (.getfield index, 3)) (kk : wm_W G X nL cells slots wm_n (wm_S G) g (pc + 3) L (.ref (G.B + sh_r o 3) :: rest)) : wm_W G X nL cells slots wm_n (wm_S G) g pc L (.ref (G.B + o) :: rest) := wm_get C 3 dd (wm_S_8 hk (g o)) (kd_lt (by rw [hk]; decide)) (show vwCl[8]? = some (Rn_8, Tn_8, 25) from rfl) hin (by decide) hw rfl kk
theorem gt_8_4 (C : wm_C G X cc nL Ts own d rc rs) (hk : kd o = 8) (hin : ∀ w ∈ u_ws Rn_8 Tn_8 25, w ∈ Ts) (hw : Cond.fieldLink own index "FactFlowModel" "third" "[I" ∈ Ts) (dd : decode cc pc = .ok (.getfield index, 3)) (kk : wm_W G X nL cells slots wm_n (wm_S G) g (pc + 3) L (.ref (G.B + sh_r o 4) :: rest)) : wm_W G X nL cells slots wm_n (wm_S G) g pc L (.ref (G.B + o) :: rest) := wm_get C 4 dd (wm_S_8 hk (g o)) (kd_lt (by rw [hk]; decide)) (show vwCl[8]? = some (Rn_8, Tn_8, 25) from rfl) hin (by decide) hw rfl kk
theorem gt_8_5 (C : wm_C G X cc nL Ts own d rc rs) (hk : kd o = 8) (hin : ∀ w ∈ u_ws Rn_8 Tn_8 25, w ∈ Ts) (hw : Cond.fieldLink own index "FactFlowModel" "known" "Z" ∈ Ts) (dd : decode cc pc = .ok (.getfield index, 3)) (kk : wm_W G X nL cells slots wm_n (wm_S G) g (pc + 3) L (.int (g o 5) :: rest)) : wm_W G X nL cells slots wm_n (wm_S G) g pc L (.ref (G.B + o) :: rest) := wm_get C 5 dd (wm_S_8 hk (g o)) (kd_lt (by rw [hk]; decide)) (show vwCl[8]? = some (Rn_8, Tn_8, 25) from rfl) hin (by decide) hw rfl kk
theorem pt_8_5 (C : wm_C G X cc nL Ts own d rc rs) {x : Int32} (hk : kd o = 8) (hx : x = 0 ∨ x = 1) (hin : ∀ w ∈ u_ws Rn_8 Tn_8 25, w ∈ Ts) (hw : Cond.fieldLink own index "FactFlowModel" "known" "Z" ∈ Ts) (dd : decode cc pc = .ok (.putfield index, 3)) (kk : wm_W G X nL cells slots wm_n (wm_S G) (wm_u g o 5 x) (pc + 3) L rest) : wm_W G X nL cells slots wm_n (wm_S G) g pc L (.int x :: .ref (G.B + o) :: rest) := wm_puti C (ty := .boolean) 5 tn_8 tk_8 nn_8 dd (wm_S_8 hk (g o)) (kd_lt (by rw [hk]; decide)) (show vwCl[8]? = some (Rn_8, Tn_8, 25) from rfl) hin (by decide) hw rfl (by decide +kernel) (wk_nar0 hx) (wk_fit0 hx) (Nat.le_of_ble_eq_true rfl) (wm_S_8 hk _) kk
theorem gt_8_6 (C : wm_C G X cc nL Ts own d rc rs) (hk : kd o = 8) (hin : ∀ w ∈ u_ws Rn_8 Tn_8 25, w ∈ Ts) (hw : Cond.fieldLink own index "FactFlowModel" "live" "[Z" ∈ Ts) (dd : decode cc pc = .ok (.getfield index, 3)) (kk : wm_W G X nL cells slots wm_n (wm_S G) g (pc + 3) L (.ref (G.B + sh_r o 6) :: rest)) : wm_W G X nL cells slots wm_n (wm_S G) g pc L (.ref (G.B + o) :: rest) := wm_get C 6 dd (wm_S_8 hk (g o)) (kd_lt (by rw [hk]; decide)) (show vwCl[8]? = some (Rn_8, Tn_8, 25) from rfl) hin (by decide) hw rfl kk
theorem gt_8_7 (C : wm_C G X cc nL Ts own d rc rs) (hk : kd o = 8) (hin : ∀ w ∈ u_ws Rn_8 Tn_8 25, w ∈ Ts) (hw : Cond.fieldLink own index "FactFlowModel" "bitsOf" "[I" ∈ Ts) (dd : decode cc pc = .ok (.getfield index, 3)) (kk : wm_W G X nL cells slots wm_n (wm_S G) g (pc + 3) L (.ref (G.B + sh_r o 7) :: rest)) : wm_W G X nL cells slots wm_n (wm_S G) g pc L (.ref (G.B + o) :: rest) := wm_get C 7 dd (wm_S_8 hk (g o)) (kd_lt (by rw [hk]; decide)) (show vwCl[8]? = some (Rn_8, Tn_8, 25) from rfl) hin (by decide) hw rfl kk
theorem gt_8_8 (C : wm_C G X cc nL Ts own d rc rs) (hk : kd o = 8) (hin : ∀ w ∈ u_ws Rn_8 Tn_8 25, w ∈ Ts) (hw : Cond.fieldLink own index "FactFlowModel" "restOf" "[I" ∈ Ts) (dd : decode cc pc = .ok (.getfield index, 3)) (kk : wm_W G X nL cells slots wm_n (wm_S G) g (pc + 3) L (.ref (G.B + sh_r o 8) :: rest)) : wm_W G X nL cells slots wm_n (wm_S G) g pc L (.ref (G.B + o) :: rest) := wm_get C 8 dd (wm_S_8 hk (g o)) (kd_lt (by rw [hk]; decide)) (show vwCl[8]? = some (Rn_8, Tn_8, 25) from rfl) hin (by decide) hw rfl kk
theorem gt_8_9 (C : wm_C G X cc nL Ts own d rc rs) (hk : kd o = 8) (hin : ∀ w ∈ u_ws Rn_8 Tn_8 25, w ∈ Ts) (hw : Cond.fieldLink own index "FactFlowModel" "signsOf" "[I" ∈ Ts) (dd : decode cc pc = .ok (.getfield index, 3)) (kk : wm_W G X nL cells slots wm_n (wm_S G) g (pc + 3) L (.ref (G.B + sh_r o 9) :: rest)) : wm_W G X nL cells slots wm_n (wm_S G) g pc L (.ref (G.B + o) :: rest) := wm_get C 9 dd (wm_S_8 hk (g o)) (kd_lt (by rw [hk]; decide)) (show vwCl[8]? = some (Rn_8, Tn_8, 25) from rfl) hin (by decide) hw rfl kk
theorem gt_8_10 (C : wm_C G X cc nL Ts own d rc rs) (hk : kd o = 8) (hin : ∀ w ∈ u_ws Rn_8 Tn_8 25, w ∈ Ts) (hw : Cond.fieldLink own index "FactFlowModel" "grown" "Z" ∈ Ts) (dd : decode cc pc = .ok (.getfield index, 3)) (kk : wm_W G X nL cells slots wm_n (wm_S G) g (pc + 3) L (.int (g o 10) :: rest)) : wm_W G X nL cells slots wm_n (wm_S G) g pc L (.ref (G.B + o) :: rest) := wm_get C 10 dd (wm_S_8 hk (g o)) (kd_lt (by rw [hk]; decide)) (show vwCl[8]? = some (Rn_8, Tn_8, 25) from rfl) hin (by decide) hw rfl kk
theorem pt_8_10 (C : wm_C G X cc nL Ts own d rc rs) {x : Int32} (hk : kd o = 8) (hx : x = 0 ∨ x = 1) (hin : ∀ w ∈ u_ws Rn_8 Tn_8 25, w ∈ Ts) (hw : Cond.fieldLink own index "FactFlowModel" "grown" "Z" ∈ Ts) (dd : decode cc pc = .ok (.putfield index, 3)) (kk : wm_W G X nL cells slots wm_n (wm_S G) (wm_u g o 10 x) (pc + 3) L rest) : wm_W G X nL cells slots wm_n (wm_S G) g pc L (.int x :: .ref (G.B + o) :: rest) := wm_puti C (ty := .boolean) 10 tn_8 tk_8 nn_8 dd (wm_S_8 hk (g o)) (kd_lt (by rw [hk]; decide)) (show vwCl[8]? = some (Rn_8, Tn_8, 25) from rfl) hin (by decide) hw rfl (by decide +kernel) (wk_nar0 hx) (wk_fit0 hx) (Nat.le_of_ble_eq_true rfl) (wm_S_8 hk _) kk
theorem gt_8_11 (C : wm_C G X cc nL Ts own d rc rs) (hk : kd o = 8) (hin : ∀ w ∈ u_ws Rn_8 Tn_8 25, w ∈ Ts) (hw : Cond.fieldLink own index "FactFlowModel" "k" "[I" ∈ Ts) (dd : decode cc pc = .ok (.getfield index, 3)) (kk : wm_W G X nL cells slots wm_n (wm_S G) g (pc + 3) L (.ref (G.B + sh_r o 11) :: rest)) : wm_W G X nL cells slots wm_n (wm_S G) g pc L (.ref (G.B + o) :: rest) := wm_get C 11 dd (wm_S_8 hk (g o)) (kd_lt (by rw [hk]; decide)) (show vwCl[8]? = some (Rn_8, Tn_8, 25) from rfl) hin (by decide) hw rfl kk
theorem gt_8_12 (C : wm_C G X cc nL Ts own d rc rs) (hk : kd o = 8) (hin : ∀ w ∈ u_ws Rn_8 Tn_8 25, w ∈ Ts) (hw : Cond.fieldLink own index "FactFlowModel" "\x72" "[I" ∈ Ts) (dd : decode cc pc = .ok (.getfield index, 3)) (kk : wm_W G X nL cells slots wm_n (wm_S G) g (pc + 3) L (.ref (G.B + sh_r o 12) :: rest)) : wm_W G X nL cells slots wm_n (wm_S G) g pc L (.ref (G.B + o) :: rest) := wm_get C 12 dd (wm_S_8 hk (g o)) (kd_lt (by rw [hk]; decide)) (show vwCl[8]? = some (Rn_8, Tn_8, 25) from rfl) hin (by decide) hw rfl kk
theorem gt_8_13 (C : wm_C G X cc nL Ts own d rc rs) (hk : kd o = 8) (hin : ∀ w ∈ u_ws Rn_8 Tn_8 25, w ∈ Ts) (hw : Cond.fieldLink own index "FactFlowModel" "s" "[I" ∈ Ts) (dd : decode cc pc = .ok (.getfield index, 3)) (kk : wm_W G X nL cells slots wm_n (wm_S G) g (pc + 3) L (.ref (G.B + sh_r o 13) :: rest)) : wm_W G X nL cells slots wm_n (wm_S G) g pc L (.ref (G.B + o) :: rest) := wm_get C 13 dd (wm_S_8 hk (g o)) (kd_lt (by rw [hk]; decide)) (show vwCl[8]? = some (Rn_8, Tn_8, 25) from rfl) hin (by decide) hw rfl kk
theorem gt_8_14 (C : wm_C G X cc nL Ts own d rc rs) (hk : kd o = 8) (hin : ∀ w ∈ u_ws Rn_8 Tn_8 25, w ∈ Ts) (hw : Cond.fieldLink own index "FactFlowModel" "newBits" "I" ∈ Ts) (dd : decode cc pc = .ok (.getfield index, 3)) (kk : wm_W G X nL cells slots wm_n (wm_S G) g (pc + 3) L (.int (g o 14) :: rest)) : wm_W G X nL cells slots wm_n (wm_S G) g pc L (.ref (G.B + o) :: rest) := wm_get C 14 dd (wm_S_8 hk (g o)) (kd_lt (by rw [hk]; decide)) (show vwCl[8]? = some (Rn_8, Tn_8, 25) from rfl) hin (by decide) hw rfl kk
theorem pt_8_14 (C : wm_C G X cc nL Ts own d rc rs) {x : Int32} (hk : kd o = 8) (hin : ∀ w ∈ u_ws Rn_8 Tn_8 25, w ∈ Ts) (hw : Cond.fieldLink own index "FactFlowModel" "newBits" "I" ∈ Ts) (dd : decode cc pc = .ok (.putfield index, 3)) (kk : wm_W G X nL cells slots wm_n (wm_S G) (wm_u g o 14 x) (pc + 3) L rest) : wm_W G X nL cells slots wm_n (wm_S G) g pc L (.int x :: .ref (G.B + o) :: rest) := wm_puti C (ty := .int) 14 tn_8 tk_8 nn_8 dd (wm_S_8 hk (g o)) (kd_lt (by rw [hk]; decide)) (show vwCl[8]? = some (Rn_8, Tn_8, 25) from rfl) hin (by decide) hw rfl (by decide +kernel) rfl rfl (Nat.le_of_ble_eq_true rfl) (wm_S_8 hk _) kk
theorem gt_8_15 (C : wm_C G X cc nL Ts own d rc rs) (hk : kd o = 8) (hin : ∀ w ∈ u_ws Rn_8 Tn_8 25, w ∈ Ts) (hw : Cond.fieldLink own index "FactFlowModel" "newRest" "I" ∈ Ts) (dd : decode cc pc = .ok (.getfield index, 3)) (kk : wm_W G X nL cells slots wm_n (wm_S G) g (pc + 3) L (.int (g o 15) :: rest)) : wm_W G X nL cells slots wm_n (wm_S G) g pc L (.ref (G.B + o) :: rest) := wm_get C 15 dd (wm_S_8 hk (g o)) (kd_lt (by rw [hk]; decide)) (show vwCl[8]? = some (Rn_8, Tn_8, 25) from rfl) hin (by decide) hw rfl kk
theorem pt_8_15 (C : wm_C G X cc nL Ts own d rc rs) {x : Int32} (hk : kd o = 8) (hin : ∀ w ∈ u_ws Rn_8 Tn_8 25, w ∈ Ts) (hw : Cond.fieldLink own index "FactFlowModel" "newRest" "I" ∈ Ts) (dd : decode cc pc = .ok (.putfield index, 3)) (kk : wm_W G X nL cells slots wm_n (wm_S G) (wm_u g o 15 x) (pc + 3) L rest) : wm_W G X nL cells slots wm_n (wm_S G) g pc L (.int x :: .ref (G.B + o) :: rest) := wm_puti C (ty := .int) 15 tn_8 tk_8 nn_8 dd (wm_S_8 hk (g o)) (kd_lt (by rw [hk]; decide)) (show vwCl[8]? = some (Rn_8, Tn_8, 25) from rfl) hin (by decide) hw rfl (by decide +kernel) rfl rfl (Nat.le_of_ble_eq_true rfl) (wm_S_8 hk _) kk
theorem gt_8_16 (C : wm_C G X cc nL Ts own d rc rs) (hk : kd o = 8) (hin : ∀ w ∈ u_ws Rn_8 Tn_8 25, w ∈ Ts) (hw : Cond.fieldLink own index "FactFlowModel" "newSigns" "I" ∈ Ts) (dd : decode cc pc = .ok (.getfield index, 3)) (kk : wm_W G X nL cells slots wm_n (wm_S G) g (pc + 3) L (.int (g o 16) :: rest)) : wm_W G X nL cells slots wm_n (wm_S G) g pc L (.ref (G.B + o) :: rest) := wm_get C 16 dd (wm_S_8 hk (g o)) (kd_lt (by rw [hk]; decide)) (show vwCl[8]? = some (Rn_8, Tn_8, 25) from rfl) hin (by decide) hw rfl kk
theorem pt_8_16 (C : wm_C G X cc nL Ts own d rc rs) {x : Int32} (hk : kd o = 8) (hin : ∀ w ∈ u_ws Rn_8 Tn_8 25, w ∈ Ts) (hw : Cond.fieldLink own index "FactFlowModel" "newSigns" "I" ∈ Ts) (dd : decode cc pc = .ok (.putfield index, 3)) (kk : wm_W G X nL cells slots wm_n (wm_S G) (wm_u g o 16 x) (pc + 3) L rest) : wm_W G X nL cells slots wm_n (wm_S G) g pc L (.int x :: .ref (G.B + o) :: rest) := wm_puti C (ty := .int) 16 tn_8 tk_8 nn_8 dd (wm_S_8 hk (g o)) (kd_lt (by rw [hk]; decide)) (show vwCl[8]? = some (Rn_8, Tn_8, 25) from rfl) hin (by decide) hw rfl (by decide +kernel) rfl rfl (Nat.le_of_ble_eq_true rfl) (wm_S_8 hk _) kk
theorem gt_8_17 (C : wm_C G X cc nL Ts own d rc rs) (hk : kd o = 8) (hin : ∀ w ∈ u_ws Rn_8 Tn_8 25, w ∈ Ts) (hw : Cond.fieldLink own index "FactFlowModel" "given" "I" ∈ Ts) (dd : decode cc pc = .ok (.getfield index, 3)) (kk : wm_W G X nL cells slots wm_n (wm_S G) g (pc + 3) L (.int (g o 17) :: rest)) : wm_W G X nL cells slots wm_n (wm_S G) g pc L (.ref (G.B + o) :: rest) := wm_get C 17 dd (wm_S_8 hk (g o)) (kd_lt (by rw [hk]; decide)) (show vwCl[8]? = some (Rn_8, Tn_8, 25) from rfl) hin (by decide) hw rfl kk
theorem pt_8_17 (C : wm_C G X cc nL Ts own d rc rs) {x : Int32} (hk : kd o = 8) (hin : ∀ w ∈ u_ws Rn_8 Tn_8 25, w ∈ Ts) (hw : Cond.fieldLink own index "FactFlowModel" "given" "I" ∈ Ts) (dd : decode cc pc = .ok (.putfield index, 3)) (kk : wm_W G X nL cells slots wm_n (wm_S G) (wm_u g o 17 x) (pc + 3) L rest) : wm_W G X nL cells slots wm_n (wm_S G) g pc L (.int x :: .ref (G.B + o) :: rest) := wm_puti C (ty := .int) 17 tn_8 tk_8 nn_8 dd (wm_S_8 hk (g o)) (kd_lt (by rw [hk]; decide)) (show vwCl[8]? = some (Rn_8, Tn_8, 25) from rfl) hin (by decide) hw rfl (by decide +kernel) rfl rfl (Nat.le_of_ble_eq_true rfl) (wm_S_8 hk _) kk
theorem gt_8_18 (C : wm_C G X cc nL Ts own d rc rs) (hk : kd o = 8) (hin : ∀ w ∈ u_ws Rn_8 Tn_8 25, w ∈ Ts) (hw : Cond.fieldLink own index "FactFlowModel" "inputs" "[I" ∈ Ts) (dd : decode cc pc = .ok (.getfield index, 3)) (kk : wm_W G X nL cells slots wm_n (wm_S G) g (pc + 3) L (.ref (G.B + sh_r o 18) :: rest)) : wm_W G X nL cells slots wm_n (wm_S G) g pc L (.ref (G.B + o) :: rest) := wm_get C 18 dd (wm_S_8 hk (g o)) (kd_lt (by rw [hk]; decide)) (show vwCl[8]? = some (Rn_8, Tn_8, 25) from rfl) hin (by decide) hw rfl kk
theorem gt_8_19 (C : wm_C G X cc nL Ts own d rc rs) (hk : kd o = 8) (hin : ∀ w ∈ u_ws Rn_8 Tn_8 25, w ∈ Ts) (hw : Cond.fieldLink own index "FactFlowModel" "done" "I" ∈ Ts) (dd : decode cc pc = .ok (.getfield index, 3)) (kk : wm_W G X nL cells slots wm_n (wm_S G) g (pc + 3) L (.int (g o 19) :: rest)) : wm_W G X nL cells slots wm_n (wm_S G) g pc L (.ref (G.B + o) :: rest) := wm_get C 19 dd (wm_S_8 hk (g o)) (kd_lt (by rw [hk]; decide)) (show vwCl[8]? = some (Rn_8, Tn_8, 25) from rfl) hin (by decide) hw rfl kk
theorem pt_8_19 (C : wm_C G X cc nL Ts own d rc rs) {x : Int32} (hk : kd o = 8) (hin : ∀ w ∈ u_ws Rn_8 Tn_8 25, w ∈ Ts) (hw : Cond.fieldLink own index "FactFlowModel" "done" "I" ∈ Ts) (dd : decode cc pc = .ok (.putfield index, 3)) (kk : wm_W G X nL cells slots wm_n (wm_S G) (wm_u g o 19 x) (pc + 3) L rest) : wm_W G X nL cells slots wm_n (wm_S G) g pc L (.int x :: .ref (G.B + o) :: rest) := wm_puti C (ty := .int) 19 tn_8 tk_8 nn_8 dd (wm_S_8 hk (g o)) (kd_lt (by rw [hk]; decide)) (show vwCl[8]? = some (Rn_8, Tn_8, 25) from rfl) hin (by decide) hw rfl (by decide +kernel) rfl rfl (Nat.le_of_ble_eq_true rfl) (wm_S_8 hk _) kk
theorem gt_8_20 (C : wm_C G X cc nL Ts own d rc rs) (hk : kd o = 8) (hin : ∀ w ∈ u_ws Rn_8 Tn_8 25, w ∈ Ts) (hw : Cond.fieldLink own index "FactFlowModel" "place" "I" ∈ Ts) (dd : decode cc pc = .ok (.getfield index, 3)) (kk : wm_W G X nL cells slots wm_n (wm_S G) g (pc + 3) L (.int (g o 20) :: rest)) : wm_W G X nL cells slots wm_n (wm_S G) g pc L (.ref (G.B + o) :: rest) := wm_get C 20 dd (wm_S_8 hk (g o)) (kd_lt (by rw [hk]; decide)) (show vwCl[8]? = some (Rn_8, Tn_8, 25) from rfl) hin (by decide) hw rfl kk
theorem pt_8_20 (C : wm_C G X cc nL Ts own d rc rs) {x : Int32} (hk : kd o = 8) (hin : ∀ w ∈ u_ws Rn_8 Tn_8 25, w ∈ Ts) (hw : Cond.fieldLink own index "FactFlowModel" "place" "I" ∈ Ts) (dd : decode cc pc = .ok (.putfield index, 3)) (kk : wm_W G X nL cells slots wm_n (wm_S G) (wm_u g o 20 x) (pc + 3) L rest) : wm_W G X nL cells slots wm_n (wm_S G) g pc L (.int x :: .ref (G.B + o) :: rest) := wm_puti C (ty := .int) 20 tn_8 tk_8 nn_8 dd (wm_S_8 hk (g o)) (kd_lt (by rw [hk]; decide)) (show vwCl[8]? = some (Rn_8, Tn_8, 25) from rfl) hin (by decide) hw rfl (by decide +kernel) rfl rfl (Nat.le_of_ble_eq_true rfl) (wm_S_8 hk _) kk
theorem gt_8_21 (C : wm_C G X cc nL Ts own d rc rs) (hk : kd o = 8) (hin : ∀ w ∈ u_ws Rn_8 Tn_8 25, w ∈ Ts) (hw : Cond.fieldLink own index "FactFlowModel" "values" "[I" ∈ Ts) (dd : decode cc pc = .ok (.getfield index, 3)) (kk : wm_W G X nL cells slots wm_n (wm_S G) g (pc + 3) L (.ref (G.B + sh_r o 21) :: rest)) : wm_W G X nL cells slots wm_n (wm_S G) g pc L (.ref (G.B + o) :: rest) := wm_get C 21 dd (wm_S_8 hk (g o)) (kd_lt (by rw [hk]; decide)) (show vwCl[8]? = some (Rn_8, Tn_8, 25) from rfl) hin (by decide) hw rfl kk
theorem gt_8_22 (C : wm_C G X cc nL Ts own d rc rs) (hk : kd o = 8) (hin : ∀ w ∈ u_ws Rn_8 Tn_8 25, w ∈ Ts) (hw : Cond.fieldLink own index "FactFlowModel" "told" "I" ∈ Ts) (dd : decode cc pc = .ok (.getfield index, 3)) (kk : wm_W G X nL cells slots wm_n (wm_S G) g (pc + 3) L (.int (g o 22) :: rest)) : wm_W G X nL cells slots wm_n (wm_S G) g pc L (.ref (G.B + o) :: rest) := wm_get C 22 dd (wm_S_8 hk (g o)) (kd_lt (by rw [hk]; decide)) (show vwCl[8]? = some (Rn_8, Tn_8, 25) from rfl) hin (by decide) hw rfl kk
theorem pt_8_22 (C : wm_C G X cc nL Ts own d rc rs) {x : Int32} (hk : kd o = 8) (hin : ∀ w ∈ u_ws Rn_8 Tn_8 25, w ∈ Ts) (hw : Cond.fieldLink own index "FactFlowModel" "told" "I" ∈ Ts) (dd : decode cc pc = .ok (.putfield index, 3)) (kk : wm_W G X nL cells slots wm_n (wm_S G) (wm_u g o 22 x) (pc + 3) L rest) : wm_W G X nL cells slots wm_n (wm_S G) g pc L (.int x :: .ref (G.B + o) :: rest) := wm_puti C (ty := .int) 22 tn_8 tk_8 nn_8 dd (wm_S_8 hk (g o)) (kd_lt (by rw [hk]; decide)) (show vwCl[8]? = some (Rn_8, Tn_8, 25) from rfl) hin (by decide) hw rfl (by decide +kernel) rfl rfl (Nat.le_of_ble_eq_true rfl) (wm_S_8 hk _) kk
theorem gt_8_23 (C : wm_C G X cc nL Ts own d rc rs) (hk : kd o = 8) (hin : ∀ w ∈ u_ws Rn_8 Tn_8 25, w ∈ Ts) (hw : Cond.fieldLink own index "FactFlowModel" "out" "[I" ∈ Ts) (dd : decode cc pc = .ok (.getfield index, 3)) (kk : wm_W G X nL cells slots wm_n (wm_S G) g (pc + 3) L (.ref (G.B + sh_r o 23) :: rest)) : wm_W G X nL cells slots wm_n (wm_S G) g pc L (.ref (G.B + o) :: rest) := wm_get C 23 dd (wm_S_8 hk (g o)) (kd_lt (by rw [hk]; decide)) (show vwCl[8]? = some (Rn_8, Tn_8, 25) from rfl) hin (by decide) hw rfl kk
theorem gt_8_24 (C : wm_C G X cc nL Ts own d rc rs) (hk : kd o = 8) (hin : ∀ w ∈ u_ws Rn_8 Tn_8 25, w ∈ Ts) (hw : Cond.fieldLink own index "FactFlowModel" "eaten" "I" ∈ Ts) (dd : decode cc pc = .ok (.getfield index, 3)) (kk : wm_W G X nL cells slots wm_n (wm_S G) g (pc + 3) L (.int (g o 24) :: rest)) : wm_W G X nL cells slots wm_n (wm_S G) g pc L (.ref (G.B + o) :: rest) := wm_get C 24 dd (wm_S_8 hk (g o)) (kd_lt (by rw [hk]; decide)) (show vwCl[8]? = some (Rn_8, Tn_8, 25) from rfl) hin (by decide) hw rfl kk
theorem pt_8_24 (C : wm_C G X cc nL Ts own d rc rs) {x : Int32} (hk : kd o = 8) (hin : ∀ w ∈ u_ws Rn_8 Tn_8 25, w ∈ Ts) (hw : Cond.fieldLink own index "FactFlowModel" "eaten" "I" ∈ Ts) (dd : decode cc pc = .ok (.putfield index, 3)) (kk : wm_W G X nL cells slots wm_n (wm_S G) (wm_u g o 24 x) (pc + 3) L rest) : wm_W G X nL cells slots wm_n (wm_S G) g pc L (.int x :: .ref (G.B + o) :: rest) := wm_puti C (ty := .int) 24 tn_8 tk_8 nn_8 dd (wm_S_8 hk (g o)) (kd_lt (by rw [hk]; decide)) (show vwCl[8]? = some (Rn_8, Tn_8, 25) from rfl) hin (by decide) hw rfl (by decide +kernel) rfl rfl (Nat.le_of_ble_eq_true rfl) (wm_S_8 hk _) kk
theorem wk_aald_22 (C : wm_C G X cc nL Ts own d rc rs) {i : Int32} (hk : kd o = 22) (q : ¬ (i < 0 ∨ sh_n o ≤ i.toNatClampNeg)) (dd : decode cc pc = .ok (.aaload, 1)) (kk : wm_W G X nL cells slots wm_n (wm_S G) g (pc + 1) L (.ref (G.B + sh_r o i.toNatClampNeg) :: rest)) : wm_W G X nL cells slots wm_n (wm_S G) g pc L (.int i :: .ref (G.B + o) :: rest) := wm_aald (t0 := 2) C dd (wm_S_22 hk (g o)) (kd_lt (by rw [hk]; decide)) rfl q rfl kk
theorem wk_aald_23 (C : wm_C G X cc nL Ts own d rc rs) {i : Int32} (hk : kd o = 23) (q : ¬ (i < 0 ∨ sh_n o ≤ i.toNatClampNeg)) (dd : decode cc pc = .ok (.aaload, 1)) (kk : wm_W G X nL cells slots wm_n (wm_S G) g (pc + 1) L (.ref (G.B + sh_r o i.toNatClampNeg) :: rest)) : wm_W G X nL cells slots wm_n (wm_S G) g pc L (.int i :: .ref (G.B + o) :: rest) := wm_aald (t0 := 3) C dd (wm_S_23 hk (g o)) (kd_lt (by rw [hk]; decide)) rfl q rfl kk
theorem wk_aald_24 (C : wm_C G X cc nL Ts own d rc rs) {i : Int32} (hk : kd o = 24) (q : ¬ (i < 0 ∨ sh_n o ≤ i.toNatClampNeg)) (dd : decode cc pc = .ok (.aaload, 1)) (kk : wm_W G X nL cells slots wm_n (wm_S G) g (pc + 1) L (.ref (G.B + sh_r o i.toNatClampNeg) :: rest)) : wm_W G X nL cells slots wm_n (wm_S G) g pc L (.int i :: .ref (G.B + o) :: rest) := wm_aald (t0 := 4) C dd (wm_S_24 hk (g o)) (kd_lt (by rw [hk]; decide)) rfl q rfl kk
end SH
end
section
/-! rows of the decompiled walk -/
def lp_it {A R : Type} (step : (A → Option R) → A → Option R) : Nat → A → Option R
  | 0, _ => none
  | n + 1, a => step (lp_it step n) a
def wm_sub (L : List (Nat × Value)) : List (Nat × Value) → Prop
  | [] => True
  | q :: t => wm_k L q.1 = some q.2 ∧ wm_sub L t
theorem wm_sub_mem {L : List (Nat × Value)} : ∀ {L' : List (Nat × Value)}, wm_sub L L' → ∀ q ∈ L', wm_k L q.1 = some q.2
  | [], _, _, h => by cases h
  | p :: t, h, q, hq => by
    rcases List.mem_cons.mp hq with e | e
    · rw [e]; exact h.1
    · exact wm_sub_mem h.2 q e
section WK
variable {G : wm_G} {X : wm_X} {cc : ByteArray} {nL : Nat} {Ts : List Cond} {own : String} {d rc rs : Nat} {cells slots : Nat} {g : wm_Sg} {pc : Nat} {L : List (Nat × Value)} {rest st : List Value} {R : Type} {res : R}
theorem wk_cut {n : Nat} {S : wm_Sh} {L' : List (Nat × Value)} (kk : wm_W G X nL cells slots n S g pc L' st) (h : wm_sub L L') : wm_W G X nL cells slots n S g pc L st := wm_L (wm_sub_mem h) kk
theorem wk_ite {P : Prop} {c : Prop} [Decidable c] {a b : Option R} (h : (if c then a else b) = some res) (ka : c → a = some res → P) (kb : ¬ c → b = some res → P) : P := by
  by_cases q : c
  · rw [if_pos q] at h; exact ka q h
  · rw [if_neg q] at h; exact kb q h
theorem wk_no {P : Prop} {c : Prop} [Decidable c] {b : Option R} (h : (if c then none else b) = some res) (kb : ¬ c → b = some res → P) : P := by
  by_cases q : c
  · rw [if_pos q] at h; cases h
  · rw [if_neg q] at h; exact kb q h
theorem wk_yes {P : Prop} {c : Prop} [Decidable c] {b : Option R} (h : (if c then b else none) = some res) (kb : c → b = some res → P) : P := by
  by_cases q : c
  · rw [if_pos q] at h; exact kb q h
  · rw [if_neg q] at h; cases h
theorem wk_bind {P : Prop} {α : Type} {M : Option α} {K : α → Option R} (h : M.bind K = some res) (k : ∀ v, M = some v → K v = some res → P) : P := by
  cases e : M with
  | none => rw [e] at h; cases h
  | some v => rw [e] at h; exact k v e h
theorem wk_if_eq (C : wm_C G X cc nL Ts own d rc rs) {x : Int32} {off : Int} {tgt : Nat} {a b : Option R} (dd : decode cc pc = .ok (.ifCond .eq off, 3)) (ht : (pc : Int) + off = (tgt : Int)) (h : (if x = 0 then a else b) = some res) (kt : x = 0 → a = some res → wm_W G X nL cells slots wm_n (wm_S G) g tgt L rest) (kf : ¬ (x = 0) → b = some res → wm_W G X nL cells slots wm_n (wm_S G) g (pc + 3) L rest) : wm_W G X nL cells slots wm_n (wm_S G) g pc L (.int x :: rest) := wm_if_eq C dd ht (fun q => kt q (by rw [if_pos q] at h; exact h)) (fun q => kf q (by rw [if_neg q] at h; exact h))
theorem wk_icmp_eq (C : wm_C G X cc nL Ts own d rc rs) {x y : Int32} {off : Int} {tgt : Nat} {a b : Option R} (dd : decode cc pc = .ok (.if_icmp .eq off, 3)) (ht : (pc : Int) + off = (tgt : Int)) (h : (if x = y then a else b) = some res) (kt : x = y → a = some res → wm_W G X nL cells slots wm_n (wm_S G) g tgt L rest) (kf : ¬ (x = y) → b = some res → wm_W G X nL cells slots wm_n (wm_S G) g (pc + 3) L rest) : wm_W G X nL cells slots wm_n (wm_S G) g pc L (.int y :: .int x :: rest) := wm_icmp_eq C dd ht (fun q => kt q (by rw [if_pos q] at h; exact h)) (fun q => kf q (by rw [if_neg q] at h; exact h))
theorem wk_if_lt (C : wm_C G X cc nL Ts own d rc rs) {x : Int32} {off : Int} {tgt : Nat} {a b : Option R} (dd : decode cc pc = .ok (.ifCond .lt off, 3)) (ht : (pc : Int) + off = (tgt : Int)) (h : (if x < 0 then a else b) = some res) (kt : x < 0 → a = some res → wm_W G X nL cells slots wm_n (wm_S G) g tgt L rest) (kf : ¬ (x < 0) → b = some res → wm_W G X nL cells slots wm_n (wm_S G) g (pc + 3) L rest) : wm_W G X nL cells slots wm_n (wm_S G) g pc L (.int x :: rest) := wm_if_lt C dd ht (fun q => kt q (by rw [if_pos q] at h; exact h)) (fun q => kf q (by rw [if_neg q] at h; exact h))
theorem wk_icmp_lt (C : wm_C G X cc nL Ts own d rc rs) {x y : Int32} {off : Int} {tgt : Nat} {a b : Option R} (dd : decode cc pc = .ok (.if_icmp .lt off, 3)) (ht : (pc : Int) + off = (tgt : Int)) (h : (if x < y then a else b) = some res) (kt : x < y → a = some res → wm_W G X nL cells slots wm_n (wm_S G) g tgt L rest) (kf : ¬ (x < y) → b = some res → wm_W G X nL cells slots wm_n (wm_S G) g (pc + 3) L rest) : wm_W G X nL cells slots wm_n (wm_S G) g pc L (.int y :: .int x :: rest) := wm_icmp_lt C dd ht (fun q => kt q (by rw [if_pos q] at h; exact h)) (fun q => kf q (by rw [if_neg q] at h; exact h))
theorem wk_if_ge (C : wm_C G X cc nL Ts own d rc rs) {x : Int32} {off : Int} {tgt : Nat} {a b : Option R} (dd : decode cc pc = .ok (.ifCond .ge off, 3)) (ht : (pc : Int) + off = (tgt : Int)) (h : (if 0 ≤ x then a else b) = some res) (kt : 0 ≤ x → a = some res → wm_W G X nL cells slots wm_n (wm_S G) g tgt L rest) (kf : ¬ (0 ≤ x) → b = some res → wm_W G X nL cells slots wm_n (wm_S G) g (pc + 3) L rest) : wm_W G X nL cells slots wm_n (wm_S G) g pc L (.int x :: rest) := wm_if_ge C dd ht (fun q => kt q (by rw [if_pos q] at h; exact h)) (fun q => kf q (by rw [if_neg q] at h; exact h))
theorem wk_icmp_ge (C : wm_C G X cc nL Ts own d rc rs) {x y : Int32} {off : Int} {tgt : Nat} {a b : Option R} (dd : decode cc pc = .ok (.if_icmp .ge off, 3)) (ht : (pc : Int) + off = (tgt : Int)) (h : (if y ≤ x then a else b) = some res) (kt : y ≤ x → a = some res → wm_W G X nL cells slots wm_n (wm_S G) g tgt L rest) (kf : ¬ (y ≤ x) → b = some res → wm_W G X nL cells slots wm_n (wm_S G) g (pc + 3) L rest) : wm_W G X nL cells slots wm_n (wm_S G) g pc L (.int y :: .int x :: rest) := wm_icmp_ge C dd ht (fun q => kt q (by rw [if_pos q] at h; exact h)) (fun q => kf q (by rw [if_neg q] at h; exact h))
theorem wk_if_gt (C : wm_C G X cc nL Ts own d rc rs) {x : Int32} {off : Int} {tgt : Nat} {a b : Option R} (dd : decode cc pc = .ok (.ifCond .gt off, 3)) (ht : (pc : Int) + off = (tgt : Int)) (h : (if 0 < x then a else b) = some res) (kt : 0 < x → a = some res → wm_W G X nL cells slots wm_n (wm_S G) g tgt L rest) (kf : ¬ (0 < x) → b = some res → wm_W G X nL cells slots wm_n (wm_S G) g (pc + 3) L rest) : wm_W G X nL cells slots wm_n (wm_S G) g pc L (.int x :: rest) := wm_if_gt C dd ht (fun q => kt q (by rw [if_pos q] at h; exact h)) (fun q => kf q (by rw [if_neg q] at h; exact h))
theorem wk_icmp_gt (C : wm_C G X cc nL Ts own d rc rs) {x y : Int32} {off : Int} {tgt : Nat} {a b : Option R} (dd : decode cc pc = .ok (.if_icmp .gt off, 3)) (ht : (pc : Int) + off = (tgt : Int)) (h : (if y < x then a else b) = some res) (kt : y < x → a = some res → wm_W G X nL cells slots wm_n (wm_S G) g tgt L rest) (kf : ¬ (y < x) → b = some res → wm_W G X nL cells slots wm_n (wm_S G) g (pc + 3) L rest) : wm_W G X nL cells slots wm_n (wm_S G) g pc L (.int y :: .int x :: rest) := wm_icmp_gt C dd ht (fun q => kt q (by rw [if_pos q] at h; exact h)) (fun q => kf q (by rw [if_neg q] at h; exact h))
theorem wk_if_le (C : wm_C G X cc nL Ts own d rc rs) {x : Int32} {off : Int} {tgt : Nat} {a b : Option R} (dd : decode cc pc = .ok (.ifCond .le off, 3)) (ht : (pc : Int) + off = (tgt : Int)) (h : (if x ≤ 0 then a else b) = some res) (kt : x ≤ 0 → a = some res → wm_W G X nL cells slots wm_n (wm_S G) g tgt L rest) (kf : ¬ (x ≤ 0) → b = some res → wm_W G X nL cells slots wm_n (wm_S G) g (pc + 3) L rest) : wm_W G X nL cells slots wm_n (wm_S G) g pc L (.int x :: rest) := wm_if_le C dd ht (fun q => kt q (by rw [if_pos q] at h; exact h)) (fun q => kf q (by rw [if_neg q] at h; exact h))
theorem wk_icmp_le (C : wm_C G X cc nL Ts own d rc rs) {x y : Int32} {off : Int} {tgt : Nat} {a b : Option R} (dd : decode cc pc = .ok (.if_icmp .le off, 3)) (ht : (pc : Int) + off = (tgt : Int)) (h : (if x ≤ y then a else b) = some res) (kt : x ≤ y → a = some res → wm_W G X nL cells slots wm_n (wm_S G) g tgt L rest) (kf : ¬ (x ≤ y) → b = some res → wm_W G X nL cells slots wm_n (wm_S G) g (pc + 3) L rest) : wm_W G X nL cells slots wm_n (wm_S G) g pc L (.int y :: .int x :: rest) := wm_icmp_le C dd ht (fun q => kt q (by rw [if_pos q] at h; exact h)) (fun q => kf q (by rw [if_neg q] at h; exact h))
theorem wk_if_ne (C : wm_C G X cc nL Ts own d rc rs) {x : Int32} {off : Int} {tgt : Nat} {a b : Option R} (dd : decode cc pc = .ok (.ifCond .ne off, 3)) (ht : (pc : Int) + off = (tgt : Int)) (h : (if x = 0 then a else b) = some res) (kf : x = 0 → a = some res → wm_W G X nL cells slots wm_n (wm_S G) g (pc + 3) L rest) (kt : ¬ (x = 0) → b = some res → wm_W G X nL cells slots wm_n (wm_S G) g tgt L rest) : wm_W G X nL cells slots wm_n (wm_S G) g pc L (.int x :: rest) := wm_if_ne C dd ht (fun q => kt q (by rw [if_neg q] at h; exact h)) (fun q => kf q (by rw [if_pos q] at h; exact h))
theorem wk_icmp_ne (C : wm_C G X cc nL Ts own d rc rs) {x y : Int32} {off : Int} {tgt : Nat} {a b : Option R} (dd : decode cc pc = .ok (.if_icmp .ne off, 3)) (ht : (pc : Int) + off = (tgt : Int)) (h : (if x = y then a else b) = some res) (kf : x = y → a = some res → wm_W G X nL cells slots wm_n (wm_S G) g (pc + 3) L rest) (kt : ¬ (x = y) → b = some res → wm_W G X nL cells slots wm_n (wm_S G) g tgt L rest) : wm_W G X nL cells slots wm_n (wm_S G) g pc L (.int y :: .int x :: rest) := wm_icmp_ne C dd ht (fun q => kt q (by rw [if_neg q] at h; exact h)) (fun q => kf q (by rw [if_pos q] at h; exact h))
theorem wk_tableEq (C : wm_C G X cc nL Ts own d rc rs) {dflt lo hi : Int} {offs : Array Int} {len : Nat} {x k : Int32} {off : Int} {tgt : Nat} (dd : decode cc pc = .ok (.tableswitch dflt lo hi offs, len)) (q : x = k) (g1 : ¬ k.toInt < lo) (g2 : ¬ hi < k.toInt) (ho : offs[(k.toInt - lo).toNat]? = some off) (ht : (pc : Int) + off = (tgt : Int)) (kk : wm_W G X nL cells slots wm_n (wm_S G) g tgt L rest) : wm_W G X nL cells slots wm_n (wm_S G) g pc L (.int x :: rest) := by
  subst q
  exact wm_tableIn C dd g1 g2 ho ht kk
theorem wk_nt {x : Int32} {k : Int32} {z : Int} (q : ¬ x = k) (hz : k.toInt = z) : ¬ x.toInt = z := fun e => q (Int32.toInt_inj.mp (e.trans hz.symm))
theorem wk_iinc (C : wm_C G X cc nL Ts own d rc rs) {i : Nat} {z : Int} {x : Int32} (w : Int32) (dd : decode cc pc = .ok (.iinc i z, 3)) (hz : Int32.ofInt z = w) (hk : wm_k L i = some (.int x)) (hn : i < nL) (kk : wm_W G X nL cells slots wm_n (wm_S G) g (pc + 3) (wm_s L i (.int (x + w))) rest) : wm_W G X nL cells slots wm_n (wm_S G) g pc L rest := wm_iinc C dd hk (by rw [hz]) hn kk
theorem wk_idiv (C : wm_C G X cc nL Ts own d rc rs) {x y : Int32} {b : Option R} (dd : decode cc pc = .ok (.idiv, 1)) (h : (if y = 0 then none else b) = some res) (kk : b = some res → wm_W G X nL cells slots wm_n (wm_S G) g (pc + 1) L (.int (x / y) :: rest)) : wm_W G X nL cells slots wm_n (wm_S G) g pc L (.int y :: .int x :: rest) := wk_no h (fun q h => wm_idiv C dd q (kk h))
theorem wk_mmin (C : wm_C G X cc nL Ts own d rc rs) {index : Nat} {x y : Int32} (dd : decode cc pc = .ok (.invokestatic index, 3)) (w1 : Cond.methodLink own index Lib.Math.min.name ∈ Ts) (w2 : Cond.static Lib.Math.min.name ∈ Ts) (w3 : Cond.initialized "java/lang/Math" ∈ Ts) (w4 : Cond.code Lib.Math.min.name Lib.Math.min.code 2 (some .int) ∈ Ts) (hd : 1 ≤ d) (hr : (rest.map fun v => v.category).sum + 13 ≤ 40) (hc : cells ≤ rc) (hs : slots ≤ rs) (kk : wm_W G X nL cells slots wm_n (wm_S G) g (pc + 3) L (.int (fc_min x y) :: rest)) : wm_W G X nL cells slots wm_n (wm_S G) g pc L (.int y :: .int x :: rest) := wm_mmin C dd w1 w2 w3 w4 hd hr hc hs kk
theorem wk_iald (C : wm_C G X cc nL Ts own d rc rs) {o : Nat} {i : Int32} {b : Option R} (hk : kd o = 20) (dd : decode cc pc = .ok (.iaload, 1)) (h : (if i < 0 ∨ sh_n o ≤ i.toNatClampNeg then none else b) = some res) (kk : b = some res → wm_W G X nL cells slots wm_n (wm_S G) g (pc + 1) L (.int (g o i.toNatClampNeg) :: rest)) : wm_W G X nL cells slots wm_n (wm_S G) g pc L (.int i :: .ref (G.B + o) :: rest) := wk_no h (fun q h => wm_iald (t0 := 0) C dd (wm_S_i hk (g o)) (kd_lt (by rw [hk]; decide)) rfl q (kk h))
theorem wk_zald (C : wm_C G X cc nL Ts own d rc rs) {o : Nat} {i : Int32} {b : Option R} (hk : kd o = 21) (dd : decode cc pc = .ok (.baload, 1)) (h : (if i < 0 ∨ sh_n o ≤ i.toNatClampNeg then none else b) = some res) (kk : b = some res → wm_W G X nL cells slots wm_n (wm_S G) g (pc + 1) L (.int (g o i.toNatClampNeg) :: rest)) : wm_W G X nL cells slots wm_n (wm_S G) g pc L (.int i :: .ref (G.B + o) :: rest) := wk_no h (fun q h => wm_zald (t0 := 1) C dd (wm_S_z hk (g o)) (kd_lt (by rw [hk]; decide)) rfl q (kk h))
theorem wk_iast (C : wm_C G X cc nL Ts own d rc rs) {o : Nat} {i x : Int32} {b : Option R} (hk : kd o = 20) (dd : decode cc pc = .ok (.iastore, 1)) (h : (if i < 0 ∨ sh_n o ≤ i.toNatClampNeg then none else b) = some res) (kk : b = some res → wm_W G X nL cells slots wm_n (wm_S G) (wm_u g o i.toNatClampNeg x) (pc + 1) L rest) : wm_W G X nL cells slots wm_n (wm_S G) g pc L (.int x :: .int i :: .ref (G.B + o) :: rest) := wk_no h (fun q h => wm_iast (t0 := 0) C dd (wm_S_i hk (g o)) (kd_lt (by rw [hk]; decide)) rfl q (wm_S_i hk _) (kk h))
theorem wk_zast (C : wm_C G X cc nL Ts own d rc rs) {o : Nat} {i x : Int32} {b : Option R} (hk : kd o = 21) (hx : narrow .boolean (.int x) = .int x) (dd : decode cc pc = .ok (.bastore, 1)) (h : (if i < 0 ∨ sh_n o ≤ i.toNatClampNeg then none else b) = some res) (kk : b = some res → wm_W G X nL cells slots wm_n (wm_S G) (wm_u g o i.toNatClampNeg x) (pc + 1) L rest) : wm_W G X nL cells slots wm_n (wm_S G) g pc L (.int x :: .int i :: .ref (G.B + o) :: rest) := wk_no h (fun q h => wm_zast (t0 := 1) C dd (wm_S_z hk (g o)) (kd_lt (by rw [hk]; decide)) rfl q hx (wm_S_z hk _) (kk h))
theorem wk_tab (C : wm_C G X cc nL Ts own d rc rs) {x : Int32} {i : Nat} {b : Option R} (hi : i < 4) (dd : decode cc pc = .ok (.iaload, 1)) (h : (if x < 0 ∨ 9 ≤ x.toNatClampNeg then none else b) = some res) (kk : b = some res → wm_W G X nL cells slots wm_n (wm_S G) g (pc + 1) L (.int (fc_tab i x.toNatClampNeg) :: rest)) : wm_W G X nL cells slots wm_n (wm_S G) g pc L (.int x :: .ref (G.2.2.2 i) :: rest) := wk_no h (fun q h => wm_tab C i hi dd q (kk h))
end WK
theorem wk_ret {x : Int32} {g : wm_Sg} {v : Int32 × wm_Sg} (h : some (x, g) = some v) : x = v.1 ∧ g = v.2 := ⟨congrArg Prod.fst (Option.some.inj h), congrArg Prod.snd (Option.some.inj h)⟩
theorem wk_retr {i : Nat} {g : wm_Sg} {ad : Nat → Nat} {v : Nat × wm_Sg} (h : some (i, g) = some v) : ad i = ad v.1 ∧ g = v.2 := ⟨congrArg (fun z => ad z.1) (Option.some.inj h), congrArg Prod.snd (Option.some.inj h)⟩
theorem wk_nar {x : Int32} (h : x = 0 ∨ x = 1) : narrow .boolean (.int x) = .int x := by
  rcases h with rfl | rfl <;> rfl
end
