section
-- ===== PART A: goes FIRST, ahead of the names: the tables' words, and 'selects' of the private methods out of them =====
/-- a private method of a class that the tables say can be made, by its rows of tables_1 -/
def lw_okq (q : MethodName × Nat) : Prop := (q.1.cls ≠ "java/lang/invoke/MethodHandle" ∧ q.1.cls ≠ "java/lang/invoke/VarHandle") ∧ Cond.instantiable q.1.cls q.2 ∈ tables_1 ∧ Cond.privateMethod q.1 ∈ tables_1 ∧ Cond.instanceMethod q.1 ∈ tables_1
theorem lw_p0 : lw_okq (⟨"FactFlow$Solution", "begin", "()V"⟩, 4) := ⟨⟨by decide +kernel, by decide +kernel⟩, List.mem_of_getElem? (i := 100) (by decide +kernel), List.mem_of_getElem? (i := 263) (by decide +kernel), List.mem_of_getElem? (i := 264) (by decide +kernel)⟩
theorem lw_p1 : lw_okq (⟨"FactFlow$Fact", "reduce", "()V"⟩, 3) := ⟨⟨by decide +kernel, by decide +kernel⟩, List.mem_of_getElem? (i := 29) (by decide +kernel), List.mem_of_getElem? (i := 275) (by decide +kernel), List.mem_of_getElem? (i := 276) (by decide +kernel)⟩
theorem lw_p2 : lw_okq (⟨"FactFlow$Solution", "carry", "(LFactFlow$Program;I)V"⟩, 4) := ⟨⟨by decide +kernel, by decide +kernel⟩, List.mem_of_getElem? (i := 100) (by decide +kernel), List.mem_of_getElem? (i := 279) (by decide +kernel), List.mem_of_getElem? (i := 280) (by decide +kernel)⟩
theorem lw_p3 : lw_okq (⟨"FactFlow$Solution", "arrive", "(LFactFlow$Program;I)V"⟩, 4) := ⟨⟨by decide +kernel, by decide +kernel⟩, List.mem_of_getElem? (i := 100) (by decide +kernel), List.mem_of_getElem? (i := 291) (by decide +kernel), List.mem_of_getElem? (i := 292) (by decide +kernel)⟩
theorem lw_p4 : lw_okq (⟨"FactFlow", "comesTo", "(I)Z"⟩, 4) := ⟨⟨by decide +kernel, by decide +kernel⟩, List.mem_of_getElem? (i := 13) (by decide +kernel), List.mem_of_getElem? (i := 363) (by decide +kernel), List.mem_of_getElem? (i := 364) (by decide +kernel)⟩
theorem lw_p5 : lw_okq (⟨"FactFlow$Machine", "begin", "()V"⟩, 6) := ⟨⟨by decide +kernel, by decide +kernel⟩, List.mem_of_getElem? (i := 159) (by decide +kernel), List.mem_of_getElem? (i := 421) (by decide +kernel), List.mem_of_getElem? (i := 422) (by decide +kernel)⟩
theorem lw_p6 : lw_okq (⟨"FactFlow$Machine", "change", "(LFactFlow$Instruction;LFactFlow$Inputs;)V"⟩, 6) := ⟨⟨by decide +kernel, by decide +kernel⟩, List.mem_of_getElem? (i := 159) (by decide +kernel), List.mem_of_getElem? (i := 426) (by decide +kernel), List.mem_of_getElem? (i := 427) (by decide +kernel)⟩
theorem lw_p7 : lw_okq (⟨"FactFlow$Machine", "print", "(I)V"⟩, 6) := ⟨⟨by decide +kernel, by decide +kernel⟩, List.mem_of_getElem? (i := 159) (by decide +kernel), List.mem_of_getElem? (i := 435) (by decide +kernel), List.mem_of_getElem? (i := 436) (by decide +kernel)⟩
theorem lw_p8 : lw_okq (⟨"FactFlow$Machine", "placeBehind", "(LFactFlow$Instruction;I)I"⟩, 6) := ⟨⟨by decide +kernel, by decide +kernel⟩, List.mem_of_getElem? (i := 159) (by decide +kernel), List.mem_of_getElem? (i := 439) (by decide +kernel), List.mem_of_getElem? (i := 440) (by decide +kernel)⟩
theorem lw_p9 : lw_okq (⟨"FactFlowModel", "place", "(IIIII)Z"⟩, 25) := ⟨⟨by decide +kernel, by decide +kernel⟩, List.mem_of_getElem? (i := 463) (by decide +kernel), List.mem_of_getElem? (i := 564) (by decide +kernel), List.mem_of_getElem? (i := 565) (by decide +kernel)⟩
theorem lw_p10 : lw_okq (⟨"FactFlowModel", "none", "(I)Z"⟩, 25) := ⟨⟨by decide +kernel, by decide +kernel⟩, List.mem_of_getElem? (i := 463) (by decide +kernel), List.mem_of_getElem? (i := 575) (by decide +kernel), List.mem_of_getElem? (i := 576) (by decide +kernel)⟩
theorem lw_p11 : lw_okq (⟨"FactFlowModel", "solve", "()V"⟩, 25) := ⟨⟨by decide +kernel, by decide +kernel⟩, List.mem_of_getElem? (i := 463) (by decide +kernel), List.mem_of_getElem? (i := 595) (by decide +kernel), List.mem_of_getElem? (i := 596) (by decide +kernel)⟩
theorem lw_p12 : lw_okq (⟨"FactFlowModel", "result", "(III)V"⟩, 25) := ⟨⟨by decide +kernel, by decide +kernel⟩, List.mem_of_getElem? (i := 463) (by decide +kernel), List.mem_of_getElem? (i := 599) (by decide +kernel), List.mem_of_getElem? (i := 600) (by decide +kernel)⟩
theorem lw_p13 : lw_okq (⟨"FactFlowModel", "take", "(I)V"⟩, 25) := ⟨⟨by decide +kernel, by decide +kernel⟩, List.mem_of_getElem? (i := 463) (by decide +kernel), List.mem_of_getElem? (i := 603) (by decide +kernel), List.mem_of_getElem? (i := 604) (by decide +kernel)⟩
theorem lw_p14 : lw_okq (⟨"FactFlowModel", "join", "(I)V"⟩, 25) := ⟨⟨by decide +kernel, by decide +kernel⟩, List.mem_of_getElem? (i := 463) (by decide +kernel), List.mem_of_getElem? (i := 607) (by decide +kernel), List.mem_of_getElem? (i := 608) (by decide +kernel)⟩
theorem lw_p15 : lw_okq (⟨"FactFlowModel", "joinFact", "(II)V"⟩, 25) := ⟨⟨by decide +kernel, by decide +kernel⟩, List.mem_of_getElem? (i := 463) (by decide +kernel), List.mem_of_getElem? (i := 611) (by decide +kernel), List.mem_of_getElem? (i := 612) (by decide +kernel)⟩
def lw_privs_1 : List (MethodName × Nat) := [(⟨"FactFlow$Solution", "begin", "()V"⟩, 4), (⟨"FactFlow$Fact", "reduce", "()V"⟩, 3), (⟨"FactFlow$Solution", "carry", "(LFactFlow$Program;I)V"⟩, 4), (⟨"FactFlow$Solution", "arrive", "(LFactFlow$Program;I)V"⟩, 4), (⟨"FactFlow", "comesTo", "(I)Z"⟩, 4), (⟨"FactFlow$Machine", "begin", "()V"⟩, 6), (⟨"FactFlow$Machine", "change", "(LFactFlow$Instruction;LFactFlow$Inputs;)V"⟩, 6), (⟨"FactFlow$Machine", "print", "(I)V"⟩, 6), (⟨"FactFlow$Machine", "placeBehind", "(LFactFlow$Instruction;I)I"⟩, 6), (⟨"FactFlowModel", "place", "(IIIII)Z"⟩, 25), (⟨"FactFlowModel", "none", "(I)Z"⟩, 25), (⟨"FactFlowModel", "solve", "()V"⟩, 25), (⟨"FactFlowModel", "result", "(III)V"⟩, 25), (⟨"FactFlowModel", "take", "(I)V"⟩, 25), (⟨"FactFlowModel", "join", "(I)V"⟩, 25), (⟨"FactFlowModel", "joinFact", "(II)V"⟩, 25)]
theorem lw_r1 : ∀ q ∈ lw_privs_1, lw_okq q := List.forall_mem_cons.mpr ⟨lw_p0, List.forall_mem_cons.mpr ⟨lw_p1, List.forall_mem_cons.mpr ⟨lw_p2, List.forall_mem_cons.mpr ⟨lw_p3, List.forall_mem_cons.mpr ⟨lw_p4, List.forall_mem_cons.mpr ⟨lw_p5, List.forall_mem_cons.mpr ⟨lw_p6, List.forall_mem_cons.mpr ⟨lw_p7, List.forall_mem_cons.mpr ⟨lw_p8, List.forall_mem_cons.mpr ⟨lw_p9, List.forall_mem_cons.mpr ⟨lw_p10, List.forall_mem_cons.mpr ⟨lw_p11, List.forall_mem_cons.mpr ⟨lw_p12, List.forall_mem_cons.mpr ⟨lw_p13, List.forall_mem_cons.mpr ⟨lw_p14, List.forall_mem_cons.mpr ⟨lw_p15, fun _ h => absurd h List.not_mem_nil⟩⟩⟩⟩⟩⟩⟩⟩⟩⟩⟩⟩⟩⟩⟩⟩
theorem lw_p16 : lw_okq (⟨"FactFlowModel", "pass", "(I)V"⟩, 25) := ⟨⟨by decide +kernel, by decide +kernel⟩, List.mem_of_getElem? (i := 463) (by decide +kernel), List.mem_of_getElem? (i := 624) (by decide +kernel), List.mem_of_getElem? (i := 625) (by decide +kernel)⟩
theorem lw_p17 : lw_okq (⟨"FactFlowModel", "load", "(I)V"⟩, 25) := ⟨⟨by decide +kernel, by decide +kernel⟩, List.mem_of_getElem? (i := 463) (by decide +kernel), List.mem_of_getElem? (i := 628) (by decide +kernel), List.mem_of_getElem? (i := 629) (by decide +kernel)⟩
theorem lw_p18 : lw_okq (⟨"FactFlowModel", "only", "(II)Z"⟩, 25) := ⟨⟨by decide +kernel, by decide +kernel⟩, List.mem_of_getElem? (i := 463) (by decide +kernel), List.mem_of_getElem? (i := 632) (by decide +kernel), List.mem_of_getElem? (i := 633) (by decide +kernel)⟩
theorem lw_p19 : lw_okq (⟨"FactFlowModel", "reduced", "()Z"⟩, 25) := ⟨⟨by decide +kernel, by decide +kernel⟩, List.mem_of_getElem? (i := 463) (by decide +kernel), List.mem_of_getElem? (i := 636) (by decide +kernel), List.mem_of_getElem? (i := 637) (by decide +kernel)⟩
theorem lw_p20 : lw_okq (⟨"FactFlowModel", "worked", "(I)Z"⟩, 25) := ⟨⟨by decide +kernel, by decide +kernel⟩, List.mem_of_getElem? (i := 463) (by decide +kernel), List.mem_of_getElem? (i := 643) (by decide +kernel), List.mem_of_getElem? (i := 644) (by decide +kernel)⟩
theorem lw_p21 : lw_okq (⟨"FactFlowModel", "reckon", "(III)Z"⟩, 25) := ⟨⟨by decide +kernel, by decide +kernel⟩, List.mem_of_getElem? (i := 463) (by decide +kernel), List.mem_of_getElem? (i := 647) (by decide +kernel), List.mem_of_getElem? (i := 648) (by decide +kernel)⟩
theorem lw_p22 : lw_okq (⟨"FactFlowModel", "signsBy", "(III)I"⟩, 25) := ⟨⟨by decide +kernel, by decide +kernel⟩, List.mem_of_getElem? (i := 463) (by decide +kernel), List.mem_of_getElem? (i := 651) (by decide +kernel), List.mem_of_getElem? (i := 652) (by decide +kernel)⟩
theorem lw_p23 : lw_okq (⟨"FactFlowModel", "untold", "(II)Z"⟩, 25) := ⟨⟨by decide +kernel, by decide +kernel⟩, List.mem_of_getElem? (i := 463) (by decide +kernel), List.mem_of_getElem? (i := 674) (by decide +kernel), List.mem_of_getElem? (i := 675) (by decide +kernel)⟩
theorem lw_p24 : lw_okq (⟨"FactFlowModel", "written", "(I)Z"⟩, 25) := ⟨⟨by decide +kernel, by decide +kernel⟩, List.mem_of_getElem? (i := 463) (by decide +kernel), List.mem_of_getElem? (i := 690) (by decide +kernel), List.mem_of_getElem? (i := 691) (by decide +kernel)⟩
theorem lw_p25 : lw_okq (⟨"FactFlowModel", "step", "()I"⟩, 25) := ⟨⟨by decide +kernel, by decide +kernel⟩, List.mem_of_getElem? (i := 463) (by decide +kernel), List.mem_of_getElem? (i := 706) (by decide +kernel), List.mem_of_getElem? (i := 707) (by decide +kernel)⟩
theorem lw_p26 : lw_okq (⟨"FactFlowModel", "worth", "(III)I"⟩, 25) := ⟨⟨by decide +kernel, by decide +kernel⟩, List.mem_of_getElem? (i := 463) (by decide +kernel), List.mem_of_getElem? (i := 710) (by decide +kernel), List.mem_of_getElem? (i := 711) (by decide +kernel)⟩
theorem lw_p27 : lw_okq (⟨"FactFlowModel", "read", "(I)V"⟩, 25) := ⟨⟨by decide +kernel, by decide +kernel⟩, List.mem_of_getElem? (i := 463) (by decide +kernel), List.mem_of_getElem? (i := 714) (by decide +kernel), List.mem_of_getElem? (i := 715) (by decide +kernel)⟩
theorem lw_p28 : lw_okq (⟨"FactFlowModel", "print", "(I)V"⟩, 25) := ⟨⟨by decide +kernel, by decide +kernel⟩, List.mem_of_getElem? (i := 463) (by decide +kernel), List.mem_of_getElem? (i := 718) (by decide +kernel), List.mem_of_getElem? (i := 719) (by decide +kernel)⟩
def lw_privs_2 : List (MethodName × Nat) := [(⟨"FactFlowModel", "pass", "(I)V"⟩, 25), (⟨"FactFlowModel", "load", "(I)V"⟩, 25), (⟨"FactFlowModel", "only", "(II)Z"⟩, 25), (⟨"FactFlowModel", "reduced", "()Z"⟩, 25), (⟨"FactFlowModel", "worked", "(I)Z"⟩, 25), (⟨"FactFlowModel", "reckon", "(III)Z"⟩, 25), (⟨"FactFlowModel", "signsBy", "(III)I"⟩, 25), (⟨"FactFlowModel", "untold", "(II)Z"⟩, 25), (⟨"FactFlowModel", "written", "(I)Z"⟩, 25), (⟨"FactFlowModel", "step", "()I"⟩, 25), (⟨"FactFlowModel", "worth", "(III)I"⟩, 25), (⟨"FactFlowModel", "read", "(I)V"⟩, 25), (⟨"FactFlowModel", "print", "(I)V"⟩, 25)]
theorem lw_r2 : ∀ q ∈ lw_privs_2, lw_okq q := List.forall_mem_cons.mpr ⟨lw_p16, List.forall_mem_cons.mpr ⟨lw_p17, List.forall_mem_cons.mpr ⟨lw_p18, List.forall_mem_cons.mpr ⟨lw_p19, List.forall_mem_cons.mpr ⟨lw_p20, List.forall_mem_cons.mpr ⟨lw_p21, List.forall_mem_cons.mpr ⟨lw_p22, List.forall_mem_cons.mpr ⟨lw_p23, List.forall_mem_cons.mpr ⟨lw_p24, List.forall_mem_cons.mpr ⟨lw_p25, List.forall_mem_cons.mpr ⟨lw_p26, List.forall_mem_cons.mpr ⟨lw_p27, List.forall_mem_cons.mpr ⟨lw_p28, fun _ h => absurd h List.not_mem_nil⟩⟩⟩⟩⟩⟩⟩⟩⟩⟩⟩⟩⟩
def lw_privs : List (MethodName × Nat) := lw_privs_1 ++ (lw_privs_2)
def lw_tbl : List Cond := k2_sels lw_privs ++ tables_1
theorem lw_privs_ok : ∀ q ∈ lw_privs, lw_okq q := by
  show ∀ q ∈ lw_privs_1 ++ (lw_privs_2), lw_okq q
  exact List.forall_mem_append.mpr ⟨lw_r1, lw_r2⟩
end
section
/-! Facts, in the numbers that the class and the reference hold: (bits, rest, signs). The first rows (bt, b_ ..) began as rows of kit/laws/BITS.to-paste. -/
def bt (x : Int32) (i : Nat) : Bool := x.toBitVec.getLsbD i
theorem b_ext {x y : Int32} (h : ∀ i, i < 32 → bt x i = bt y i) : x = y := Int32.toBitVec_inj.mp (BitVec.eq_of_getLsbD_eq (fun i hi => h i hi))
theorem b_or (x y : Int32) (i : Nat) : bt (x ||| y) i = (bt x i || bt y i) := by unfold bt; rw [Int32.toBitVec_or, BitVec.getLsbD_or]
theorem b_and (x y : Int32) (i : Nat) : bt (x &&& y) i = (bt x i && bt y i) := by unfold bt; rw [Int32.toBitVec_and, BitVec.getLsbD_and]
theorem b_xor (x y : Int32) (i : Nat) : bt (x ^^^ y) i = (bt x i ^^ bt y i) := by unfold bt; rw [Int32.toBitVec_xor, BitVec.getLsbD_xor]
theorem b_big {x : Int32} {i : Nat} (h : 32 ≤ i) : bt x i = false := BitVec.getLsbD_of_ge _ _ h
theorem b_0 (i : Nat) : bt 0 i = false := BitVec.getLsbD_zero
theorem s_l : ∀ n, n < 32 → ((nI n &&& 31).toBitVec.smod 32).toNat = n := by decide +kernel
theorem b_sshr (n : Nat) (hn : n < 32) (x : Int32) {i : Nat} (hi : i < 32) : bt (x >>> (nI n &&& 31)) i = if n + i < 32 then bt x (n + i) else bt x 31 := by
  unfold bt
  rw [Int32.toBitVec_shiftRight]
  show (x.toBitVec.sshiftRight ((nI n &&& 31).toBitVec.smod 32).toNat).getLsbD i = _
  rw [s_l n hn, BitVec.getLsbD_sshiftRight, BitVec.msb_eq_getLsbD_last]
  simp [hi]
theorem b_n (m i : Nat) : bt (nI m) i = (decide (i < 32) && m.testBit i) := by
  show (BitVec.ofNat 32 m).getLsbD i = _
  rw [BitVec.getLsbD_ofNat]
theorem b_zero {x : Int32} (h : ∀ i, i < 32 → bt x i = false) : x = 0 := b_ext (fun i hi => by rw [h i hi, b_0])
/-! numbers -/
def fc_min (x y : Int32) : Int32 := if y < x then y else x
def fc_cut (x k : Int32) : Int32 := if k = 32 then x else x &&& (1 <<< (k &&& 31) - 1)
def fc_sg (x : Int32) : Int32 := if x < 0 then 1 else if x = 0 then 2 else 4
def tz_go (x : Int32) : Nat → Nat → Nat
  | _, 0 => 32
  | n, f + 1 => if bt x n then n else tz_go x (n + 1) f
def tz_n (x : Int32) : Nat := tz_go x 0 32
def fc_tz (x : Int32) : Int32 := nI (tz_n x)
theorem tz_go_spec (x : Int32) : ∀ (f n : Nat), n + f = 32 → (∀ i, i < n → bt x i = false) → n ≤ tz_go x n f ∧ tz_go x n f ≤ 32 ∧ (∀ i, i < tz_go x n f → bt x i = false) ∧ (tz_go x n f < 32 → bt x (tz_go x n f) = true)
  | 0, n, hn, h => by
    have e : n = 32 := by omega
    subst e
    exact ⟨Nat.le_refl _, Nat.le_refl _, h, fun q => absurd q (Nat.lt_irrefl _)⟩
  | f + 1, n, hn, h => by
    unfold tz_go
    by_cases hb : bt x n = true
    · rw [if_pos hb]
      exact ⟨Nat.le_refl _, by omega, h, fun _ => hb⟩
    · rw [if_neg hb]
      have hb' : bt x n = false := by cases hq : bt x n <;> simp_all
      obtain ⟨h1, h2, h3, h4⟩ := tz_go_spec x f (n + 1) (by omega) (fun i hi => by
        rcases Nat.lt_or_ge i n with q | q
        · exact h i q
        · have : i = n := by omega
          rw [this]; exact hb')
      exact ⟨by omega, h2, h3, h4⟩
theorem tz_spec (x : Int32) : tz_n x ≤ 32 ∧ (∀ i, i < tz_n x → bt x i = false) ∧ (tz_n x < 32 → bt x (tz_n x) = true) := by
  obtain ⟨-, h1, h2, h3⟩ := tz_go_spec x 32 0 rfl (fun i h => absurd h (Nat.not_lt_zero _))
  exact ⟨h1, h2, h3⟩
theorem tz_0 : tz_n 0 = 32 := by decide +kernel
theorem tz_le {x : Int32} {j : Nat} (h : ∀ i, i < j → bt x i = false) (hj : j ≤ 32) : j ≤ tz_n x := by
  obtain ⟨h1, h2, h3⟩ := tz_spec x
  rcases Nat.lt_or_ge (tz_n x) j with q | q
  · have := h _ q
    rw [h3 (by omega)] at this
    cases this
  · exact q
theorem n_32 {k : Nat} (h : k < 2 ^ 31) : nI k = 32 ↔ k = 32 := nI_eq (b := 32) h (by decide)
theorem fc_min_n {a b : Nat} (ha : a < 2 ^ 31) (hb : b < 2 ^ 31) : fc_min (nI a) (nI b) = nI (min a b) := by
  unfold fc_min
  by_cases h : b < a
  · rw [if_pos ((nI_ltI hb ha).mpr h), Nat.min_eq_right (Nat.le_of_lt h)]
  · rw [if_neg (fun q => h ((nI_ltI hb ha).mp q)), Nat.min_eq_left (Nat.le_of_not_lt h)]
theorem fc_cut_m : ∀ k, k < 17 → ∀ i, i < 32 → bt (1 <<< (nI k &&& 31) - 1) i = decide (i < k) := by decide +kernel
theorem fc_cut_b {k : Nat} (hk : k ≤ 16 ∨ k = 32) (x : Int32) (i : Nat) : bt (fc_cut x (nI k)) i = (decide (i < k) && bt x i) := by
  unfold fc_cut
  rcases hk with hk | hk
  · rw [if_neg (fun q => by have := (n_32 (by omega)).mp q; omega), b_and]
    rcases Nat.lt_or_ge i 32 with h | h
    · rw [fc_cut_m k (by omega) i h, Bool.and_comm]
    · rw [b_big h]; simp
  · subst hk
    rw [if_pos (show nI 32 = 32 from rfl)]
    rcases Nat.lt_or_ge i 32 with h | h
    · simp [h]
    · rw [b_big h]; simp
/-! a fact -/
abbrev ft_T : Type := Int32 × Int32 × Int32
/-- a fact as both sides keep it: reduced, some int is told -/
def ft_ok (f : ft_T) : Prop := ∃ k s : Nat, f.1 = nI k ∧ f.2.2 = nI s ∧ (k ≤ 16 ∨ k = 32) ∧ 0 < s ∧ s < 8 ∧ (∀ i, k ≤ i → bt f.2.1 i = false) ∧ (k = 32 → nI s = fc_sg f.2.1) ∧ (k ≠ 32 → f.2.1 ≠ 0 → s &&& 2 = 0) ∧ (s = 2 → k = 32)
/-- f tells no int that h doesn't -/
def ft_le (f h : ft_T) : Prop := ∃ k j : Nat, f.1 = nI k ∧ h.1 = nI j ∧ j ≤ k ∧ k ≤ 32 ∧ (∀ i, i < j → bt h.2.1 i = bt f.2.1 i) ∧ h.2.2 ||| f.2.2 = h.2.2
def ft_jn (f h : ft_T) : ft_T :=
  ((if fc_min f.1 h.1 = 32 ∧ f.2.1 ^^^ h.2.1 = 0 then 32 else fc_min 16 (fc_min (fc_min f.1 h.1) (fc_tz (f.2.1 ^^^ h.2.1)))),
   fc_cut f.2.1 (if fc_min f.1 h.1 = 32 ∧ f.2.1 ^^^ h.2.1 = 0 then 32 else fc_min 16 (fc_min (fc_min f.1 h.1) (fc_tz (f.2.1 ^^^ h.2.1)))),
   f.2.2 ||| h.2.2)
theorem sg_or : ∀ s, s < 8 → ∀ t, t < 8 → nI s ||| nI t = nI (s ||| t) ∧ (s ||| t) < 8 ∧ nI s &&& nI t = nI (s &&& t) ∧ (s &&& t) < 8 := by decide +kernel
theorem sg_lt (x : Int32) : ∃ s, s < 8 ∧ 0 < s ∧ fc_sg x = nI s ∧ (s = 1 ∨ s = 2 ∨ s = 4) ∧ (s = 2 ↔ x = 0) := by
  unfold fc_sg
  by_cases h : x < 0
  · rw [if_pos h]
    refine ⟨1, by decide, by decide, rfl, Or.inl rfl, ⟨fun q => (by cases q), fun q => ?_⟩⟩
    subst q
    exact absurd h (by decide)
  · rw [if_neg h]
    by_cases h0 : x = 0
    · rw [if_pos h0]
      exact ⟨2, by decide, by decide, rfl, Or.inr (Or.inl rfl), ⟨fun _ => h0, fun _ => rfl⟩⟩
    · rw [if_neg h0]
      exact ⟨4, by decide, by decide, rfl, Or.inr (Or.inr rfl), ⟨fun q => (by cases q), fun q => absurd q h0⟩⟩
/-- the bits of a join -/
def jn_k (k j : Nat) (d : Int32) : Nat := if min k j = 32 ∧ d = 0 then 32 else min 16 (min (min k j) (tz_n d))
theorem jn_k_eq {k j : Nat} (hk : k ≤ 32) (hj : j ≤ 32) (d : Int32) : (if fc_min (nI k) (nI j) = 32 ∧ d = 0 then (32 : Int32) else fc_min 16 (fc_min (fc_min (nI k) (nI j)) (fc_tz d))) = nI (jn_k k j d) := by
  have h3 := (tz_spec d).1
  have e0 : (fc_min (nI k) (nI j) = 32) ↔ min k j = 32 := by
    rw [fc_min_n (by omega) (by omega)]
    exact n_32 (by omega)
  unfold jn_k
  by_cases h : min k j = 32 ∧ d = 0
  · rw [if_pos h, if_pos ⟨e0.mpr h.1, h.2⟩]; rfl
  · rw [if_neg h, if_neg (fun q => h ⟨e0.mp q.1, q.2⟩), fc_min_n (by omega) (by omega)]
    unfold fc_tz
    rw [fc_min_n (by omega) (by omega)]
    exact fc_min_n (by decide) (by omega)
theorem jn_k_in (k j : Nat) (d : Int32) : jn_k k j d ≤ 16 ∨ jn_k k j d = 32 := by
  unfold jn_k
  by_cases h : min k j = 32 ∧ d = 0
  · rw [if_pos h]; exact Or.inr rfl
  · rw [if_neg h]; exact Or.inl (by omega)
theorem jn_k_le {k j : Nat} (d : Int32) : jn_k k j d ≤ k ∧ jn_k k j d ≤ j := by
  unfold jn_k
  by_cases h : min k j = 32 ∧ d = 0
  · rw [if_pos h]; omega
  · rw [if_neg h]; omega
theorem jn_k_bits {k j : Nat} {x y : Int32} {i : Nat} (hi : i < jn_k k j (x ^^^ y)) : bt x i = bt y i := by
  have key : bt (x ^^^ y) i = false := by
    unfold jn_k at hi
    by_cases h : min k j = 32 ∧ x ^^^ y = 0
    · rw [h.2, b_0]
    · rw [if_neg h] at hi
      exact (tz_spec _).2.1 i (by omega)
  rw [b_xor] at key
  cases h1 : bt x i <;> cases h2 : bt y i <;> simp_all
theorem ft_jn_eq {f h : ft_T} {k j : Nat} (hf : f.1 = nI k) (hh : h.1 = nI j) (hk : k ≤ 32) (hj : j ≤ 32) : ft_jn f h = (nI (jn_k k j (f.2.1 ^^^ h.2.1)), fc_cut f.2.1 (nI (jn_k k j (f.2.1 ^^^ h.2.1))), f.2.2 ||| h.2.2) := by
  unfold ft_jn
  rw [hf, hh, jn_k_eq hk hj]
theorem ft_le_refl {f : ft_T} (hf : ft_ok f) : ft_le f f := by
  obtain ⟨k, s, h1, h2, h3, h4, h5, -⟩ := hf
  exact ⟨k, k, h1, h1, Nat.le_refl _, by omega, fun _ _ => rfl, by rw [h2]; exact (by decide +kernel : ∀ s, s < 8 → nI s ||| nI s = nI s) s h5⟩
theorem ft_le_trans {f h q : ft_T} (a : ft_le f h) (b : ft_le h q) : ft_le f q := by
  obtain ⟨k, j, a1, a2, a3, a4, a5, a6⟩ := a
  obtain ⟨k', i, b1, b2, b3, b4, b5, b6⟩ := b
  have e : k' = j := (nI_eq (by omega) (by omega)).mp (b1.symm.trans a2)
  subst e
  refine ⟨k, i, a1, b2, by omega, a4, fun t ht => (b5 t ht).trans (a5 t (by omega)), ?_⟩
  rw [← b6, Int32.or_assoc, a6]
theorem ft_le_jn {f h : ft_T} (hf : ft_ok f) (hh : ft_ok h) : ft_le f (ft_jn f h) ∧ ft_le h (ft_jn f h) := by
  obtain ⟨k, s, h1, h2, h3, h4, h5, -⟩ := hf
  obtain ⟨j, t, g1, g2, g3, g4, g5, -⟩ := hh
  rw [ft_jn_eq h1 g1 (by omega) (by omega)]
  have hl := jn_k_le (k := k) (j := j) (f.2.1 ^^^ h.2.1)
  have hin := jn_k_in k j (f.2.1 ^^^ h.2.1)
  have or1 : (f.2.2 ||| h.2.2) ||| f.2.2 = f.2.2 ||| h.2.2 := by
    rw [h2, g2]
    exact (by decide +kernel : ∀ s, s < 8 → ∀ t, t < 8 → (nI s ||| nI t) ||| nI s = nI s ||| nI t) s h5 t g5
  have or2 : (f.2.2 ||| h.2.2) ||| h.2.2 = f.2.2 ||| h.2.2 := by
    rw [h2, g2]
    exact (by decide +kernel : ∀ s, s < 8 → ∀ t, t < 8 → (nI s ||| nI t) ||| nI t = nI s ||| nI t) s h5 t g5
  refine ⟨⟨k, _, h1, rfl, hl.1, by omega, fun i hi => ?_, or1⟩, ⟨j, _, g1, rfl, hl.2, by omega, fun i hi => ?_, or2⟩⟩
  · rw [fc_cut_b hin, decide_eq_true hi, Bool.true_and]
  · rw [fc_cut_b hin, decide_eq_true hi, Bool.true_and]
    exact jn_k_bits hi
theorem ft_jn_abs {f h : ft_T} (hf : ft_ok f) (hl : ft_le h f) : ft_jn f h = f := by
  obtain ⟨k, s, h1, h2, h3, h4, h5, h6, h7, h8, h9⟩ := hf
  obtain ⟨j, k', l1, l2, l3, l4, l5, l6⟩ := hl
  have e : k' = k := (nI_eq (by omega) (by omega)).mp (l2.symm.trans h1)
  subst e
  rw [ft_jn_eq h1 l1 (by omega) (by omega), l6]
  have ha : jn_k k' j (f.2.1 ^^^ h.2.1) = k' := by
    have hz : ∀ i, i < k' → bt (f.2.1 ^^^ h.2.1) i = false := fun i hi => by rw [b_xor, l5 i hi]; simp
    unfold jn_k
    rcases h3 with h3 | h3
    · rw [if_neg (fun q => by have := q.1; omega)]
      have := tz_le hz (by omega)
      omega
    · subst h3
      rw [if_pos ⟨by omega, b_zero hz⟩]
  rw [ha]
  have hr : fc_cut f.2.1 (nI k') = f.2.1 := b_ext (fun i _ => by
    rw [fc_cut_b h3]
    rcases Nat.lt_or_ge i k' with q | q
    · simp [q]
    · rw [h6 i q]; simp)
  rw [hr, ← h1]
theorem ft_jn_ok {f h : ft_T} (hf : ft_ok f) (hh : ft_ok h) : ft_ok (ft_jn f h) := by
  obtain ⟨k, s, h1, h2, h3, h4, h5, h6, h7, h8, h9⟩ := hf
  obtain ⟨j, t, g1, g2, g3, g4, g5, g6, g7, g8, g9⟩ := hh
  rw [ft_jn_eq h1 g1 (by omega) (by omega)]
  have hl := jn_k_le (k := k) (j := j) (f.2.1 ^^^ h.2.1)
  have hin := jn_k_in k j (f.2.1 ^^^ h.2.1)
  have hbits : ∀ i, i < jn_k k j (f.2.1 ^^^ h.2.1) → bt f.2.1 i = bt h.2.1 i := fun i hi => jn_k_bits hi
  have hor := sg_or s h5 t g5
  have hpos : 0 < (s ||| t) := (by decide +kernel : ∀ s, s < 8 → ∀ t, t < 8 → 0 < s → 0 < (s ||| t)) s h5 t g5 h4
  have full : jn_k k j (f.2.1 ^^^ h.2.1) = 32 → k = 32 ∧ j = 32 ∧ f.2.1 = h.2.1 := by
    intro q
    refine ⟨by omega, by omega, b_ext (fun i hi => hbits i (by omega))⟩
  refine ⟨jn_k k j (f.2.1 ^^^ h.2.1), s ||| t, rfl, by show f.2.2 ||| h.2.2 = _; rw [h2, g2]; exact hor.1, hin, hpos, hor.2.1, fun i hi => ?_, fun q => ?_, fun q hne => ?_, fun q => ?_⟩
  · show bt (fc_cut _ _) i = false
    rw [fc_cut_b hin, decide_eq_false (by omega)]; rfl
  · obtain ⟨e1, e2, e3⟩ := full q
    have c1 := h7 e1
    have c2 := g7 e2
    rw [← e3] at c2
    show nI (s ||| t) = fc_sg (fc_cut f.2.1 (nI (jn_k k j (f.2.1 ^^^ h.2.1))))
    rw [q, show fc_cut f.2.1 (nI 32) = f.2.1 from if_pos rfl, ← c1]
    have e4 : s = t := (nI_eq (by omega) (by omega)).mp (c1.trans c2.symm)
    subst e4
    rw [Nat.or_self]
  · -- the rest isn't 0: neither holds ZERO
    have hne2 : ¬ fc_cut f.2.1 (nI (jn_k k j (f.2.1 ^^^ h.2.1))) = 0 := hne
    have hf0 : f.2.1 ≠ 0 := fun e => hne2 (b_zero (fun i _ => by rw [fc_cut_b hin, e, b_0]; simp))
    have hh0 : h.2.1 ≠ 0 := fun e => hne2 (b_zero (fun i _ => by
      rw [fc_cut_b hin]
      rcases Nat.lt_or_ge i (jn_k k j (f.2.1 ^^^ h.2.1)) with z | z
      · rw [hbits i z, e, b_0]; simp
      · rw [decide_eq_false (by omega)]; rfl))
    have z1 : s &&& 2 = 0 := by
      by_cases e : k = 32
      · have c := h7 e
        obtain ⟨s0, -, -, q1, q2, q3⟩ := sg_lt f.2.1
        have : s = s0 := (nI_eq (by omega) (by omega)).mp (c.trans q1)
        subst this
        rcases q2 with q2 | q2 | q2
        · subst q2; rfl
        · exact absurd (q3.mp q2) hf0
        · subst q2; rfl
      · exact h8 e hf0
    have z2 : t &&& 2 = 0 := by
      by_cases e : j = 32
      · have c := g7 e
        obtain ⟨s0, -, -, q1, q2, q3⟩ := sg_lt h.2.1
        have : t = s0 := (nI_eq (by omega) (by omega)).mp (c.trans q1)
        subst this
        rcases q2 with q2 | q2 | q2
        · subst q2; rfl
        · exact absurd (q3.mp q2) hh0
        · subst q2; rfl
      · exact g8 e hh0
    exact (by decide +kernel : ∀ s, s < 8 → ∀ t, t < 8 → s &&& 2 = 0 → t &&& 2 = 0 → (s ||| t) &&& 2 = 0) s h5 t g5 z1 z2
  · have e := (by decide +kernel : ∀ s, s < 8 → ∀ t, t < 8 → (0 < s ∧ 0 < t ∧ (s ||| t) = 2 → s = 2 ∧ t = 2)) s h5 t g5 ⟨h4, g4, q⟩
    have e1 := h9 e.1
    have e2 := g9 e.2
    have z0 : ∀ {x : Int32} {s : Nat}, s < 8 → nI s = fc_sg x → s = 2 → x = 0 := by
      intro x s hs hx e
      obtain ⟨s0, w1, -, q1, q2, q3⟩ := sg_lt x
      have : s = s0 := (nI_eq (by omega) (by omega)).mp (hx.trans q1)
      exact q3.mp (this ▸ e)
    have r1 := z0 h5 (h7 e1) e.1
    have r2 := z0 g5 (g7 e2) e.2
    unfold jn_k
    rw [if_pos ⟨by omega, by rw [r1, r2]; rfl⟩]
/-! the measure: it falls when a join makes a fact tell more -/
def mu_b (b : Int32) : Nat := if b = 32 then 17 else b.toNatClampNeg
def mu_s (s : Int32) : Nat := 3 - ((if bt s 0 then 1 else 0) + (if bt s 1 then 1 else 0) + (if bt s 2 then 1 else 0))
def mu_f (f : ft_T) : Nat := mu_b f.1 + mu_s f.2.2
theorem mu_b_n {k : Nat} (h : k ≤ 16 ∨ k = 32) : mu_b (nI k) = if k = 32 then 17 else k := by
  unfold mu_b
  by_cases e : k = 32
  · subst e; rfl
  · rw [if_neg e, if_neg (fun q => e ((n_32 (by omega)).mp q)), nI_clamp (by omega)]
theorem mu_f_le {f : ft_T} (hf : ft_ok f) : mu_f f ≤ 19 := by
  obtain ⟨k, s, h1, h2, h3, h4, h5, -⟩ := hf
  unfold mu_f
  rw [h1, h2, mu_b_n h3]
  have := (by decide +kernel : ∀ s, s < 8 → 0 < s → mu_s (nI s) ≤ 2) s h5 h4
  by_cases e : k = 32
  · rw [if_pos e]; omega
  · rw [if_neg e]; omega
theorem mu_jn {f h : ft_T} (hf : ft_ok f) (hh : ft_ok h) : mu_f (ft_jn f h) ≤ mu_f f ∧ (¬ ((ft_jn f h).1 = f.1 ∧ (ft_jn f h).2.2 = f.2.2) → mu_f (ft_jn f h) < mu_f f) := by
  obtain ⟨k, s, h1, h2, h3, h4, h5, -⟩ := hf
  obtain ⟨j, t, g1, g2, g3, g4, g5, -⟩ := hh
  rw [ft_jn_eq h1 g1 (by omega) (by omega)]
  have hl := jn_k_le (k := k) (j := j) (f.2.1 ^^^ h.2.1)
  have hin := jn_k_in k j (f.2.1 ^^^ h.2.1)
  generalize jn_k k j (f.2.1 ^^^ h.2.1) = a at hl hin
  unfold mu_f
  dsimp only
  rw [h1, h2, g2, mu_b_n h3, mu_b_n hin]
  have c := (by decide +kernel : ∀ s, s < 8 → ∀ t, t < 8 → mu_s (nI s ||| nI t) ≤ mu_s (nI s) ∧ (¬ nI s ||| nI t = nI s → mu_s (nI s ||| nI t) < mu_s (nI s))) s h5 t g5
  have cb : (if a = 32 then 17 else a) ≤ (if k = 32 then 17 else k) ∧ (a ≠ k → (if a = 32 then 17 else a) < (if k = 32 then 17 else k)) := by
    by_cases e1 : a = 32 <;> by_cases e2 : k = 32 <;> simp [e1, e2] <;> omega
  refine ⟨by omega, fun q => ?_⟩
  by_cases e : a = k
  · subst e
    have : ¬ nI s ||| nI t = nI s := fun z => q ⟨rfl, z⟩
    have := c.2 this
    omega
  · have := cb.2 e
    omega
/-- unchanged in bits and signs: unchanged -/
theorem ft_jn_same {f h : ft_T} (hf : ft_ok f) (hh : ft_ok h) (e1 : (ft_jn f h).1 = f.1) (e2 : (ft_jn f h).2.2 = f.2.2) : ft_jn f h = f := by
  have hj := ft_le_jn hf hh
  obtain ⟨k, s, h1, h2, h3, h4, h5, h6, -⟩ := hf
  obtain ⟨j, t, g1, g2, g3, g4, g5, -⟩ := hh
  rw [ft_jn_eq h1 g1 (by omega) (by omega)] at e1 e2 ⊢
  have hin := jn_k_in k j (f.2.1 ^^^ h.2.1)
  have e : jn_k k j (f.2.1 ^^^ h.2.1) = k := (nI_eq (by omega) (by omega)).mp (e1.trans h1)
  rw [e] at hin ⊢
  have hr : fc_cut f.2.1 (nI k) = f.2.1 := b_ext (fun i _ => by
    rw [fc_cut_b hin]
    rcases Nat.lt_or_ge i k with q | q
    · simp [q]
    · rw [h6 i q]; simp)
  have e2 : f.2.2 ||| h.2.2 = f.2.2 := e2
  rw [hr, e2, ← h1]
end
section
/-! reducing; what comes of an operation -/
def ft_red (f : ft_T) : ft_T :=
  if (if f.1 = 32 then f.2.2 &&& fc_sg f.2.1 else if f.2.1 = 0 then f.2.2 else f.2.2 &&& (-3)) = 2 then (32, 0, 2)
  else (f.1, f.2.1, if f.1 = 32 then f.2.2 &&& fc_sg f.2.1 else if f.2.1 = 0 then f.2.2 else f.2.2 &&& (-3))
def ft_num (x : Int32) : ft_T := (32, x, fc_sg x)
def ft_any : ft_T := (0, 0, 7)
def ft_keep (f : ft_T) (kept : Int32) : ft_T := ft_red (f.1, f.2.1, f.2.2 &&& kept)
def fc_calc (o x y : Int32) : Int32 := if o = 2 then x + y else if o = 3 then x - y else if o = 4 then x * y else if y = 0 then 0 else x / y
def fc_tab (i j : Nat) : Int32 := match i with
  | 0 => [7, 1, 7, 1, 2, 4, 7, 4, 5].getD j 0
  | 1 => [7, 1, 5, 5, 2, 1, 5, 4, 7].getD j 0
  | 2 => [7, 2, 7, 2, 2, 2, 7, 2, 7].getD j 0
  | _ => [7, 0, 3, 2, 0, 2, 3, 0, 6].getD j 0
/-- the table of an operation -/
def fc_ti (o : Int32) : Nat := if o = 2 then 0 else if o = 3 then 1 else if o = 4 then 2 else 3
/-- the signs that come of the first n pairs -/
def fc_rs (i : Nat) (x y : Int32) : Nat → Int32
  | 0 => 0
  | n + 1 => if (x >>> (nI (n / 3) &&& 31)) &&& (y >>> (nI (n % 3) &&& 31)) &&& 1 = 0 then fc_rs i x y n else fc_rs i x y n ||| fc_tab i n
def fc_pb (f h : ft_T) : Int32 :=
  if 32 ≤ fc_min (f.1 + h.1) (fc_min (f.1 + fc_tz h.2.1) (h.1 + fc_tz f.2.1)) then 32 else fc_min 16 (fc_min (f.1 + h.1) (fc_min (f.1 + fc_tz h.2.1) (h.1 + fc_tz f.2.1)))
def fc_ob (o : Int32) (f h : ft_T) : Int32 := if o = 5 ∧ fc_min f.1 h.1 ≠ 32 then 0 else fc_min f.1 h.1
def fc_kb (o : Int32) (f h : ft_T) : Int32 := if o = 4 then fc_pb f h else fc_ob o f h
def ft_res (o : Int32) (f h : ft_T) : ft_T :=
  ft_red (fc_kb o f h, fc_cut (if fc_kb o f h = 0 then 0 else fc_calc o f.2.1 h.2.1) (fc_kb o f h), fc_rs (fc_ti o) f.2.2 h.2.2 9)
theorem ft_z0 {x : Int32} {s : Nat} (hs : s < 8) (hx : nI s = fc_sg x) : s = 2 ↔ x = 0 := by
  obtain ⟨s0, w1, -, q1, q2, q3⟩ := sg_lt x
  have : s = s0 := (nI_eq (by omega) (by omega)).mp (hx.trans q1)
  rw [this]; exact q3
theorem ft_cut_self {k : Nat} (hk : k ≤ 16 ∨ k = 32) {x : Int32} (h : ∀ i, k ≤ i → bt x i = false) : fc_cut x (nI k) = x := b_ext (fun i _ => by
  rw [fc_cut_b hk]
  rcases Nat.lt_or_ge i k with q | q
  · simp [q]
  · rw [h i q]; simp)
/-- the signs that reducing leaves -/
def rd_s (k : Nat) (x : Int32) (s : Nat) : Nat := if k = 32 then (if x < 0 then s &&& 1 else if x = 0 then s &&& 2 else s &&& 4) else if x = 0 then s else s &&& 5
theorem rd_s_eq {k s : Nat} (hk : k ≤ 32) (hs : s < 8) (x : Int32) : (if nI k = 32 then nI s &&& fc_sg x else if x = 0 then nI s else nI s &&& (-3)) = nI (rd_s k x s) ∧ rd_s k x s < 8 := by
  have e0 : (nI k = 32) ↔ k = 32 := nI_eq (b := 32) (by omega) (by omega)
  have c := (by decide +kernel : ∀ s, s < 8 → (nI s &&& 1 = nI (s &&& 1) ∧ nI s &&& 2 = nI (s &&& 2) ∧ nI s &&& 4 = nI (s &&& 4) ∧ nI s &&& (-3) = nI (s &&& 5)) ∧ (s &&& 1) < 8 ∧ (s &&& 2) < 8 ∧ (s &&& 4) < 8 ∧ (s &&& 5) < 8) s hs
  unfold rd_s fc_sg
  by_cases h : k = 32
  · rw [if_pos h, if_pos (e0.mpr h)]
    by_cases h1 : x < 0
    · rw [if_pos h1, if_pos h1]; exact ⟨c.1.1, c.2.1⟩
    · rw [if_neg h1, if_neg h1]
      by_cases h2 : x = 0
      · rw [if_pos h2, if_pos h2]; exact ⟨c.1.2.1, c.2.2.1⟩
      · rw [if_neg h2, if_neg h2]; exact ⟨c.1.2.2.1, c.2.2.2.1⟩
  · rw [if_neg h, if_neg (fun q => h (e0.mp q))]
    by_cases h2 : x = 0
    · rw [if_pos h2, if_pos h2]; exact ⟨rfl, hs⟩
    · rw [if_neg h2, if_neg h2]; exact ⟨c.1.2.2.2, c.2.2.2.2⟩
theorem ft_red_eq {k s : Nat} (hk : k ≤ 32) (hs : s < 8) (x : Int32) : ft_red (nI k, x, nI s) = if rd_s k x s = 2 then (32, 0, 2) else (nI k, x, nI (rd_s k x s)) := by
  obtain ⟨e, hlt⟩ := rd_s_eq hk hs x
  unfold ft_red
  dsimp only
  rw [e]
  by_cases h : rd_s k x s = 2
  · rw [if_pos h, if_pos (by rw [h]; rfl)]
  · rw [if_neg h, if_neg (show ¬ nI (rd_s k x s) = 2 from fun q => h ((nI_eq (b := 2) (by omega) (by decide)).mp q))]
theorem ft_zero_ok : ft_ok (32, 0, 2) := ⟨32, 2, rfl, rfl, Or.inr rfl, by decide, by decide, fun i _ => b_0 i, fun _ => rfl, fun h => absurd rfl h, fun _ => rfl⟩
theorem ft_red_ok {k s : Nat} (hk : k ≤ 16 ∨ k = 32) (hs : s < 8) {x : Int32} (hx : ∀ i, k ≤ i → bt x i = false) (hne : rd_s k x s ≠ 0) : ft_ok (ft_red (nI k, x, nI s)) := by
  rw [ft_red_eq (by omega) hs]
  obtain ⟨-, hlt⟩ := rd_s_eq (k := k) (by omega) hs x
  by_cases h : rd_s k x s = 2
  · rw [if_pos h]; exact ft_zero_ok
  · rw [if_neg h]
    refine ⟨k, rd_s k x s, rfl, rfl, hk, Nat.pos_of_ne_zero hne, hlt, hx, fun e => ?_, fun e e0 => ?_, fun e => absurd e h⟩
    · show nI (rd_s k x s) = fc_sg x
      unfold rd_s at hne ⊢
      unfold fc_sg
      rw [if_pos e] at hne ⊢
      have c := (by decide +kernel : ∀ s, s < 8 → (s &&& 1 ≠ 0 → s &&& 1 = 1) ∧ (s &&& 2 ≠ 0 → s &&& 2 = 2) ∧ (s &&& 4 ≠ 0 → s &&& 4 = 4)) s hs
      by_cases h1 : x < 0
      · rw [if_pos h1] at hne ⊢; rw [if_pos h1, c.1 hne]; rfl
      · rw [if_neg h1] at hne ⊢; rw [if_neg h1]
        by_cases h2 : x = 0
        · rw [if_pos h2] at hne ⊢; rw [if_pos h2, c.2.1 hne]; rfl
        · rw [if_neg h2] at hne ⊢; rw [if_neg h2, c.2.2 hne]; rfl
    · have e0 : ¬ x = 0 := e0
      show rd_s k x s &&& 2 = 0
      unfold rd_s
      rw [if_neg e, if_neg e0]
      exact (by decide +kernel : ∀ s, s < 8 → (s &&& 5) &&& 2 = 0) s hs
theorem ft_num_ok (x : Int32) : ft_ok (ft_num x) := by
  obtain ⟨s, h1, h2, h3, h4, h5⟩ := sg_lt x
  exact ⟨32, s, rfl, h3, Or.inr rfl, h2, h1, fun i hi => b_big hi, fun _ => h3.symm, fun h => absurd rfl h, fun _ => rfl⟩
theorem ft_num_red (x : Int32) : ft_red (32, x, 7) = ft_num x := by
  have e : (32, x, 7) = ((nI 32, x, nI 7) : ft_T) := rfl
  rw [e, ft_red_eq (by decide) (by decide)]
  unfold rd_s ft_num fc_sg
  rw [if_pos rfl]
  by_cases h1 : x < 0
  · rw [if_pos h1, if_pos h1]; rfl
  · rw [if_neg h1, if_neg h1]
    by_cases h2 : x = 0
    · rw [if_pos h2, if_pos h2, h2]; rfl
    · rw [if_neg h2, if_neg h2]; rfl
theorem ft_any_ok : ft_ok ft_any := ⟨0, 7, rfl, rfl, Or.inl (by decide), by decide, by decide, fun i _ => b_0 i, fun h => (by cases h), fun _ h => absurd rfl h, fun h => by cases h⟩
/-- a fact of which some signs are kept: nothing is left, or a good fact with no other signs -/
theorem ft_keep_ok {f : ft_T} (hf : ft_ok f) {t : Nat} (ht : t < 8) {kept : Int32} (hk : ∀ s, s < 8 → nI s &&& kept = nI (s &&& t)) : ((ft_keep f kept).2.2 = 0) ∨ (ft_ok (ft_keep f kept) ∧ ∃ s, s < 8 ∧ (ft_keep f kept).2.2 = nI s ∧ s &&& t = s) := by
  obtain ⟨k, s, h1, h2, h3, h4, h5, h6, -⟩ := hf
  have hs : (s &&& t) < 8 := (sg_or s h5 t ht).2.2.2
  have e : ft_keep f kept = ft_red (nI k, f.2.1, nI (s &&& t)) := by unfold ft_keep; rw [h1, h2, hk s h5]
  rw [e]
  obtain ⟨-, hlt⟩ := rd_s_eq (k := k) (by omega) hs f.2.1
  by_cases hne : rd_s k f.2.1 (s &&& t) = 0
  · left
    rw [ft_red_eq (by omega) hs, if_neg (by omega), hne]; rfl
  · right
    refine ⟨ft_red_ok h3 hs h6 hne, rd_s k f.2.1 (s &&& t), hlt, ?_, ?_⟩
    · rw [ft_red_eq (by omega) hs]
      by_cases h : rd_s k f.2.1 (s &&& t) = 2
      · rw [if_pos h, h]; rfl
      · rw [if_neg h]
    · have c := (by decide +kernel : ∀ s, s < 8 → ∀ t, t < 8 → (((s &&& t) &&& 1) &&& t = (s &&& t) &&& 1) ∧ (((s &&& t) &&& 2) &&& t = (s &&& t) &&& 2) ∧ (((s &&& t) &&& 4) &&& t = (s &&& t) &&& 4) ∧ (((s &&& t) &&& 5) &&& t = (s &&& t) &&& 5) ∧ ((s &&& t) &&& t = s &&& t)) s h5 t ht
      unfold rd_s
      by_cases q : k = 32
      · rw [if_pos q]
        by_cases q1 : f.2.1 < 0
        · rw [if_pos q1]; exact c.1
        · rw [if_neg q1]
          by_cases q2 : f.2.1 = 0
          · rw [if_pos q2]; exact c.2.1
          · rw [if_neg q2]; exact c.2.2.1
      · rw [if_neg q]
        by_cases q2 : f.2.1 = 0
        · rw [if_pos q2]; exact c.2.2.2.2
        · rw [if_neg q2]; exact c.2.2.2.1
/-- a good fact is reduced -/
theorem ft_red_self {f : ft_T} (hf : ft_ok f) : ft_red f = f := by
  obtain ⟨k, s, h1, h2, h3, h4, h5, h6, h7, h8, h9⟩ := hf
  have e : f = (nI k, f.2.1, nI s) := by rw [← h1, ← h2]
  have hr : rd_s k f.2.1 s = s := by
    unfold rd_s
    by_cases q : k = 32
    · rw [if_pos q]
      have c := h7 q
      unfold fc_sg at c
      by_cases q1 : f.2.1 < 0
      · rw [if_pos q1] at c ⊢
        have : s = 1 := (nI_eq (b := 1) (by omega) (by omega)).mp c
        rw [this]; rfl
      · rw [if_neg q1] at c ⊢
        by_cases q2 : f.2.1 = 0
        · rw [if_pos q2] at c ⊢
          have : s = 2 := (nI_eq (b := 2) (by omega) (by omega)).mp c
          rw [this]; rfl
        · rw [if_neg q2] at c ⊢
          have : s = 4 := (nI_eq (b := 4) (by omega) (by omega)).mp c
          rw [this]; rfl
    · rw [if_neg q]
      by_cases q2 : f.2.1 = 0
      · rw [if_pos q2]
      · rw [if_neg q2]
        exact (by decide +kernel : ∀ s, s < 8 → s &&& 2 = 0 → s &&& 5 = s) s h5 (h8 q q2)
  rw [e, ft_red_eq (by omega) h5]
  rw [show rd_s k (nI k, f.2.1, nI s).2.1 s = rd_s k f.2.1 s from rfl, hr]
  by_cases q : s = 2
  · have q1 := h9 q
    have q2 := (ft_z0 h5 (h7 q1)).mp q
    rw [if_pos q, q, q1]
    show (32, 0, 2) = (nI 32, f.2.1, nI 2)
    rw [q2]; rfl
  · rw [if_neg q]
/-! signs of sums, differences, quotients -/
theorem sg_toInt (x : Int32) : (x < 0 ↔ x.toInt < 0) ∧ (x = 0 ↔ x.toInt = 0) := by
  refine ⟨Int32.lt_iff_toInt_lt, ⟨fun h => by rw [h]; rfl, fun h => Int32.toInt_inj.mp (h.trans rfl)⟩⟩
theorem sg_rng (x : Int32) : -2147483648 ≤ x.toInt ∧ x.toInt ≤ 2147483647 := ⟨Int32.le_toInt x, Int32.toInt_le x⟩
theorem bm_x (z : Int) : ∃ q : Int, z.bmod (2 ^ 32) = z - 4294967296 * q ∧ -2147483648 ≤ z.bmod (2 ^ 32) ∧ z.bmod (2 ^ 32) ≤ 2147483647 := by
  rw [Int.bmod_def]
  have e : ((2 ^ 32 : Nat) : Int) = 4294967296 := by decide
  rw [e]
  split
  · exact ⟨z / 4294967296, by omega, by omega, by omega⟩
  · exact ⟨z / 4294967296 + 1, by omega, by omega, by omega⟩
theorem bm_id {z : Int} (h1 : -2147483648 ≤ z) (h2 : z ≤ 2147483647) : z.bmod (2 ^ 32) = z := by
  obtain ⟨q, e, l, u⟩ := bm_x z
  omega
theorem sg_cases {x : Int32} {s : Nat} (hs : s < 8) (hx : nI s = fc_sg x) : (s = 1 ∧ x.toInt < 0) ∨ (s = 2 ∧ x.toInt = 0) ∨ (s = 4 ∧ 0 < x.toInt) := by
  obtain ⟨t1, t2⟩ := sg_toInt x
  unfold fc_sg at hx
  by_cases h : x < 0
  · rw [if_pos h] at hx
    exact Or.inl ⟨(nI_eq (b := 1) (by omega) (by omega)).mp hx, t1.mp h⟩
  · rw [if_neg h] at hx
    by_cases h0 : x = 0
    · rw [if_pos h0] at hx
      exact Or.inr (Or.inl ⟨(nI_eq (b := 2) (by omega) (by omega)).mp hx, t2.mp h0⟩)
    · rw [if_neg h0] at hx
      refine Or.inr (Or.inr ⟨(nI_eq (b := 4) (by omega) (by omega)).mp hx, ?_⟩)
      have a1 : ¬ x.toInt < 0 := fun q => h (t1.mpr q)
      have a2 : ¬ x.toInt = 0 := fun q => h0 (t2.mpr q)
      omega
theorem rd_ne {x : Int32} {u : Nat} (h1 : x.toInt < 0 → u &&& 1 ≠ 0) (h2 : x.toInt = 0 → u &&& 2 ≠ 0) (h3 : 0 < x.toInt → u &&& 4 ≠ 0) : rd_s 32 x u ≠ 0 := by
  obtain ⟨t1, t2⟩ := sg_toInt x
  unfold rd_s
  rw [if_pos rfl]
  by_cases h : x < 0
  · rw [if_pos h]; exact h1 (t1.mp h)
  · rw [if_neg h]
    by_cases h0 : x = 0
    · rw [if_pos h0]; exact h2 (t2.mp h0)
    · rw [if_neg h0]
      refine h3 ?_
      have a1 : ¬ x.toInt < 0 := fun q => h (t1.mpr q)
      have a2 : ¬ x.toInt = 0 := fun q => h0 (t2.mpr q)
      omega
def rs_n (i s t : Nat) : Nat := (fc_rs i (nI s) (nI t) 9).toNatClampNeg
set_option maxRecDepth 20000 in
theorem rs_n_eq : ∀ i, i < 4 → ∀ s, s < 8 → ∀ t, t < 8 → fc_rs i (nI s) (nI t) 9 = nI (rs_n i s t) ∧ rs_n i s t < 8 := by decide +kernel
theorem rs_add : rs_n 0 1 1 = 7 ∧ rs_n 0 1 2 = 1 ∧ rs_n 0 1 4 = 7 ∧ rs_n 0 2 1 = 1 ∧ rs_n 0 2 2 = 2 ∧ rs_n 0 2 4 = 4 ∧ rs_n 0 4 1 = 7 ∧ rs_n 0 4 2 = 4 ∧ rs_n 0 4 4 = 5 := by decide +kernel
theorem rs_sub : rs_n 1 1 1 = 7 ∧ rs_n 1 1 2 = 1 ∧ rs_n 1 1 4 = 5 ∧ rs_n 1 2 1 = 5 ∧ rs_n 1 2 2 = 2 ∧ rs_n 1 2 4 = 1 ∧ rs_n 1 4 1 = 5 ∧ rs_n 1 4 2 = 4 ∧ rs_n 1 4 4 = 7 := by decide +kernel
theorem rs_div : rs_n 3 1 1 = 7 ∧ rs_n 3 1 4 = 3 ∧ rs_n 3 2 1 = 2 ∧ rs_n 3 2 4 = 2 ∧ rs_n 3 4 1 = 3 ∧ rs_n 3 4 4 = 6 := by decide +kernel
theorem ad_sg {a b : Int32} {s t : Nat} (hs : s < 8) (ht : t < 8) (ha : nI s = fc_sg a) (hb : nI t = fc_sg b) : rd_s 32 (a + b) (rs_n 0 s t) ≠ 0 := by
  obtain ⟨a1, a2⟩ := sg_rng a
  obtain ⟨b1, b2⟩ := sg_rng b
  obtain ⟨q, e, l, u⟩ := bm_x (a.toInt + b.toInt)
  obtain ⟨c1, c2, c3, c4, c5, c6, c7, c8, c9⟩ := rs_add
  have ex : (a + b).toInt = (a.toInt + b.toInt).bmod (2 ^ 32) := Int32.toInt_add a b
  rcases sg_cases hs ha with ⟨rfl, h1⟩ | ⟨rfl, h1⟩ | ⟨rfl, h1⟩ <;> rcases sg_cases ht hb with ⟨rfl, h2⟩ | ⟨rfl, h2⟩ | ⟨rfl, h2⟩
  · rw [c1]; exact rd_ne (fun _ => by decide) (fun _ => by decide) (fun _ => by decide)
  · rw [c2]; exact rd_ne (fun _ => by decide) (fun z => by omega) (fun z => by omega)
  · rw [c3]; exact rd_ne (fun _ => by decide) (fun _ => by decide) (fun _ => by decide)
  · rw [c4]; exact rd_ne (fun _ => by decide) (fun z => by omega) (fun z => by omega)
  · rw [c5]; exact rd_ne (fun z => by omega) (fun _ => by decide) (fun z => by omega)
  · rw [c6]; exact rd_ne (fun z => by omega) (fun z => by omega) (fun _ => by decide)
  · rw [c7]; exact rd_ne (fun _ => by decide) (fun _ => by decide) (fun _ => by decide)
  · rw [c8]; exact rd_ne (fun z => by omega) (fun z => by omega) (fun _ => by decide)
  · rw [c9]; exact rd_ne (fun _ => by decide) (fun z => by omega) (fun _ => by decide)
theorem sb_sg {a b : Int32} {s t : Nat} (hs : s < 8) (ht : t < 8) (ha : nI s = fc_sg a) (hb : nI t = fc_sg b) : rd_s 32 (a - b) (rs_n 1 s t) ≠ 0 := by
  obtain ⟨a1, a2⟩ := sg_rng a
  obtain ⟨b1, b2⟩ := sg_rng b
  obtain ⟨q, e, l, u⟩ := bm_x (a.toInt - b.toInt)
  obtain ⟨c1, c2, c3, c4, c5, c6, c7, c8, c9⟩ := rs_sub
  have ex : (a - b).toInt = (a.toInt - b.toInt).bmod (2 ^ 32) := Int32.toInt_sub a b
  rcases sg_cases hs ha with ⟨rfl, h1⟩ | ⟨rfl, h1⟩ | ⟨rfl, h1⟩ <;> rcases sg_cases ht hb with ⟨rfl, h2⟩ | ⟨rfl, h2⟩ | ⟨rfl, h2⟩
  · rw [c1]; exact rd_ne (fun _ => by decide) (fun _ => by decide) (fun _ => by decide)
  · rw [c2]; exact rd_ne (fun _ => by decide) (fun z => by omega) (fun z => by omega)
  · rw [c3]; exact rd_ne (fun _ => by decide) (fun z => by omega) (fun _ => by decide)
  · rw [c4]; exact rd_ne (fun _ => by decide) (fun z => by omega) (fun _ => by decide)
  · rw [c5]; exact rd_ne (fun z => by omega) (fun _ => by decide) (fun z => by omega)
  · rw [c6]; exact rd_ne (fun _ => by decide) (fun z => by omega) (fun z => by omega)
  · rw [c7]; exact rd_ne (fun _ => by decide) (fun z => by omega) (fun _ => by decide)
  · rw [c8]; exact rd_ne (fun z => by omega) (fun z => by omega) (fun _ => by decide)
  · rw [c9]; exact rd_ne (fun _ => by decide) (fun _ => by decide) (fun _ => by decide)
theorem td_pp {a b : Int} (ha : 0 ≤ a) (hb : 0 < b) : 0 ≤ a.tdiv b ∧ a.tdiv b ≤ a := by
  rw [Int.tdiv_eq_ediv_of_nonneg ha]
  exact ⟨Int.ediv_nonneg ha (by omega), Int.ediv_le_self _ ha⟩
theorem dv_sg {a b : Int32} {s t : Nat} (hs : s < 8) (ht : t < 8) (ha : nI s = fc_sg a) (hb : nI t = fc_sg b) (hb0 : b ≠ 0) : rd_s 32 (a / b) (rs_n 3 s t) ≠ 0 := by
  obtain ⟨a1, a2⟩ := sg_rng a
  obtain ⟨b1, b2⟩ := sg_rng b
  obtain ⟨c1, c2, c3, c4, c5, c6⟩ := rs_div
  have ex : (a / b).toInt = (a.toInt.tdiv b.toInt).bmod (2 ^ 32) := Int32.toInt_div a b
  have hb1 : ¬ b.toInt = 0 := fun q => hb0 ((sg_toInt b).2.mpr q)
  rcases sg_cases hs ha with ⟨rfl, h1⟩ | ⟨rfl, h1⟩ | ⟨rfl, h1⟩ <;> rcases sg_cases ht hb with ⟨rfl, h2⟩ | ⟨rfl, h2⟩ | ⟨rfl, h2⟩
  · rw [c1]; exact rd_ne (fun _ => by decide) (fun _ => by decide) (fun _ => by decide)
  · exact absurd h2 hb1
  · have k : a.toInt.tdiv b.toInt = -((-a.toInt).tdiv b.toInt) := by rw [Int.neg_tdiv, Int.neg_neg]
    have := td_pp (a := -a.toInt) (b := b.toInt) (by omega) h2
    rw [k, bm_id (by omega) (by omega)] at ex
    rw [c2]; exact rd_ne (fun _ => by decide) (fun _ => by decide) (fun z => by omega)
  · have k : a.toInt.tdiv b.toInt = 0 := by rw [h1, Int.zero_tdiv]
    rw [k, bm_id (by omega) (by omega)] at ex
    rw [c3]; exact rd_ne (fun z => by omega) (fun _ => by decide) (fun z => by omega)
  · exact absurd h2 hb1
  · have k : a.toInt.tdiv b.toInt = 0 := by rw [h1, Int.zero_tdiv]
    rw [k, bm_id (by omega) (by omega)] at ex
    rw [c4]; exact rd_ne (fun z => by omega) (fun _ => by decide) (fun z => by omega)
  · have k : a.toInt.tdiv b.toInt = -(a.toInt.tdiv (-b.toInt)) := by rw [Int.tdiv_neg, Int.neg_neg]
    have := td_pp (a := a.toInt) (b := -b.toInt) (by omega) (by omega)
    rw [k, bm_id (by omega) (by omega)] at ex
    rw [c5]; exact rd_ne (fun _ => by decide) (fun _ => by decide) (fun z => by omega)
  · exact absurd h2 hb1
  · have := td_pp (a := a.toInt) (b := b.toInt) (by omega) h2
    rw [bm_id (by omega) (by omega)] at ex
    rw [c6]; exact rd_ne (fun z => by omega) (fun _ => by decide) (fun _ => by decide)
/-- division by -1, as the reference has it -/
theorem dv_m1 (x : Int32) : x / (-1) = -x := by
  apply Int32.toInt_inj.mp
  have e : (-1 : Int32).toInt = -1 := by decide
  rw [Int32.toInt_div, e, Int.tdiv_neg, Int.tdiv_one]
  exact (Int32.toInt_neg x).symm
/-! the bits of a result -/
def ob_k (o : Int32) (k j : Nat) : Nat := if o = 5 ∧ min k j ≠ 32 then 0 else min k j
def pb_k (k j : Nat) (x y : Int32) : Nat := if 32 ≤ min (k + j) (min (k + tz_n y) (j + tz_n x)) then 32 else min 16 (min (k + j) (min (k + tz_n y) (j + tz_n x)))
def kb_k (o : Int32) (k j : Nat) (x y : Int32) : Nat := if o = 4 then pb_k k j x y else ob_k o k j
theorem fc_kb_eq {f h : ft_T} {k j : Nat} (hf : f.1 = nI k) (hh : h.1 = nI j) (hk : k ≤ 32) (hj : j ≤ 32) (o : Int32) : fc_kb o f h = nI (kb_k o k j f.2.1 h.2.1) := by
  have t1 := (tz_spec f.2.1).1
  have t2 := (tz_spec h.2.1).1
  unfold fc_kb kb_k
  by_cases e : o = 4
  · rw [if_pos e, if_pos e]
    unfold fc_pb pb_k fc_tz
    rw [hf, hh, nI_add, nI_add, nI_add, fc_min_n (a := k + tz_n h.2.1) (by omega) (by omega), fc_min_n (by omega) (by omega)]
    by_cases c : 32 ≤ min (k + j) (min (k + tz_n h.2.1) (j + tz_n f.2.1))
    · rw [if_pos c, if_pos (show (32 : Int32) ≤ _ from (nI_leI (a := 32) (by omega) (by omega)).mpr c)]; rfl
    · rw [if_neg c, if_neg (show ¬ (32 : Int32) ≤ _ from fun q => c ((nI_leI (a := 32) (by omega) (by omega)).mp q))]
      exact fc_min_n (a := 16) (by omega) (by omega)
  · rw [if_neg e, if_neg e]
    unfold fc_ob ob_k
    rw [hf, hh, fc_min_n (by omega) (by omega)]
    have e0 : (nI (min k j) ≠ 32) ↔ min k j ≠ 32 := not_congr (nI_eq (b := 32) (by omega) (by omega))
    by_cases c : o = 5 ∧ min k j ≠ 32
    · rw [if_pos c, if_pos ⟨c.1, e0.mpr c.2⟩]; rfl
    · rw [if_neg c, if_neg (fun q => c ⟨q.1, e0.mp q.2⟩)]
theorem kb_k_in {o : Int32} {k j : Nat} (hk : k ≤ 16 ∨ k = 32) (hj : j ≤ 16 ∨ j = 32) (x y : Int32) : kb_k o k j x y ≤ 16 ∨ kb_k o k j x y = 32 := by
  unfold kb_k
  by_cases e : o = 4
  · rw [if_pos e]
    unfold pb_k
    by_cases c : 32 ≤ min (k + j) (min (k + tz_n y) (j + tz_n x))
    · rw [if_pos c]; exact Or.inr rfl
    · rw [if_neg c]; exact Or.inl (by omega)
  · rw [if_neg e]
    unfold ob_k
    by_cases c : o = 5 ∧ min k j ≠ 32
    · rw [if_pos c]; exact Or.inl (by omega)
    · rw [if_neg c]; omega
theorem fc_cut_0 (z : Int32) {k : Nat} (hk : k ≤ 16 ∨ k = 32) : fc_cut (if nI k = 0 then 0 else z) (nI k) = fc_cut z (nI k) := by
  by_cases e : k = 0
  · subst e
    exact b_ext (fun i _ => by rw [fc_cut_b hk, fc_cut_b hk, decide_eq_false (by omega)]; rfl)
  · rw [if_neg (show ¬ nI k = 0 from fun q => e ((nI_eq (b := 0) (by omega) (by decide)).mp q))]
theorem ft_res_eq {f h : ft_T} {k j s t : Nat} (hf : f.1 = nI k) (hh : h.1 = nI j) (hs : f.2.2 = nI s) (ht : h.2.2 = nI t) (hk : k ≤ 16 ∨ k = 32) (hj : j ≤ 16 ∨ j = 32) (hs8 : s < 8) (ht8 : t < 8) (o : Int32) :
    ft_res o f h = ft_red (nI (kb_k o k j f.2.1 h.2.1), fc_cut (fc_calc o f.2.1 h.2.1) (nI (kb_k o k j f.2.1 h.2.1)), nI (rs_n (fc_ti o) s t)) := by
  have hti : fc_ti o < 4 := by
    unfold fc_ti
    by_cases e2 : o = 2
    · rw [if_pos e2]; decide
    · rw [if_neg e2]
      by_cases e3 : o = 3
      · rw [if_pos e3]; decide
      · rw [if_neg e3]
        by_cases e4 : o = 4
        · rw [if_pos e4]; decide
        · rw [if_neg e4]; decide
  unfold ft_res
  rw [fc_kb_eq hf hh (by omega) (by omega), fc_cut_0 _ (kb_k_in hk hj _ _), hs, ht, (rs_n_eq _ hti s hs8 t ht8).1]
theorem rs_f0 : ∀ s, s < 8 → ∀ t, t < 8 → (0 < s ∧ 0 < t → rs_n 0 s t ≠ 0 ∧ rs_n 1 s t ≠ 0 ∧ rs_n 2 s t ≠ 0) := by decide +kernel
theorem rs_f1 : ∀ s, s < 8 → ∀ t, t < 8 → (0 < s ∧ 0 < t ∧ rs_n 0 s t &&& 5 = 0 → s = 2 ∧ t = 2) := by decide +kernel
theorem rs_f2 : ∀ s, s < 8 → ∀ t, t < 8 → (0 < s ∧ 0 < t ∧ rs_n 1 s t &&& 5 = 0 → s = 2 ∧ t = 2) := by decide +kernel
theorem rs_f3 : ∀ s, s < 8 → ∀ t, t < 8 → (0 < s ∧ 0 < t → rs_n 2 s t = 7 ∨ ((s = 2 ∨ t = 2) ∧ rs_n 2 s t = 2)) := by decide +kernel
theorem rs_f4 : ∀ s, s < 8 → ∀ t, t < 8 → (0 < s ∧ 0 < t ∧ t &&& 2 = 0 → rs_n 3 s t ≠ 0) := by decide +kernel
theorem rs_facts (s : Nat) (hs : s < 8) (t : Nat) (ht : t < 8) (h : 0 < s ∧ 0 < t) : (rs_n 0 s t ≠ 0 ∧ (rs_n 0 s t &&& 5 = 0 → s = 2 ∧ t = 2)) ∧ (rs_n 1 s t ≠ 0 ∧ (rs_n 1 s t &&& 5 = 0 → s = 2 ∧ t = 2)) ∧ (rs_n 2 s t ≠ 0 ∧ (rs_n 2 s t = 7 ∨ (s = 2 ∨ t = 2) ∧ rs_n 2 s t = 2)) ∧ (t &&& 2 = 0 → rs_n 3 s t ≠ 0) :=
  ⟨⟨(rs_f0 s hs t ht h).1, fun q => rs_f1 s hs t ht ⟨h.1, h.2, q⟩⟩, ⟨(rs_f0 s hs t ht h).2.1, fun q => rs_f2 s hs t ht ⟨h.1, h.2, q⟩⟩, ⟨(rs_f0 s hs t ht h).2.2, rs_f3 s hs t ht h⟩, fun q => rs_f4 s hs t ht ⟨h.1, h.2, q⟩⟩
/-- a result is a good fact: 2, 3, 4 of any two, 5 where the second isn't ZERO -/
theorem ft_res_ok {f h : ft_T} (hf : ft_ok f) (hh : ft_ok h) {o : Int32} (ho : o = 2 ∨ o = 3 ∨ o = 4 ∨ (o = 5 ∧ h.2.2 &&& 2 = 0)) : ft_ok (ft_res o f h) := by
  obtain ⟨k, s, h1, h2, h3, h4, h5, h6, h7, h8, h9⟩ := hf
  obtain ⟨j, t, g1, g2, g3, g4, g5, g6, g7, g8, g9⟩ := hh
  rw [ft_res_eq h1 g1 h2 g2 h3 g3 h5 g5]
  have hin := kb_k_in (o := o) h3 g3 f.2.1 h.2.1
  have hcut : ∀ (z : Int32) (i : Nat), kb_k o k j f.2.1 h.2.1 ≤ i → bt (fc_cut z (nI (kb_k o k j f.2.1 h.2.1))) i = false := fun z i hi => by
    rw [fc_cut_b hin, decide_eq_false (by omega)]; rfl
  obtain ⟨r0, r1, r2, r3⟩ := rs_facts s h5 t g5 ⟨h4, g4⟩
  have c32 : ∀ z : Int32, fc_cut z (nI 32) = z := fun z => if_pos rfl
  rcases ho with rfl | rfl | rfl | ⟨rfl, hz⟩
  · have hti : fc_ti 2 = 0 := rfl
    have hcalc : fc_calc 2 f.2.1 h.2.1 = f.2.1 + h.2.1 := rfl
    have hk : kb_k 2 k j f.2.1 h.2.1 = min k j := by
      unfold kb_k ob_k
      rw [if_neg (by decide), if_neg (fun q => absurd q.1 (by decide))]
    rw [hti, hcalc] at *
    refine ft_red_ok hin (rs_n_eq 0 (by decide) s h5 t g5).2 (hcut _) ?_
    rw [hk]
    by_cases e : min k j = 32
    · have e1 : k = 32 := by omega
      have e2 : j = 32 := by omega
      rw [e, c32]
      exact ad_sg h5 g5 (h7 e1) (g7 e2)
    · unfold rd_s
      rw [if_neg e]
      by_cases e0 : fc_cut (f.2.1 + h.2.1) (nI (min k j)) = 0
      · rw [if_pos e0]; exact r0.1
      · rw [if_neg e0]
        intro q
        have := r0.2 q
        have e1 := h9 this.1
        have e2 := g9 this.2
        omega
  · have hti : fc_ti 3 = 1 := rfl
    have hcalc : fc_calc 3 f.2.1 h.2.1 = f.2.1 - h.2.1 := rfl
    have hk : kb_k 3 k j f.2.1 h.2.1 = min k j := by
      unfold kb_k ob_k
      rw [if_neg (by decide), if_neg (fun q => absurd q.1 (by decide))]
    rw [hti, hcalc] at *
    refine ft_red_ok hin (rs_n_eq 1 (by decide) s h5 t g5).2 (hcut _) ?_
    rw [hk]
    by_cases e : min k j = 32
    · have e1 : k = 32 := by omega
      have e2 : j = 32 := by omega
      rw [e, c32]
      exact sb_sg h5 g5 (h7 e1) (g7 e2)
    · unfold rd_s
      rw [if_neg e]
      by_cases e0 : fc_cut (f.2.1 - h.2.1) (nI (min k j)) = 0
      · rw [if_pos e0]; exact r1.1
      · rw [if_neg e0]
        intro q
        have := r1.2 q
        have e1 := h9 this.1
        have e2 := g9 this.2
        omega
  · have hti : fc_ti 4 = 2 := rfl
    have hcalc : fc_calc 4 f.2.1 h.2.1 = f.2.1 * h.2.1 := rfl
    rw [hti, hcalc] at *
    refine ft_red_ok hin (rs_n_eq 2 (by decide) s h5 t g5).2 (hcut _) ?_
    rcases r2.2 with q | ⟨q, q2⟩
    · rw [q]
      unfold rd_s
      by_cases e : kb_k 4 k j f.2.1 h.2.1 = 32
      · rw [if_pos e]
        by_cases e1 : fc_cut (f.2.1 * h.2.1) (nI (kb_k 4 k j f.2.1 h.2.1)) < 0
        · rw [if_pos e1]; decide
        · rw [if_neg e1]
          by_cases e2 : fc_cut (f.2.1 * h.2.1) (nI (kb_k 4 k j f.2.1 h.2.1)) = 0
          · rw [if_pos e2]; decide
          · rw [if_neg e2]; decide
      · rw [if_neg e]
        by_cases e2 : fc_cut (f.2.1 * h.2.1) (nI (kb_k 4 k j f.2.1 h.2.1)) = 0
        · rw [if_pos e2]; decide
        · rw [if_neg e2]; decide
    · -- one of them is 0
      have zero : (k = 32 ∧ f.2.1 = 0) ∨ (j = 32 ∧ h.2.1 = 0) := by
        rcases q with q | q
        · exact Or.inl ⟨h9 q, (ft_z0 h5 (h7 (h9 q))).mp q⟩
        · exact Or.inr ⟨g9 q, (ft_z0 g5 (g7 (g9 q))).mp q⟩
      have hkb : kb_k 4 k j f.2.1 h.2.1 = 32 := by
        unfold kb_k pb_k
        rw [if_pos rfl]
        rcases zero with ⟨e1, e2⟩ | ⟨e1, e2⟩
        · rw [e2, tz_0, if_pos (by omega)]
        · rw [e2, tz_0, if_pos (by omega)]
      have hp : f.2.1 * h.2.1 = 0 := by
        rcases zero with ⟨-, e2⟩ | ⟨-, e2⟩
        · rw [e2, Int32.zero_mul]
        · rw [e2, Int32.mul_zero]
      rw [hkb, c32, hp, q2]
      decide
  · have hti : fc_ti 5 = 3 := rfl
    have hz' : t &&& 2 = 0 := by
      rw [g2] at hz
      exact (by decide +kernel : ∀ t, t < 8 → nI t &&& 2 = 0 → t &&& 2 = 0) t g5 hz
    have hk : kb_k 5 k j f.2.1 h.2.1 = if min k j ≠ 32 then 0 else min k j := by
      unfold kb_k ob_k
      rw [if_neg (by decide)]
      by_cases e : min k j ≠ 32
      · rw [if_pos e, if_pos ⟨rfl, e⟩]
      · rw [if_neg e, if_neg (fun q => e q.2)]
    rw [hti] at *
    refine ft_red_ok hin (rs_n_eq 3 (by decide) s h5 t g5).2 (hcut _) ?_
    rw [hk]
    by_cases e : min k j ≠ 32
    · rw [if_pos e]
      unfold rd_s
      rw [if_neg (by decide), if_pos (b_zero (fun i _ => by rw [fc_cut_b (Or.inl (by decide)), decide_eq_false (by omega)]; rfl))]
      exact r3 hz'
    · rw [if_neg e]
      have e' : min k j = 32 := Decidable.not_not.mp e
      have e1 : k = 32 := by omega
      have e2 : j = 32 := by omega
      have hb0 : h.2.1 ≠ 0 := fun q => by
        have := (ft_z0 g5 (g7 e2)).mpr q
        rw [this] at hz'
        exact absurd hz' (by decide)
      have hcalc : fc_calc 5 f.2.1 h.2.1 = f.2.1 / h.2.1 := by
        unfold fc_calc
        rw [if_neg (by decide), if_neg (by decide), if_neg (by decide), if_neg hb0]
      rw [e', c32, hcalc]
      exact dv_sg h5 g5 (h7 e1) (g7 e2) hb0
end
section
/-! The solver, as mathematics: states, what comes of an instruction, a pass; what doesn't grow is absorbed. -/
abbrev sv_F : Type := Nat → ft_T
abbrev sv_S : Type := Nat → Bool × sv_F
def sv_up (f : sv_F) (a : Nat) (x : ft_T) : sv_F := fun v => if v = a then x else f v
/-- a state comes to t -/
def sv_jn (n t : Nat) (c : sv_F) (σ : sv_S) : sv_S := fun i => if i = t ∧ t < n then (true, if (σ t).1 = true then fun v => if v < 4 then ft_jn ((σ t).2 v) (c v) else (σ t).2 v else c) else σ i
def sv_o (n t : Nat) (oc : Option sv_F) (σ : sv_S) : sv_S := match oc with
  | none => σ
  | some c => sv_jn n t c σ
def sv_keep (f : sv_F) (a : Nat) (kept : Int32) : Option sv_F := if (ft_keep (f a) kept).2.2 = 0 then none else some (sv_up f a (ft_keep (f a) kept))
def sv_way (o : Int32) : Int32 := if o = 7 then 2 else 1
def sv_oth (o : Int32) : Int32 := if o = 7 then 5 else 6
def sv_thru (q : Nat → Int32) (f : sv_F) : Option sv_F :=
  if q 0 = 0 then some (sv_up f (q 1).toNatClampNeg (ft_num (q 3)))
  else if q 0 = 1 then some (sv_up f (q 1).toNatClampNeg (f (q 2).toNatClampNeg))
  else if q 0 = 2 ∨ q 0 = 3 ∨ q 0 = 4 then some (sv_up f (q 1).toNatClampNeg (ft_res (q 0) (f (q 2).toNatClampNeg) (f (q 3).toNatClampNeg)))
  else if q 0 = 5 then (sv_keep f (q 3).toNatClampNeg 5).bind (fun h => some (sv_up h (q 1).toNatClampNeg (ft_res 5 (h (q 2).toNatClampNeg) (h (q 3).toNatClampNeg))))
  else if q 0 = 6 then some (sv_up f (q 1).toNatClampNeg ft_any)
  else some f
def sv_step (n : Nat) (p : Nat → Nat → Int32) (i : Nat) (σ : sv_S) : sv_S :=
  if p i 0 = 11 then σ
  else if p i 0 = 9 then sv_o n (p i 3).toNatClampNeg (some (σ i).2) σ
  else if p i 0 = 7 ∨ p i 0 = 8 then
    sv_o n (i + 1) (sv_keep ((sv_o n (p i 3).toNatClampNeg (sv_keep (σ i).2 (p i 1).toNatClampNeg (sv_way (p i 0))) σ) i).2 (p i 1).toNatClampNeg (sv_oth (p i 0))) (sv_o n (p i 3).toNatClampNeg (sv_keep (σ i).2 (p i 1).toNatClampNeg (sv_way (p i 0))) σ)
  else sv_o n (i + 1) (sv_thru (p i) (σ i).2) σ
/-- an instruction in its normal form -/
def in_ok (q : Nat → Int32) : Prop := ∃ o : Nat, o < 13 ∧ q 0 = nI o ∧ (if o = 9 ∨ o = 11 ∨ o = 12 then q 1 = 0 else ∃ a, a < 4 ∧ q 1 = nI a) ∧ (if 1 ≤ o ∧ o ≤ 5 then ∃ a, a < 4 ∧ q 2 = nI a else q 2 = 0) ∧ (if 2 ≤ o ∧ o ≤ 5 then ∃ a, a < 4 ∧ q 3 = nI a else if 7 ≤ o ∧ o ≤ 9 then ∃ a, a ≤ 24 ∧ q 3 = nI a else if o = 0 then True else q 3 = 0)
def sv_fok (f : sv_F) : Prop := ∀ v, v < 4 → ft_ok (f v)
def sv_ok (σ : sv_S) : Prop := ∀ i, (σ i).1 = true → sv_fok (σ i).2
def sv_fle (f h : sv_F) : Prop := ∀ v, v < 4 → ft_le (f v) (h v)
def sv_le (σ τ : sv_S) : Prop := ∀ i, (σ i).1 = true → (τ i).1 = true ∧ sv_fle (σ i).2 (τ i).2
def sv_ab (n t : Nat) (oc : Option sv_F) (σ : sv_S) : Prop := ∀ c, oc = some c → t < n → (σ t).1 = true ∧ sv_fle c (σ t).2
def sv_abs (n : Nat) (p : Nat → Nat → Int32) (i : Nat) (σ : sv_S) : Prop :=
  if p i 0 = 11 then True
  else if p i 0 = 9 then sv_ab n (p i 3).toNatClampNeg (some (σ i).2) σ
  else if p i 0 = 7 ∨ p i 0 = 8 then sv_ab n (p i 3).toNatClampNeg (sv_keep (σ i).2 (p i 1).toNatClampNeg (sv_way (p i 0))) σ ∧ sv_ab n (i + 1) (sv_keep (σ i).2 (p i 1).toNatClampNeg (sv_oth (p i 0))) σ
  else sv_ab n (i + 1) (sv_thru (p i) (σ i).2) σ
theorem sv_fle_refl {f : sv_F} (h : sv_fok f) : sv_fle f f := fun v hv => ft_le_refl (h v hv)
theorem sv_fle_trans {f h q : sv_F} (a : sv_fle f h) (b : sv_fle h q) : sv_fle f q := fun v hv => ft_le_trans (a v hv) (b v hv)
theorem sv_le_refl {σ : sv_S} (h : sv_ok σ) : sv_le σ σ := fun i hi => ⟨hi, sv_fle_refl (h i hi)⟩
theorem sv_le_trans {σ τ υ : sv_S} (a : sv_le σ τ) (b : sv_le τ υ) : sv_le σ υ := fun i hi => by
  obtain ⟨h1, h2⟩ := a i hi
  obtain ⟨h3, h4⟩ := b i h1
  exact ⟨h3, sv_fle_trans h2 h4⟩
/-- what is absorbed changes nothing -/
theorem sv_o_abs {n t : Nat} {oc : Option sv_F} {σ : sv_S} (hσ : sv_ok σ) (h : sv_ab n t oc σ) : sv_o n t oc σ = σ := by
  cases oc with
  | none => rfl
  | some c =>
    show sv_jn n t c σ = σ
    funext i
    unfold sv_jn
    by_cases q : i = t ∧ t < n
    · rw [if_pos q]
      obtain ⟨rfl, ht⟩ := q
      obtain ⟨h1, h2⟩ := h c rfl ht
      rw [if_pos h1]
      refine Prod.ext h1.symm ?_
      funext v
      show (if v < 4 then _ else _) = _
      by_cases hv : v < 4
      · rw [if_pos hv]; exact ft_jn_abs (hσ i h1 v hv) (h2 v hv)
      · rw [if_neg hv]
    · rw [if_neg q]
theorem sv_step_abs {n : Nat} {p : Nat → Nat → Int32} {i : Nat} {σ : sv_S} (hσ : sv_ok σ) (h : sv_abs n p i σ) : sv_step n p i σ = σ := by
  unfold sv_abs at h
  unfold sv_step
  by_cases c1 : p i 0 = 11
  · rw [if_pos c1]
  · rw [if_neg c1] at h ⊢
    by_cases c2 : p i 0 = 9
    · rw [if_pos c2] at h ⊢; exact sv_o_abs hσ h
    · rw [if_neg c2] at h ⊢
      by_cases c3 : p i 0 = 7 ∨ p i 0 = 8
      · rw [if_pos c3] at h ⊢
        rw [sv_o_abs hσ h.1]
        exact sv_o_abs hσ h.2
      · rw [if_neg c3] at h ⊢; exact sv_o_abs hσ h
/-- a state that comes: good, larger; it is absorbed then -/
theorem sv_o_grow {n t : Nat} {oc : Option sv_F} {σ : sv_S} (hσ : sv_ok σ) (hc : ∀ c, oc = some c → sv_fok c) : sv_ok (sv_o n t oc σ) ∧ sv_le σ (sv_o n t oc σ) ∧ sv_ab n t oc (sv_o n t oc σ) ∧ (∀ i, i ≠ t → sv_o n t oc σ i = σ i) ∧ (¬ t < n → sv_o n t oc σ = σ) := by
  cases oc with
  | none => exact ⟨hσ, sv_le_refl hσ, fun c h => (by cases h), fun _ _ => rfl, fun _ => rfl⟩
  | some c =>
    have hc := hc c rfl
    have hne : ∀ i, ¬ (i = t ∧ t < n) → sv_jn n t c σ i = σ i := fun i q => by unfold sv_jn; rw [if_neg q]
    have heq : t < n → sv_jn n t c σ t = (true, if (σ t).1 = true then fun v => if v < 4 then ft_jn ((σ t).2 v) (c v) else (σ t).2 v else c) := fun q => by unfold sv_jn; rw [if_pos ⟨rfl, q⟩]
    refine ⟨fun i hi v hv => ?_, fun i hi => ?_, fun c' e ht => ?_, fun i hi => hne i (fun q => hi q.1), fun q => funext (fun i => hne i (fun z => q z.2))⟩
    · have hi : (sv_jn n t c σ i).1 = true := hi
      show ft_ok ((sv_jn n t c σ i).2 v)
      by_cases q : i = t ∧ t < n
      · obtain ⟨rfl, ht⟩ := q
        rw [heq ht]
        show ft_ok ((if (σ i).1 = true then _ else _ : sv_F) v)
        by_cases l : (σ i).1 = true
        · rw [if_pos l]
          show ft_ok (if v < 4 then _ else _)
          rw [if_pos hv]; exact ft_jn_ok (hσ i l v hv) (hc v hv)
        · rw [if_neg l]; exact hc v hv
      · rw [hne i q] at hi ⊢; exact hσ i hi v hv
    · show (sv_jn n t c σ i).1 = true ∧ sv_fle (σ i).2 (sv_jn n t c σ i).2
      by_cases q : i = t ∧ t < n
      · obtain ⟨rfl, ht⟩ := q
        rw [heq ht]
        refine ⟨rfl, fun v hv => ?_⟩
        show ft_le _ ((if (σ i).1 = true then _ else _ : sv_F) v)
        rw [if_pos hi]
        show ft_le _ (if v < 4 then _ else _)
        rw [if_pos hv]; exact (ft_le_jn (hσ i hi v hv) (hc v hv)).1
      · rw [hne i q]; exact ⟨hi, sv_fle_refl (hσ i hi)⟩
    · cases e
      show (sv_jn n t c σ t).1 = true ∧ sv_fle c (sv_jn n t c σ t).2
      rw [heq ht]
      refine ⟨rfl, fun v hv => ?_⟩
      show ft_le _ ((if (σ t).1 = true then _ else _ : sv_F) v)
      by_cases l : (σ t).1 = true
      · rw [if_pos l]
        show ft_le _ (if v < 4 then _ else _)
        rw [if_pos hv]; exact (ft_le_jn (hσ t l v hv) (hc v hv)).2
      · rw [if_neg l]; exact ft_le_refl (hc v hv)
theorem sv_ab_mono {n t : Nat} {oc : Option sv_F} {σ τ : sv_S} (h : sv_ab n t oc σ) (hl : sv_le σ τ) : sv_ab n t oc τ := fun c e ht => by
  obtain ⟨h1, h2⟩ := h c e ht
  obtain ⟨h3, h4⟩ := hl t h1
  exact ⟨h3, sv_fle_trans h2 h4⟩
theorem sv_abs_mono {n : Nat} {p : Nat → Nat → Int32} {i : Nat} {σ τ : sv_S} (h : sv_abs n p i σ) (hl : sv_le σ τ) (e : τ i = σ i) : sv_abs n p i τ := by
  unfold sv_abs at h ⊢
  rw [e]
  by_cases c1 : p i 0 = 11
  · rw [if_pos c1]; trivial
  · rw [if_neg c1] at h ⊢
    by_cases c2 : p i 0 = 9
    · rw [if_pos c2] at h ⊢; exact sv_ab_mono h hl
    · rw [if_neg c2] at h ⊢
      by_cases c3 : p i 0 = 7 ∨ p i 0 = 8
      · rw [if_pos c3] at h ⊢; exact ⟨sv_ab_mono h.1 hl, sv_ab_mono h.2 hl⟩
      · rw [if_neg c3] at h ⊢; exact sv_ab_mono h hl
theorem sv_up_ok {f : sv_F} {a : Nat} {x : ft_T} (hf : sv_fok f) (hx : ft_ok x) : sv_fok (sv_up f a x) := fun v hv => by
  unfold sv_up
  by_cases e : v = a
  · rw [if_pos e]; exact hx
  · rw [if_neg e]; exact hf v hv
def kp_n (kept : Int32) (t : Nat) : Prop := t < 8 ∧ ∀ s, s < 8 → nI s &&& kept = nI (s &&& t)
theorem kp_2 : kp_n 2 2 := ⟨by decide, by decide +kernel⟩
theorem kp_1 : kp_n 1 1 := ⟨by decide, by decide +kernel⟩
theorem kp_5 : kp_n 5 5 := ⟨by decide, by decide +kernel⟩
theorem kp_6 : kp_n 6 6 := ⟨by decide, by decide +kernel⟩
theorem sv_keep_ok {f c : sv_F} {a t : Nat} {kept : Int32} (hf : sv_fok f) (ha : a < 4) (hk : kp_n kept t) (h : sv_keep f a kept = some c) : sv_fok c ∧ c a = ft_keep (f a) kept ∧ ∃ s, s < 8 ∧ (c a).2.2 = nI s ∧ s &&& t = s := by
  unfold sv_keep at h
  by_cases e : (ft_keep (f a) kept).2.2 = 0
  · rw [if_pos e] at h; cases h
  · rw [if_neg e] at h
    cases h
    have hca : sv_up f a (ft_keep (f a) kept) a = ft_keep (f a) kept := if_pos rfl
    rcases ft_keep_ok (hf a ha) hk.1 hk.2 with q | ⟨q1, q2⟩
    · exact absurd q e
    · exact ⟨sv_up_ok hf q1, hca, by rw [hca]; exact q2⟩
theorem sv_thru_ok {q : Nat → Int32} {f c : sv_F} (hq : in_ok q) (hf : sv_fok f) (h : sv_thru q f = some c) : sv_fok c := by
  obtain ⟨o, ho, h0, h1, h2, h3⟩ := hq
  unfold sv_thru at h
  have cl : ∀ {a : Nat} {x : Int32}, a < 4 → x = nI a → x.toNatClampNeg < 4 := fun {a} {x} ha e => by rw [e, nI_clamp (by omega)]; exact ha
  have oeq : ∀ k : Nat, k < 13 → (q 0 = nI k ↔ o = k) := fun k hk => by rw [h0]; exact nI_eq (by omega) (by omega)
  by_cases c0 : q 0 = 0
  · rw [if_pos c0] at h; cases h; exact sv_up_ok hf (ft_num_ok _)
  · rw [if_neg c0] at h
    by_cases c1 : q 0 = 1
    · rw [if_pos c1] at h; cases h
      have e : o = 1 := (oeq 1 (by decide)).mp c1
      subst e
      obtain ⟨b, hb, eb⟩ := h2
      exact sv_up_ok hf (hf _ (cl hb eb))
    · rw [if_neg c1] at h
      by_cases c2 : q 0 = 2 ∨ q 0 = 3 ∨ q 0 = 4
      · rw [if_pos c2] at h; cases h
        have e : 2 ≤ o ∧ o ≤ 4 := by
          rcases c2 with c | c | c
          · have := (oeq 2 (by decide)).mp c; omega
          · have := (oeq 3 (by decide)).mp c; omega
          · have := (oeq 4 (by decide)).mp c; omega
        rw [if_pos (by omega)] at h2 h3
        obtain ⟨b, hb, eb⟩ := h2
        obtain ⟨d, hd, ed⟩ := h3
        exact sv_up_ok hf (ft_res_ok (hf _ (cl hb eb)) (hf _ (cl hd ed)) (by rcases c2 with c | c | c <;> simp [c]))
      · rw [if_neg c2] at h
        by_cases c5 : q 0 = 5
        · rw [if_pos c5] at h
          have e : o = 5 := (oeq 5 (by decide)).mp c5
          subst e
          obtain ⟨b, hb, eb⟩ := h2
          obtain ⟨d, hd, ed⟩ := h3
          cases hk : sv_keep f (q 3).toNatClampNeg 5 with
          | none => rw [hk] at h; cases h
          | some k =>
            rw [hk] at h
            cases h
            obtain ⟨k1, k2, s, k3, k4, k5⟩ := sv_keep_ok hf (cl hd ed) kp_5 hk
            refine sv_up_ok k1 (ft_res_ok (k1 _ (cl hb eb)) (k1 _ (cl hd ed)) (Or.inr (Or.inr (Or.inr ⟨rfl, ?_⟩))))
            rw [k4]
            exact (by decide +kernel : ∀ s, s < 8 → s &&& 5 = s → nI s &&& 2 = 0) s k3 k5
        · rw [if_neg c5] at h
          by_cases c6 : q 0 = 6
          · rw [if_pos c6] at h; cases h; exact sv_up_ok hf ft_any_ok
          · rw [if_neg c6] at h; cases h; exact hf
theorem in_a {q : Nat → Int32} (hq : in_ok q) (h : q 0 = 7 ∨ q 0 = 8) : (q 1).toNatClampNeg < 4 := by
  obtain ⟨o, ho, h0, h1, -⟩ := hq
  have e : o = 7 ∨ o = 8 := by
    rw [h0] at h
    rcases h with h | h
    · exact Or.inl ((nI_eq (b := 7) (by omega) (by omega)).mp h)
    · exact Or.inr ((nI_eq (b := 8) (by omega) (by omega)).mp h)
  rw [if_neg (by omega)] at h1
  obtain ⟨a, ha, ea⟩ := h1
  rw [ea, nI_clamp (by omega)]; exact ha
theorem kp_way (o : Int32) : ∃ t, kp_n (sv_way o) t := by
  unfold sv_way
  by_cases e : o = 7
  · rw [if_pos e]; exact ⟨2, kp_2⟩
  · rw [if_neg e]; exact ⟨1, kp_1⟩
theorem kp_oth (o : Int32) : ∃ t, kp_n (sv_oth o) t := by
  unfold sv_oth
  by_cases e : o = 7
  · rw [if_pos e]; exact ⟨5, kp_5⟩
  · rw [if_neg e]; exact ⟨6, kp_6⟩
/-- a step: good, larger; where the instruction's own state didn't grow, all that comes of it is absorbed -/
theorem sv_step_grow {n : Nat} {p : Nat → Nat → Int32} {i : Nat} {σ : sv_S} (hσ : sv_ok σ) (hl : (σ i).1 = true) (hp : in_ok (p i)) : sv_ok (sv_step n p i σ) ∧ sv_le σ (sv_step n p i σ) ∧ (sv_step n p i σ i = σ i → sv_abs n p i (sv_step n p i σ)) := by
  unfold sv_step sv_abs
  by_cases c1 : p i 0 = 11
  · rw [if_pos c1]; exact ⟨hσ, sv_le_refl hσ, fun _ => by rw [if_pos c1]; trivial⟩
  · rw [if_neg c1]
    by_cases c2 : p i 0 = 9
    · rw [if_pos c2]
      obtain ⟨a1, a2, a3, -⟩ := sv_o_grow (n := n) (t := (p i 3).toNatClampNeg) (oc := some (σ i).2) hσ (fun c e => by cases e; exact hσ i hl)
      refine ⟨a1, a2, fun e => ?_⟩
      rw [if_neg c1, if_pos c2, e]; exact a3
    · rw [if_neg c2]
      by_cases c3 : p i 0 = 7 ∨ p i 0 = 8
      · rw [if_pos c3]
        obtain ⟨t1, kt1⟩ := kp_way (p i 0)
        obtain ⟨t2, kt2⟩ := kp_oth (p i 0)
        have ha := in_a hp c3
        obtain ⟨a1, a2, a3, a4, -⟩ := sv_o_grow (n := n) (t := (p i 3).toNatClampNeg) (oc := sv_keep (σ i).2 (p i 1).toNatClampNeg (sv_way (p i 0))) hσ (fun c e => (sv_keep_ok (hσ i hl) ha kt1 e).1)
        generalize hτ : sv_o n (p i 3).toNatClampNeg (sv_keep (σ i).2 (p i 1).toNatClampNeg (sv_way (p i 0))) σ = τ at *
        obtain ⟨b1, b2, b3, b4, -⟩ := sv_o_grow (n := n) (t := i + 1) (oc := sv_keep (τ i).2 (p i 1).toNatClampNeg (sv_oth (p i 0))) a1 (fun c e => (sv_keep_ok (a1 i (a2 i hl).1) ha kt2 e).1)
        refine ⟨b1, sv_le_trans a2 b2, fun e => ?_⟩
        have e1 : τ i = σ i := (b4 i (by omega)).symm.trans e
        rw [if_neg c1, if_neg c2, if_pos c3, e]
        refine ⟨sv_ab_mono a3 b2, ?_⟩
        rw [e1] at b3 ⊢
        exact b3
      · rw [if_neg c3]
        obtain ⟨a1, a2, a3, -⟩ := sv_o_grow (n := n) (t := i + 1) (oc := sv_thru (p i) (σ i).2) hσ (fun c e => sv_thru_ok hp (hσ i hl) e)
        refine ⟨a1, a2, fun e => ?_⟩
        rw [if_neg c1, if_neg c2, if_neg c3, e]; exact a3
/-! passes -/
def sv_pass (n : Nat) (p : Nat → Nat → Int32) : Nat → sv_S → sv_S
  | 0, σ => σ
  | k + 1, σ => if (sv_pass n p k σ k).1 = true then sv_step n p k (sv_pass n p k σ) else sv_pass n p k σ
def sv_it (n : Nat) (p : Nat → Nat → Int32) : Nat → sv_S → sv_S
  | 0, σ => σ
  | k + 1, σ => sv_pass n p n (sv_it n p k σ)
def sv_0 (n : Nat) : sv_S := fun i => (decide (i = 0 ∧ 0 < n), fun _ => (32, 0, 2))
/-- the solution -/
def sv_sol (n : Nat) (p : Nat → Nat → Int32) : sv_S := sv_it n p 2000 (sv_0 n)
theorem sv_0_ok (n : Nat) : sv_ok (sv_0 n) := fun _ _ _ _ => ft_zero_ok
theorem sv_pass_ok {n : Nat} {p : Nat → Nat → Int32} (hp : ∀ i, i < n → in_ok (p i)) {σ : sv_S} (hσ : sv_ok σ) : ∀ k, k ≤ n → sv_ok (sv_pass n p k σ) ∧ sv_le σ (sv_pass n p k σ)
  | 0, _ => ⟨hσ, sv_le_refl hσ⟩
  | k + 1, hk => by
    obtain ⟨h1, h2⟩ := sv_pass_ok hp hσ k (by omega)
    unfold sv_pass
    by_cases c : (sv_pass n p k σ k).1 = true
    · rw [if_pos c]
      obtain ⟨g1, g2, -⟩ := sv_step_grow (n := n) h1 c (hp k (by omega))
      exact ⟨g1, sv_le_trans h2 g2⟩
    · rw [if_neg c]; exact ⟨h1, h2⟩
theorem sv_it_ok {n : Nat} {p : Nat → Nat → Int32} (hp : ∀ i, i < n → in_ok (p i)) {σ : sv_S} (hσ : sv_ok σ) : ∀ k, sv_ok (sv_it n p k σ)
  | 0 => hσ
  | k + 1 => (sv_pass_ok hp (sv_it_ok hp hσ k) n (Nat.le_refl _)).1
theorem sv_it_fix {n : Nat} {p : Nat → Nat → Int32} {σ : sv_S} {k : Nat} (h : sv_pass n p n (sv_it n p k σ) = sv_it n p k σ) : ∀ j, k ≤ j → sv_it n p j σ = sv_it n p k σ := by
  intro j hj
  induction j with
  | zero => rw [show k = 0 by omega]
  | succ j ih =>
    rcases Nat.lt_or_ge j k with q | q
    · rw [show k = j + 1 by omega]
    · show sv_pass n p n (sv_it n p j σ) = _
      rw [ih q]; exact h
/-- all are absorbed: a pass changes nothing -/
theorem sv_pass_abs {n : Nat} {p : Nat → Nat → Int32} {σ : sv_S} (hσ : sv_ok σ) (h : ∀ i, i < n → (σ i).1 = true → sv_abs n p i σ) : ∀ k, k ≤ n → sv_pass n p k σ = σ
  | 0, _ => rfl
  | k + 1, hk => by
    unfold sv_pass
    rw [sv_pass_abs hσ h k (by omega)]
    by_cases c : (σ k).1 = true
    · rw [if_pos c]; exact sv_step_abs hσ (h k (by omega) c)
    · rw [if_neg c]
/-! a measure: passes end -/
def mu_4 (f : sv_F) : Nat := mu_f (f 0) + mu_f (f 1) + mu_f (f 2) + mu_f (f 3)
def mu_1 (x : Bool × sv_F) : Nat := if x.1 = true then mu_4 x.2 else 77
def mu_n (σ : sv_S) : Nat → Nat
  | 0 => 0
  | k + 1 => mu_n σ k + mu_1 (σ k)
theorem mu_4_le {f : sv_F} (h : sv_fok f) : mu_4 f ≤ 76 := by
  have h0 := mu_f_le (h 0 (by decide))
  have h1 := mu_f_le (h 1 (by decide))
  have h2 := mu_f_le (h 2 (by decide))
  have h3 := mu_f_le (h 3 (by decide))
  unfold mu_4
  omega
theorem mu_n_le {σ : sv_S} (hσ : sv_ok σ) : ∀ k, mu_n σ k ≤ 77 * k
  | 0 => Nat.le_refl _
  | k + 1 => by
    have := mu_n_le hσ k
    unfold mu_n mu_1
    by_cases c : (σ k).1 = true
    · rw [if_pos c]
      have := mu_4_le (hσ k c)
      omega
    · rw [if_neg c]; omega
/-- a coming state: the target's number falls, unless nothing changes -/
theorem mu_jn1 {n t : Nat} {c : sv_F} {σ : sv_S} (hσ : sv_ok σ) (hc : sv_fok c) (i : Nat) : mu_1 (sv_jn n t c σ i) ≤ mu_1 (σ i) ∧ (sv_jn n t c σ i ≠ σ i → mu_1 (sv_jn n t c σ i) < mu_1 (σ i)) := by
  unfold sv_jn
  by_cases q : i = t ∧ t < n
  · rw [if_pos q]
    obtain ⟨rfl, ht⟩ := q
    by_cases l : (σ i).1 = true
    · rw [if_pos l]
      unfold mu_1
      rw [if_pos rfl, if_pos l]
      have hm : ∀ v, v < 4 → mu_f (ft_jn ((σ i).2 v) (c v)) ≤ mu_f ((σ i).2 v) ∧ (ft_jn ((σ i).2 v) (c v) ≠ (σ i).2 v → mu_f (ft_jn ((σ i).2 v) (c v)) < mu_f ((σ i).2 v)) := fun v hv => by
        obtain ⟨a1, a2⟩ := mu_jn (hσ i l v hv) (hc v hv)
        exact ⟨a1, fun e => a2 (fun z => e (ft_jn_same (hσ i l v hv) (hc v hv) z.1 z.2))⟩
      have e4 : mu_4 (fun v => if v < 4 then ft_jn ((σ i).2 v) (c v) else (σ i).2 v) = mu_f (ft_jn ((σ i).2 0) (c 0)) + mu_f (ft_jn ((σ i).2 1) (c 1)) + mu_f (ft_jn ((σ i).2 2) (c 2)) + mu_f (ft_jn ((σ i).2 3) (c 3)) := rfl
      show mu_4 _ ≤ mu_4 _ ∧ (_ → mu_4 _ < mu_4 _)
      rw [e4]
      unfold mu_4
      have m0 := hm 0 (by decide)
      have m1 := hm 1 (by decide)
      have m2 := hm 2 (by decide)
      have m3 := hm 3 (by decide)
      refine ⟨by omega, fun e => ?_⟩
      have : ¬ (∀ v, v < 4 → ft_jn ((σ i).2 v) (c v) = (σ i).2 v) := fun z => e (Prod.ext l.symm (funext (fun v => by
        show (if v < 4 then _ else _) = _
        by_cases hv : v < 4
        · rw [if_pos hv]; exact z v hv
        · rw [if_neg hv])))
      by_cases z0 : ft_jn ((σ i).2 0) (c 0) = (σ i).2 0
      · by_cases z1 : ft_jn ((σ i).2 1) (c 1) = (σ i).2 1
        · by_cases z2 : ft_jn ((σ i).2 2) (c 2) = (σ i).2 2
          · by_cases z3 : ft_jn ((σ i).2 3) (c 3) = (σ i).2 3
            · exact absurd (fun v hv => by
                rcases (show v = 0 ∨ v = 1 ∨ v = 2 ∨ v = 3 by omega) with rfl | rfl | rfl | rfl
                · exact z0
                · exact z1
                · exact z2
                · exact z3) this
            · have := m3.2 z3; omega
          · have := m2.2 z2; omega
        · have := m1.2 z1; omega
      · have := m0.2 z0; omega
    · rw [if_neg l]
      unfold mu_1
      rw [if_pos rfl, if_neg l]
      have := mu_4_le hc
      exact ⟨by show mu_4 c ≤ 77; omega, fun _ => by show mu_4 c < 77; omega⟩
  · rw [if_neg q]; exact ⟨Nat.le_refl _, fun e => absurd rfl e⟩
theorem mu_o1 {n t : Nat} {oc : Option sv_F} {σ : sv_S} (hσ : sv_ok σ) (hc : ∀ c, oc = some c → sv_fok c) (i : Nat) : mu_1 (sv_o n t oc σ i) ≤ mu_1 (σ i) ∧ (sv_o n t oc σ i ≠ σ i → mu_1 (sv_o n t oc σ i) < mu_1 (σ i)) := by
  cases oc with
  | none => exact ⟨Nat.le_refl _, fun e => absurd rfl e⟩
  | some c => exact mu_jn1 hσ (hc c rfl) i
theorem mu_s1 {n : Nat} {p : Nat → Nat → Int32} {i : Nat} {σ : sv_S} (hσ : sv_ok σ) (hl : (σ i).1 = true) (hp : in_ok (p i)) (j : Nat) : mu_1 (sv_step n p i σ j) ≤ mu_1 (σ j) ∧ (sv_step n p i σ j ≠ σ j → mu_1 (sv_step n p i σ j) < mu_1 (σ j)) := by
  unfold sv_step
  by_cases c1 : p i 0 = 11
  · rw [if_pos c1]; exact ⟨Nat.le_refl _, fun e => absurd rfl e⟩
  · rw [if_neg c1]
    by_cases c2 : p i 0 = 9
    · rw [if_pos c2]; exact mu_o1 hσ (fun c e => by cases e; exact hσ i hl) j
    · rw [if_neg c2]
      by_cases c3 : p i 0 = 7 ∨ p i 0 = 8
      · rw [if_pos c3]
        obtain ⟨t1, kt1⟩ := kp_way (p i 0)
        obtain ⟨t2, kt2⟩ := kp_oth (p i 0)
        have ha := in_a hp c3
        obtain ⟨a1, a2, -⟩ := sv_o_grow (n := n) (t := (p i 3).toNatClampNeg) (oc := sv_keep (σ i).2 (p i 1).toNatClampNeg (sv_way (p i 0))) hσ (fun c e => (sv_keep_ok (hσ i hl) ha kt1 e).1)
        have m1 := mu_o1 (n := n) (t := (p i 3).toNatClampNeg) (oc := sv_keep (σ i).2 (p i 1).toNatClampNeg (sv_way (p i 0))) hσ (fun c e => (sv_keep_ok (hσ i hl) ha kt1 e).1) j
        generalize sv_o n (p i 3).toNatClampNeg (sv_keep (σ i).2 (p i 1).toNatClampNeg (sv_way (p i 0))) σ = τ at *
        have m2 := mu_o1 (n := n) (t := i + 1) (oc := sv_keep (τ i).2 (p i 1).toNatClampNeg (sv_oth (p i 0))) a1 (fun c e => (sv_keep_ok (a1 i (a2 i hl).1) ha kt2 e).1) j
        refine ⟨by omega, fun e => ?_⟩
        by_cases z : τ j = σ j
        · have := m2.2 (fun q => e (q.trans z)); omega
        · have := m1.2 z; omega
      · rw [if_neg c3]; exact mu_o1 hσ (fun c e => sv_thru_ok hp (hσ i hl) e) j
theorem mu_sum {σ τ : sv_S} (h : ∀ j, mu_1 (τ j) ≤ mu_1 (σ j)) : ∀ n, mu_n τ n ≤ mu_n σ n ∧ ∀ j, j < n → mu_1 (τ j) < mu_1 (σ j) → mu_n τ n < mu_n σ n
  | 0 => ⟨Nat.le_refl _, fun j hj => absurd hj (Nat.not_lt_zero _)⟩
  | n + 1 => by
    obtain ⟨h1, h2⟩ := mu_sum h n
    have h3 := h n
    refine ⟨by unfold mu_n; omega, fun j hj q => ?_⟩
    unfold mu_n
    by_cases e : j = n
    · subst e; omega
    · have := h2 j (by omega) q
      omega
/-! the class takes only what waits: the same states come -/
def sv_inv (n : Nat) (p : Nat → Nat → Int32) (σ : sv_S) (w : Nat → Bool) : Prop := sv_ok σ ∧ (∀ j, j < n → w j = true → (σ j).1 = true) ∧ ∀ j, j < n → (σ j).1 = true → w j = false → sv_abs n p j σ
theorem sv_inv_skip {n : Nat} {p : Nat → Nat → Int32} {σ : sv_S} {w : Nat → Bool} (h : sv_inv n p σ w) {i : Nat} (hi : i < n) (hw : w i = false) : (if (σ i).1 = true then sv_step n p i σ else σ) = σ := by
  by_cases c : (σ i).1 = true
  · rw [if_pos c]; exact sv_step_abs h.1 (h.2.2 i hi c hw)
  · rw [if_neg c]
theorem sv_inv_do {n : Nat} {p : Nat → Nat → Int32} {σ : sv_S} {w w' : Nat → Bool} (h : sv_inv n p σ w) {i : Nat} (hi : i < n) (hw : w i = true) (hp : in_ok (p i)) (h1 : ∀ j, j < n → w' j = false → sv_step n p i σ j = σ j ∧ (j = i ∨ w j = false)) (h2 : ∀ j, j < n → w' j = true → (sv_step n p i σ j).1 = true) : sv_inv n p (sv_step n p i σ) w' := by
  have hl := h.2.1 i hi hw
  obtain ⟨g1, g2, g3⟩ := sv_step_grow (n := n) h.1 hl hp
  refine ⟨g1, h2, fun j hj lj wj => ?_⟩
  obtain ⟨e, c⟩ := h1 j hj wj
  by_cases q : j = i
  · subst q; exact g3 e
  · rcases c with c | c
    · exact absurd c q
    · rw [e] at lj
      exact sv_abs_mono (h.2.2 j hj lj c) g2 e
theorem sv_inv_end {n : Nat} {p : Nat → Nat → Int32} {σ : sv_S} {w : Nat → Bool} (h : sv_inv n p σ w) (hw : ∀ j, j < n → w j = false) : sv_pass n p n σ = σ := sv_pass_abs h.1 (fun i hi l => h.2.2 i hi l (hw i hi)) n (Nat.le_refl _)
theorem sv_inv_0 {n : Nat} (hn : 0 < n) {p : Nat → Nat → Int32} {w : Nat → Bool} (h0 : w 0 = true) (hw : ∀ j, 0 < j → j < n → w j = false) : sv_inv n p (sv_0 n) w := by
  refine ⟨sv_0_ok n, fun j hj q => ?_, fun j hj l q => ?_⟩
  · by_cases e : j = 0
    · subst e; exact decide_eq_true ⟨rfl, hn⟩
    · rw [hw j (by omega) hj] at q; cases q
  · by_cases e : j = 0
    · subst e; rw [h0] at q; cases q
    · have : ¬ (j = 0 ∧ 0 < n) := fun z => e z.1
      have l : decide (j = 0 ∧ 0 < n) = true := l
      rw [decide_eq_false this] at l; cases l
end
