abbrev b_Mkr_literalOf : ByteArray := prog_4_method_5_code
def y_Mkr_literalOf : MethodName := ⟨"CircuitDesk$NetMaker", "literalOf", "(II)I"⟩
def w_Mkr_literalOf : List Cond := .code y_Mkr_literalOf b_Mkr_literalOf 3 (some .int) :: lw_gw
theorem d_Mkr_literalOf_0 : decode b_Mkr_literalOf 0 = .ok (.iload_n 2, 1) := by decide +kernel
theorem d_Mkr_literalOf_1 : decode b_Mkr_literalOf 1 = .ok (.aload_n 0, 1) := by decide +kernel
theorem d_Mkr_literalOf_2 : decode b_Mkr_literalOf 2 = .ok (.getfield 34, 3) := by decide +kernel
theorem d_Mkr_literalOf_5 : decode b_Mkr_literalOf 5 = .ok (.getfield 80, 3) := by decide +kernel
theorem d_Mkr_literalOf_8 : decode b_Mkr_literalOf 8 = .ok (.iload_n 1, 1) := by decide +kernel
theorem d_Mkr_literalOf_9 : decode b_Mkr_literalOf 9 = .ok (.iaload, 1) := by decide +kernel
theorem d_Mkr_literalOf_10 : decode b_Mkr_literalOf 10 = .ok (.if_icmp .ge 17, 3) := by decide +kernel
theorem d_Mkr_literalOf_13 : decode b_Mkr_literalOf 13 = .ok (.aload_n 0, 1) := by decide +kernel
theorem d_Mkr_literalOf_14 : decode b_Mkr_literalOf 14 = .ok (.getfield 9, 3) := by decide +kernel
theorem d_Mkr_literalOf_17 : decode b_Mkr_literalOf 17 = .ok (.iload_n 1, 1) := by decide +kernel
theorem d_Mkr_literalOf_18 : decode b_Mkr_literalOf 18 = .ok (.bipush 8, 2) := by decide +kernel
theorem d_Mkr_literalOf_20 : decode b_Mkr_literalOf 20 = .ok (.imul, 1) := by decide +kernel
theorem d_Mkr_literalOf_21 : decode b_Mkr_literalOf 21 = .ok (.iload_n 2, 1) := by decide +kernel
theorem d_Mkr_literalOf_22 : decode b_Mkr_literalOf 22 = .ok (.iadd, 1) := by decide +kernel
theorem d_Mkr_literalOf_23 : decode b_Mkr_literalOf 23 = .ok (.iaload, 1) := by decide +kernel
theorem d_Mkr_literalOf_24 : decode b_Mkr_literalOf 24 = .ok (.goto 4, 3) := by decide +kernel
theorem d_Mkr_literalOf_27 : decode b_Mkr_literalOf 27 = .ok (.iconst 0, 1) := by decide +kernel
theorem d_Mkr_literalOf_28 : decode b_Mkr_literalOf 28 = .ok (.ireturn, 1) := by decide +kernel
abbrev b_Mkr_goToSecond : ByteArray := prog_4_method_9_code
def y_Mkr_goToSecond : MethodName := ⟨"CircuitDesk$NetMaker", "goToSecond", "(I)V"⟩
def w_Mkr_goToSecond : List Cond := .code y_Mkr_goToSecond b_Mkr_goToSecond 2 none :: lw_gw
theorem d_Mkr_goToSecond_0 : decode b_Mkr_goToSecond 0 = .ok (.aload_n 0, 1) := by decide +kernel
theorem d_Mkr_goToSecond_1 : decode b_Mkr_goToSecond 1 = .ok (.getfield 24, 3) := by decide +kernel
theorem d_Mkr_goToSecond_4 : decode b_Mkr_goToSecond 4 = .ok (.iload_n 1, 1) := by decide +kernel
theorem d_Mkr_goToSecond_5 : decode b_Mkr_goToSecond 5 = .ok (.aload_n 0, 1) := by decide +kernel
theorem d_Mkr_goToSecond_6 : decode b_Mkr_goToSecond 6 = .ok (.getfield 21, 3) := by decide +kernel
theorem d_Mkr_goToSecond_9 : decode b_Mkr_goToSecond 9 = .ok (.iload_n 1, 1) := by decide +kernel
theorem d_Mkr_goToSecond_10 : decode b_Mkr_goToSecond 10 = .ok (.iaload, 1) := by decide +kernel
theorem d_Mkr_goToSecond_11 : decode b_Mkr_goToSecond 11 = .ok (.iastore, 1) := by decide +kernel
theorem d_Mkr_goToSecond_12 : decode b_Mkr_goToSecond 12 = .ok (.aload_n 0, 1) := by decide +kernel
theorem d_Mkr_goToSecond_13 : decode b_Mkr_goToSecond 13 = .ok (.getfield 21, 3) := by decide +kernel
theorem d_Mkr_goToSecond_16 : decode b_Mkr_goToSecond 16 = .ok (.iload_n 1, 1) := by decide +kernel
theorem d_Mkr_goToSecond_17 : decode b_Mkr_goToSecond 17 = .ok (.aload_n 0, 1) := by decide +kernel
theorem d_Mkr_goToSecond_18 : decode b_Mkr_goToSecond 18 = .ok (.getfield 21, 3) := by decide +kernel
theorem d_Mkr_goToSecond_21 : decode b_Mkr_goToSecond 21 = .ok (.iload_n 1, 1) := by decide +kernel
theorem d_Mkr_goToSecond_22 : decode b_Mkr_goToSecond 22 = .ok (.iconst 1, 1) := by decide +kernel
theorem d_Mkr_goToSecond_23 : decode b_Mkr_goToSecond 23 = .ok (.isub, 1) := by decide +kernel
theorem d_Mkr_goToSecond_24 : decode b_Mkr_goToSecond 24 = .ok (.iaload, 1) := by decide +kernel
theorem d_Mkr_goToSecond_25 : decode b_Mkr_goToSecond 25 = .ok (.iastore, 1) := by decide +kernel
theorem d_Mkr_goToSecond_26 : decode b_Mkr_goToSecond 26 = .ok (.aload_n 0, 1) := by decide +kernel
theorem d_Mkr_goToSecond_27 : decode b_Mkr_goToSecond 27 = .ok (.getfield 30, 3) := by decide +kernel
theorem d_Mkr_goToSecond_30 : decode b_Mkr_goToSecond 30 = .ok (.iload_n 1, 1) := by decide +kernel
theorem d_Mkr_goToSecond_31 : decode b_Mkr_goToSecond 31 = .ok (.iconst 1, 1) := by decide +kernel
theorem d_Mkr_goToSecond_32 : decode b_Mkr_goToSecond 32 = .ok (.bastore, 1) := by decide +kernel
theorem d_Mkr_goToSecond_33 : decode b_Mkr_goToSecond 33 = .ok (.return_, 1) := by decide +kernel
abbrev b_Mkr_makeBits : ByteArray := prog_4_method_6_code
def y_Mkr_makeBits : MethodName := ⟨"CircuitDesk$NetMaker", "makeBits", "(I)V"⟩
def w_Mkr_makeBits : List Cond := .code y_Mkr_makeBits b_Mkr_makeBits 3 none :: lw_gw
theorem d_Mkr_makeBits_0 : decode b_Mkr_makeBits 0 = .ok (.iconst 0, 1) := by decide +kernel
theorem d_Mkr_makeBits_1 : decode b_Mkr_makeBits 1 = .ok (.istore_n 2, 1) := by decide +kernel
theorem d_Mkr_makeBits_2 : decode b_Mkr_makeBits 2 = .ok (.iload_n 2, 1) := by decide +kernel
theorem d_Mkr_makeBits_3 : decode b_Mkr_makeBits 3 = .ok (.aload_n 0, 1) := by decide +kernel
theorem d_Mkr_makeBits_4 : decode b_Mkr_makeBits 4 = .ok (.getfield 34, 3) := by decide +kernel
theorem d_Mkr_makeBits_7 : decode b_Mkr_makeBits 7 = .ok (.getfield 80, 3) := by decide +kernel
theorem d_Mkr_makeBits_10 : decode b_Mkr_makeBits 10 = .ok (.iload_n 1, 1) := by decide +kernel
theorem d_Mkr_makeBits_11 : decode b_Mkr_makeBits 11 = .ok (.iaload, 1) := by decide +kernel
theorem d_Mkr_makeBits_12 : decode b_Mkr_makeBits 12 = .ok (.if_icmp .ge 25, 3) := by decide +kernel
theorem d_Mkr_makeBits_15 : decode b_Mkr_makeBits 15 = .ok (.aload_n 0, 1) := by decide +kernel
theorem d_Mkr_makeBits_16 : decode b_Mkr_makeBits 16 = .ok (.getfield 9, 3) := by decide +kernel
theorem d_Mkr_makeBits_19 : decode b_Mkr_makeBits 19 = .ok (.iload_n 1, 1) := by decide +kernel
theorem d_Mkr_makeBits_20 : decode b_Mkr_makeBits 20 = .ok (.bipush 8, 2) := by decide +kernel
theorem d_Mkr_makeBits_22 : decode b_Mkr_makeBits 22 = .ok (.imul, 1) := by decide +kernel
theorem d_Mkr_makeBits_23 : decode b_Mkr_makeBits 23 = .ok (.iload_n 2, 1) := by decide +kernel
theorem d_Mkr_makeBits_24 : decode b_Mkr_makeBits 24 = .ok (.iadd, 1) := by decide +kernel
theorem d_Mkr_makeBits_25 : decode b_Mkr_makeBits 25 = .ok (.iload_n 1, 1) := by decide +kernel
theorem d_Mkr_makeBits_26 : decode b_Mkr_makeBits 26 = .ok (.iload_n 2, 1) := by decide +kernel
theorem d_Mkr_makeBits_27 : decode b_Mkr_makeBits 27 = .ok (.invokestatic 96, 3) := by decide +kernel
theorem d_Mkr_makeBits_30 : decode b_Mkr_makeBits 30 = .ok (.iastore, 1) := by decide +kernel
theorem d_Mkr_makeBits_31 : decode b_Mkr_makeBits 31 = .ok (.iinc 2 1, 3) := by decide +kernel
theorem d_Mkr_makeBits_34 : decode b_Mkr_makeBits 34 = .ok (.goto (-32), 3) := by decide +kernel
theorem d_Mkr_makeBits_37 : decode b_Mkr_makeBits 37 = .ok (.return_, 1) := by decide +kernel
abbrev b_Mkr_fixedBitsOf : ByteArray := prog_4_method_3_code
def y_Mkr_fixedBitsOf : MethodName := ⟨"CircuitDesk$NetMaker", "fixedBitsOf", "(I)I"⟩
def w_Mkr_fixedBitsOf : List Cond := .code y_Mkr_fixedBitsOf b_Mkr_fixedBitsOf 5 (some .int) :: lw_gw
theorem d_Mkr_fixedBitsOf_0 : decode b_Mkr_fixedBitsOf 0 = .ok (.iconst 0, 1) := by decide +kernel
theorem d_Mkr_fixedBitsOf_1 : decode b_Mkr_fixedBitsOf 1 = .ok (.istore_n 2, 1) := by decide +kernel
theorem d_Mkr_fixedBitsOf_2 : decode b_Mkr_fixedBitsOf 2 = .ok (.iconst 0, 1) := by decide +kernel
theorem d_Mkr_fixedBitsOf_3 : decode b_Mkr_fixedBitsOf 3 = .ok (.istore_n 3, 1) := by decide +kernel
theorem d_Mkr_fixedBitsOf_4 : decode b_Mkr_fixedBitsOf 4 = .ok (.iload_n 3, 1) := by decide +kernel
theorem d_Mkr_fixedBitsOf_5 : decode b_Mkr_fixedBitsOf 5 = .ok (.aload_n 0, 1) := by decide +kernel
theorem d_Mkr_fixedBitsOf_6 : decode b_Mkr_fixedBitsOf 6 = .ok (.getfield 34, 3) := by decide +kernel
theorem d_Mkr_fixedBitsOf_9 : decode b_Mkr_fixedBitsOf 9 = .ok (.getfield 80, 3) := by decide +kernel
theorem d_Mkr_fixedBitsOf_12 : decode b_Mkr_fixedBitsOf 12 = .ok (.iload_n 1, 1) := by decide +kernel
theorem d_Mkr_fixedBitsOf_13 : decode b_Mkr_fixedBitsOf 13 = .ok (.iaload, 1) := by decide +kernel
theorem d_Mkr_fixedBitsOf_14 : decode b_Mkr_fixedBitsOf 14 = .ok (.if_icmp .ge 31, 3) := by decide +kernel
theorem d_Mkr_fixedBitsOf_17 : decode b_Mkr_fixedBitsOf 17 = .ok (.aload_n 0, 1) := by decide +kernel
theorem d_Mkr_fixedBitsOf_18 : decode b_Mkr_fixedBitsOf 18 = .ok (.iload_n 1, 1) := by decide +kernel
theorem d_Mkr_fixedBitsOf_19 : decode b_Mkr_fixedBitsOf 19 = .ok (.iload_n 3, 1) := by decide +kernel
theorem d_Mkr_fixedBitsOf_20 : decode b_Mkr_fixedBitsOf 20 = .ok (.invokevirtual 83, 3) := by decide +kernel
theorem d_Mkr_fixedBitsOf_23 : decode b_Mkr_fixedBitsOf 23 = .ok (.istore 4, 2) := by decide +kernel
theorem d_Mkr_fixedBitsOf_25 : decode b_Mkr_fixedBitsOf 25 = .ok (.iload 4, 2) := by decide +kernel
theorem d_Mkr_fixedBitsOf_27 : decode b_Mkr_fixedBitsOf 27 = .ok (.ifCond .eq 9, 3) := by decide +kernel
theorem d_Mkr_fixedBitsOf_30 : decode b_Mkr_fixedBitsOf 30 = .ok (.iload 4, 2) := by decide +kernel
theorem d_Mkr_fixedBitsOf_32 : decode b_Mkr_fixedBitsOf 32 = .ok (.iconst 1, 1) := by decide +kernel
theorem d_Mkr_fixedBitsOf_33 : decode b_Mkr_fixedBitsOf 33 = .ok (.if_icmp .ne 6, 3) := by decide +kernel
theorem d_Mkr_fixedBitsOf_36 : decode b_Mkr_fixedBitsOf 36 = .ok (.iinc 2 1, 3) := by decide +kernel
theorem d_Mkr_fixedBitsOf_39 : decode b_Mkr_fixedBitsOf 39 = .ok (.iinc 3 1, 3) := by decide +kernel
theorem d_Mkr_fixedBitsOf_42 : decode b_Mkr_fixedBitsOf 42 = .ok (.goto (-38), 3) := by decide +kernel
theorem d_Mkr_fixedBitsOf_45 : decode b_Mkr_fixedBitsOf 45 = .ok (.iload_n 2, 1) := by decide +kernel
theorem d_Mkr_fixedBitsOf_46 : decode b_Mkr_fixedBitsOf 46 = .ok (.ireturn, 1) := by decide +kernel
abbrev b_Mkr_depthOf : ByteArray := prog_4_method_4_code
def y_Mkr_depthOf : MethodName := ⟨"CircuitDesk$NetMaker", "depthOf", "(I)I"⟩
def w_Mkr_depthOf : List Cond := .code y_Mkr_depthOf b_Mkr_depthOf 4 (some .int) :: lw_gw
theorem d_Mkr_depthOf_0 : decode b_Mkr_depthOf 0 = .ok (.iconst 0, 1) := by decide +kernel
theorem d_Mkr_depthOf_1 : decode b_Mkr_depthOf 1 = .ok (.istore_n 2, 1) := by decide +kernel
theorem d_Mkr_depthOf_2 : decode b_Mkr_depthOf 2 = .ok (.iconst 0, 1) := by decide +kernel
theorem d_Mkr_depthOf_3 : decode b_Mkr_depthOf 3 = .ok (.istore_n 3, 1) := by decide +kernel
theorem d_Mkr_depthOf_4 : decode b_Mkr_depthOf 4 = .ok (.iload_n 3, 1) := by decide +kernel
theorem d_Mkr_depthOf_5 : decode b_Mkr_depthOf 5 = .ok (.aload_n 0, 1) := by decide +kernel
theorem d_Mkr_depthOf_6 : decode b_Mkr_depthOf 6 = .ok (.getfield 34, 3) := by decide +kernel
theorem d_Mkr_depthOf_9 : decode b_Mkr_depthOf 9 = .ok (.getfield 80, 3) := by decide +kernel
theorem d_Mkr_depthOf_12 : decode b_Mkr_depthOf 12 = .ok (.iload_n 1, 1) := by decide +kernel
theorem d_Mkr_depthOf_13 : decode b_Mkr_depthOf 13 = .ok (.iaload, 1) := by decide +kernel
theorem d_Mkr_depthOf_14 : decode b_Mkr_depthOf 14 = .ok (.if_icmp .ge 27, 3) := by decide +kernel
theorem d_Mkr_depthOf_17 : decode b_Mkr_depthOf 17 = .ok (.iload_n 2, 1) := by decide +kernel
theorem d_Mkr_depthOf_18 : decode b_Mkr_depthOf 18 = .ok (.aload_n 0, 1) := by decide +kernel
theorem d_Mkr_depthOf_19 : decode b_Mkr_depthOf 19 = .ok (.getfield 46, 3) := by decide +kernel
theorem d_Mkr_depthOf_22 : decode b_Mkr_depthOf 22 = .ok (.aload_n 0, 1) := by decide +kernel
theorem d_Mkr_depthOf_23 : decode b_Mkr_depthOf 23 = .ok (.iload_n 1, 1) := by decide +kernel
theorem d_Mkr_depthOf_24 : decode b_Mkr_depthOf 24 = .ok (.iload_n 3, 1) := by decide +kernel
theorem d_Mkr_depthOf_25 : decode b_Mkr_depthOf 25 = .ok (.invokevirtual 83, 3) := by decide +kernel
theorem d_Mkr_depthOf_28 : decode b_Mkr_depthOf 28 = .ok (.invokevirtual 87, 3) := by decide +kernel
theorem d_Mkr_depthOf_31 : decode b_Mkr_depthOf 31 = .ok (.invokestatic 91, 3) := by decide +kernel
theorem d_Mkr_depthOf_34 : decode b_Mkr_depthOf 34 = .ok (.istore_n 2, 1) := by decide +kernel
theorem d_Mkr_depthOf_35 : decode b_Mkr_depthOf 35 = .ok (.iinc 3 1, 3) := by decide +kernel
theorem d_Mkr_depthOf_38 : decode b_Mkr_depthOf 38 = .ok (.goto (-34), 3) := by decide +kernel
theorem d_Mkr_depthOf_41 : decode b_Mkr_depthOf 41 = .ok (.iload_n 2, 1) := by decide +kernel
theorem d_Mkr_depthOf_42 : decode b_Mkr_depthOf 42 = .ok (.ireturn, 1) := by decide +kernel
set_option maxHeartbeats 4000000 in
set_option maxRecDepth 100000 in
theorem c_Mkr_literalOf (l : Launch) (dC : Nat → ClassId) (dI : Nat → Nat → Nat) (cI cZ : ClassId) (a_mkr a_bits a_nbits a_sig a_stm a_chk a_net a_sums a_given a_gfirst a_cond a_insec a_kind a_width a_rword a_sop a_sa a_sb a_sc : Nat) (tt sz : Nat) (n : Nat) (Wd : Nat → Nat) (Bt : Nat → Nat) (S : Nat) (J : Nat) (b_n : n ≤ 14) (b_Wd : ∀ j, Wd j < 9) (b_Bt : ∀ j, Bt j < 2786) (hS14 : S < 14) (hJ : J < 1000) : Met l y_Mkr_literalOf w_Mkr_literalOf ({ frames := 0, cells := 0, slots := 0, locals := 0 }) (va_Pc [.ref a_mkr, .int (nI S), .int (nI J)] (PW (dC, dI) classes [(cI, .int), (cZ, .boolean)] tt [(a_mkr, .inr (4, [.ref a_bits, .ref a_nbits, .ref a_sig, .ref a_stm, .ref a_chk, .ref a_net, .ref a_sums, .ref a_given, .ref a_gfirst, .ref a_cond, .ref a_insec])), (a_sig, .inr (1, [.ref a_kind, .ref a_width, .ref a_rword, .ref a_sop, .ref a_sa, .ref a_sb, .ref a_sc, .int (nI n)])), (a_width, .inl (cI, 14, .inl (nF Wd))), (a_bits, .inl (cI, 112, .inl (nF Bt)))] sz)) (va_Qi (fun (r : Int32) (u : Unit) => (r = nI (lit Bt Wd S J))) (AT (dC, dI) classes [(cI, .int), (cZ, .boolean)] (va_A [(a_mkr, .inr (4, [.ref a_bits, .ref a_nbits, .ref a_sig, .ref a_stm, .ref a_chk, .ref a_net, .ref a_sums, .ref a_given, .ref a_gfirst, .ref a_cond, .ref a_insec])), (a_sig, .inr (1, [.ref a_kind, .ref a_width, .ref a_rword, .ref a_sop, .ref a_sa, .ref a_sb, .ref a_sc, .int (nI n)])), (a_width, .inl (cI, 14, .inl (nF Wd))), (a_bits, .inl (cI, 112, .inl (nF Bt)))] sz) (fun (u : Unit) => [(a_mkr, .inr (4, [.ref a_bits, .ref a_nbits, .ref a_sig, .ref a_stm, .ref a_chk, .ref a_net, .ref a_sums, .ref a_given, .ref a_gfirst, .ref a_cond, .ref a_insec])), (a_sig, .inr (1, [.ref a_kind, .ref a_width, .ref a_rword, .ref a_sop, .ref a_sa, .ref a_sb, .ref a_sc, .int (nI n)])), (a_width, .inl (cI, 14, .inl (nF Wd))), (a_bits, .inl (cI, 112, .inl (nF Bt)))])) (va_A [(a_mkr, .inr (4, [.ref a_bits, .ref a_nbits, .ref a_sig, .ref a_stm, .ref a_chk, .ref a_net, .ref a_sums, .ref a_given, .ref a_gfirst, .ref a_cond, .ref a_insec])), (a_sig, .inr (1, [.ref a_kind, .ref a_width, .ref a_rword, .ref a_sop, .ref a_sa, .ref a_sb, .ref a_sc, .int (nI n)])), (a_width, .inl (cI, 14, .inl (nF Wd))), (a_bits, .inl (cI, 112, .inl (nF Bt)))] sz)) 0 0 (va_A [(a_mkr, .inr (4, [.ref a_bits, .ref a_nbits, .ref a_sig, .ref a_stm, .ref a_chk, .ref a_net, .ref a_sums, .ref a_given, .ref a_gfirst, .ref a_cond, .ref a_insec])), (a_sig, .inr (1, [.ref a_kind, .ref a_width, .ref a_rword, .ref a_sop, .ref a_sa, .ref a_sb, .ref a_sc, .int (nI n)])), (a_width, .inl (cI, 14, .inl (nF Wd))), (a_bits, .inl (cI, 112, .inl (nF Bt)))] sz) := by
  refine Met.ofW (cc := b_Mkr_literalOf) (maxL := 3) (ret := (some .int)) (by decide) rfl ?_
  intro p e s m args below meth c s₁ B hml hv
  obtain ⟨rfl, hsz, hP, hK, hD0, hE⟩ := hv
  have hx := B.exec
  have hb := B.bytes
  have hr := B.returns
  have hts := atoms_spec (ws := w_Mkr_literalOf) B.pre
  have hown : s.vm.findClass R_Mkr = some m.cls := findClass_of_methodNamed B.named
  have hlocks := B.notSynchronized
  subst hsz
  have hD := hD0.self (sz := s.heap.size)
  generalize hAe : va_A [(a_mkr, .inr (4, [.ref a_bits, .ref a_nbits, .ref a_sig, .ref a_stm, .ref a_chk, .ref a_net, .ref a_sums, .ref a_given, .ref a_gfirst, .ref a_cond, .ref a_insec])), (a_sig, .inr (1, [.ref a_kind, .ref a_width, .ref a_rword, .ref a_sop, .ref a_sa, .ref a_sb, .ref a_sc, .int (nI n)])), (a_width, .inl (cI, 14, .inl (nF Wd))), (a_bits, .inl (cI, 112, .inl (nF Bt)))] s.heap.size = A at hD hE ⊢
  have hA : ∀ q : Nat, s.heap.size ≤ q → A q := fun q h => by rw [← hAe]; exact Or.inr h
  have hS : va_S A s.heap s.heap [] := va_S.rf
  have hP : va_P (dC, dI) classes [(a_mkr, .inr (4, [.ref a_bits, .ref a_nbits, .ref a_sig, .ref a_stm, .ref a_chk, .ref a_net, .ref a_sums, .ref a_given, .ref a_gfirst, .ref a_cond, .ref a_insec])), (a_sig, .inr (1, [.ref a_kind, .ref a_width, .ref a_rword, .ref a_sop, .ref a_sa, .ref a_sb, .ref a_sc, .int (nI n)])), (a_width, .inl (cI, 14, .inl (nF Wd))), (a_bits, .inl (cI, 112, .inl (nF Bt)))] s.heap := hP
  have hl := lv_entry ([.ref a_mkr, .int (nI S), .int (nI J)]) (n := 3) (Nat.le_of_ble_eq_true rfl)
  rw [lg_entry_eq]
  generalize (lg_sl ([.ref a_mkr, .int (nI S), .int (nI J)]) ++ List.replicate (3 - (lg_sl ([.ref a_mkr, .int (nI S), .int (nI J)])).length) Slot.unset).toArray = ls at hl ⊢
  have hl : lv_has ls 3 [(0, .ref a_mkr), (1, .int (nI S)), (2, .int (nI J))] := hl
  refine lv_iload_n hx hb d_Mkr_literalOf_0 rfl (lv_at hl 2 rfl) ?_
  refine lv_aload_n hx hb d_Mkr_literalOf_1 rfl (lv_at hl 0 rfl) ?_
  refine va_get (D := (dC, dI)) (ci := 4) (v := .ref a_sig) (C := R_Mkr) (T := F_Mkr) (N := 11) hx hb hts (wi i_Mkr) hown hK hP 0 rfl rfl 2 (by decide) (hts _ (mt 210 rfl rfl)) (fun _ h9 => h9) rfl d_Mkr_literalOf_2 ?_
  refine va_get (D := (dC, dI)) (ci := 1) (v := .ref a_width) (C := R_Sig) (T := F_Sig) (N := 8) hx hb hts (wi i_Sig) hown hK hP 1 rfl rfl 1 (by decide) (hts _ (mt 70 rfl rfl)) (fun _ h9 => h9) rfl d_Mkr_literalOf_5 ?_
  refine lv_iload_n hx hb d_Mkr_literalOf_8 rfl (lv_at hl 1 rfl) ?_
  refine k_ild hx hb hK hP 2 0 rfl rfl (by omega) (by decide) d_Mkr_literalOf_9 ?_
  have hb_1 := b_Wd S
  refine lv_icmp_ge (tgt := 27) hx hb d_Mkr_literalOf_10 (by decide) (fun c10 => ?_) (fun c10 => ?_)
  · skip
    have c10 : (Wd S) ≤ J := (nI_leI (by omega) (by omega)).mp c10
    refine lv_iconst (v := nI 0) hx hb d_Mkr_literalOf_27 rfl ?_
    exact W.iret (v := nI 0) hx hb hr (fun t ht hW => ⟨⟨nI 0, (), rfl, (by unfold lit; rw [if_neg (by omega)]), by rw [ht]; exact hP, va_K.moved hW.alike hK, hD⟩, hS.F ht⟩) hS.2.2 d_Mkr_literalOf_28
  · skip
    have c10 : ¬ ((Wd S) ≤ J) := fun h => c10 ((nI_leI (by omega) (by omega)).mpr h)
    refine lv_aload_n hx hb d_Mkr_literalOf_13 rfl (lv_at hl 0 rfl) ?_
    refine va_get (D := (dC, dI)) (ci := 4) (v := .ref a_bits) (C := R_Mkr) (T := F_Mkr) (N := 11) hx hb hts (wi i_Mkr) hown hK hP 0 rfl rfl 0 (by decide) (hts _ (mt 206 rfl rfl)) (fun _ h9 => h9) rfl d_Mkr_literalOf_14 ?_
    refine lv_iload_n hx hb d_Mkr_literalOf_17 rfl (lv_at hl 1 rfl) ?_
    refine lv_bipush (v := nI 8) hx hb d_Mkr_literalOf_18 rfl ?_
    refine lv_imul hx hb d_Mkr_literalOf_20 ?_
    refine k_top (pk_mul _ _) ?_
    refine lv_iload_n hx hb d_Mkr_literalOf_21 rfl (lv_at hl 2 rfl) ?_
    refine lv_iadd hx hb d_Mkr_literalOf_22 ?_
    refine k_top (nI_add _ _) ?_
    refine k_ild hx hb hK hP 3 0 rfl rfl (by omega) (by decide) d_Mkr_literalOf_23 ?_
    have hb_2 := b_Bt ((S * 8) + J)
    refine lv_goto (tgt := 28) hx hb d_Mkr_literalOf_24 (by decide) ?_
    exact W.iret (v := nI (Bt ((S * 8) + J))) hx hb hr (fun t ht hW => ⟨⟨nI (Bt ((S * 8) + J)), (), rfl, (by unfold lit; rw [if_pos (by omega)]), by rw [ht]; exact hP, va_K.moved hW.alike hK, hD⟩, hS.F ht⟩) hS.2.2 d_Mkr_literalOf_28
set_option maxHeartbeats 4000000 in
set_option maxRecDepth 100000 in
theorem c_Mkr_goToSecond (l : Launch) (dC : Nat → ClassId) (dI : Nat → Nat → Nat) (cI cZ : ClassId) (a_mkr a_bits a_nbits a_sig a_stm a_chk a_net a_sums a_given a_gfirst a_cond a_insec : Nat) (tt sz : Nat) (Gv : Nat → Nat) (Gf : Nat → Nat) (Is : Nat → Nat) (d : Nat) (b_Gv : ∀ j, Gv j < 2786) (b_Gf : ∀ j, Gf j < 2786) (b_Is : ∀ j, Is j < 2) (hd0 : 0 < d) (hd5 : d < 5) : Met l y_Mkr_goToSecond w_Mkr_goToSecond ({ frames := 0, cells := 0, slots := 0, locals := 0 }) (va_Pc [.ref a_mkr, .int (nI d)] (PW (dC, dI) classes [(cI, .int), (cZ, .boolean)] tt [(a_mkr, .inr (4, [.ref a_bits, .ref a_nbits, .ref a_sig, .ref a_stm, .ref a_chk, .ref a_net, .ref a_sums, .ref a_given, .ref a_gfirst, .ref a_cond, .ref a_insec])), (a_given, .inl (cI, 5, .inl (nF Gv))), (a_gfirst, .inl (cI, 5, .inl (nF Gf))), (a_insec, .inl (cZ, 5, .inl (nF Is)))] sz)) (va_Qv (fun (u : Unit) => True) (AT (dC, dI) classes [(cI, .int), (cZ, .boolean)] (va_A [(a_mkr, .inr (4, [.ref a_bits, .ref a_nbits, .ref a_sig, .ref a_stm, .ref a_chk, .ref a_net, .ref a_sums, .ref a_given, .ref a_gfirst, .ref a_cond, .ref a_insec])), (a_given, .inl (cI, 5, .inl (nF Gv))), (a_gfirst, .inl (cI, 5, .inl (nF Gf))), (a_insec, .inl (cZ, 5, .inl (nF Is)))] sz) (fun (u : Unit) => [(a_mkr, .inr (4, [.ref a_bits, .ref a_nbits, .ref a_sig, .ref a_stm, .ref a_chk, .ref a_net, .ref a_sums, .ref a_given, .ref a_gfirst, .ref a_cond, .ref a_insec])), (a_given, .inl (cI, 5, .inl (nF (upN Gv d (Gv (d - 1)))))), (a_gfirst, .inl (cI, 5, .inl (nF (upN Gf d (Gv d))))), (a_insec, .inl (cZ, 5, .inl (nF (upN Is d 1))))])) (va_A [(a_mkr, .inr (4, [.ref a_bits, .ref a_nbits, .ref a_sig, .ref a_stm, .ref a_chk, .ref a_net, .ref a_sums, .ref a_given, .ref a_gfirst, .ref a_cond, .ref a_insec])), (a_given, .inl (cI, 5, .inl (nF Gv))), (a_gfirst, .inl (cI, 5, .inl (nF Gf))), (a_insec, .inl (cZ, 5, .inl (nF Is)))] sz)) 0 0 (va_A [(a_mkr, .inr (4, [.ref a_bits, .ref a_nbits, .ref a_sig, .ref a_stm, .ref a_chk, .ref a_net, .ref a_sums, .ref a_given, .ref a_gfirst, .ref a_cond, .ref a_insec])), (a_given, .inl (cI, 5, .inl (nF Gv))), (a_gfirst, .inl (cI, 5, .inl (nF Gf))), (a_insec, .inl (cZ, 5, .inl (nF Is)))] sz) := by
  refine Met.ofW (cc := b_Mkr_goToSecond) (maxL := 2) (ret := none) (by decide) rfl ?_
  intro p e s m args below meth c s₁ B hml hv
  obtain ⟨rfl, hsz, hP, hK, hD0, hE⟩ := hv
  have hx := B.exec
  have hb := B.bytes
  have hr := B.returns
  have hts := atoms_spec (ws := w_Mkr_goToSecond) B.pre
  have hown : s.vm.findClass R_Mkr = some m.cls := findClass_of_methodNamed B.named
  have hlocks := B.notSynchronized
  subst hsz
  have hD := hD0.self (sz := s.heap.size)
  generalize hAe : va_A [(a_mkr, .inr (4, [.ref a_bits, .ref a_nbits, .ref a_sig, .ref a_stm, .ref a_chk, .ref a_net, .ref a_sums, .ref a_given, .ref a_gfirst, .ref a_cond, .ref a_insec])), (a_given, .inl (cI, 5, .inl (nF Gv))), (a_gfirst, .inl (cI, 5, .inl (nF Gf))), (a_insec, .inl (cZ, 5, .inl (nF Is)))] s.heap.size = A at hD hE ⊢
  have hA : ∀ q : Nat, s.heap.size ≤ q → A q := fun q h => by rw [← hAe]; exact Or.inr h
  have hS : va_S A s.heap s.heap [] := va_S.rf
  have hP : va_P (dC, dI) classes [(a_mkr, .inr (4, [.ref a_bits, .ref a_nbits, .ref a_sig, .ref a_stm, .ref a_chk, .ref a_net, .ref a_sums, .ref a_given, .ref a_gfirst, .ref a_cond, .ref a_insec])), (a_given, .inl (cI, 5, .inl (nF Gv))), (a_gfirst, .inl (cI, 5, .inl (nF Gf))), (a_insec, .inl (cZ, 5, .inl (nF Is)))] s.heap := hP
  have hl := lv_entry ([.ref a_mkr, .int (nI d)]) (n := 2) (Nat.le_of_ble_eq_true rfl)
  rw [lg_entry_eq]
  generalize (lg_sl ([.ref a_mkr, .int (nI d)]) ++ List.replicate (2 - (lg_sl ([.ref a_mkr, .int (nI d)])).length) Slot.unset).toArray = ls at hl ⊢
  have hl : lv_has ls 2 [(0, .ref a_mkr), (1, .int (nI d))] := hl
  refine lv_aload_n hx hb d_Mkr_goToSecond_0 rfl (lv_at hl 0 rfl) ?_
  refine va_get (D := (dC, dI)) (ci := 4) (v := .ref a_gfirst) (C := R_Mkr) (T := F_Mkr) (N := 11) hx hb hts (wi i_Mkr) hown hK hP 0 rfl rfl 8 (by decide) (hts _ (mt 216 rfl rfl)) (fun _ h9 => h9) rfl d_Mkr_goToSecond_1 ?_
  refine lv_iload_n hx hb d_Mkr_goToSecond_4 rfl (lv_at hl 1 rfl) ?_
  refine lv_aload_n hx hb d_Mkr_goToSecond_5 rfl (lv_at hl 0 rfl) ?_
  refine va_get (D := (dC, dI)) (ci := 4) (v := .ref a_given) (C := R_Mkr) (T := F_Mkr) (N := 11) hx hb hts (wi i_Mkr) hown hK hP 0 rfl rfl 7 (by decide) (hts _ (mt 215 rfl rfl)) (fun _ h9 => h9) rfl d_Mkr_goToSecond_6 ?_
  refine lv_iload_n hx hb d_Mkr_goToSecond_9 rfl (lv_at hl 1 rfl) ?_
  refine k_ild hx hb hK hP 1 0 rfl rfl (by omega) (by decide) d_Mkr_goToSecond_10 ?_
  have hb_1 := b_Gv d
  refine k_ist hx hb hK hP hD hS 2 0 rfl rfl (by omega) (by decide) d_Mkr_goToSecond_11 (fun H locs hP hD hS => ?_)
  have bb_2 : ∀ j, upN Gf d (Gv d) j < 2786 := upN_lt b_Gf (by omega)
  have hP : va_P (dC, dI) classes [(a_mkr, .inr (4, [.ref a_bits, .ref a_nbits, .ref a_sig, .ref a_stm, .ref a_chk, .ref a_net, .ref a_sums, .ref a_given, .ref a_gfirst, .ref a_cond, .ref a_insec])), (a_given, .inl (cI, 5, .inl (nF Gv))), (a_gfirst, .inl (cI, 5, .inl (nF (upN Gf d (Gv d))))), (a_insec, .inl (cZ, 5, .inl (nF Is)))] H := hP
  have hD : va_D A [(a_mkr, .inr (4, [.ref a_bits, .ref a_nbits, .ref a_sig, .ref a_stm, .ref a_chk, .ref a_net, .ref a_sums, .ref a_given, .ref a_gfirst, .ref a_cond, .ref a_insec])), (a_given, .inl (cI, 5, .inl (nF Gv))), (a_gfirst, .inl (cI, 5, .inl (nF (upN Gf d (Gv d))))), (a_insec, .inl (cZ, 5, .inl (nF Is)))] := hD
  refine lv_aload_n hx hb d_Mkr_goToSecond_12 rfl (lv_at hl 0 rfl) ?_
  refine va_get (D := (dC, dI)) (ci := 4) (v := .ref a_given) (C := R_Mkr) (T := F_Mkr) (N := 11) hx hb hts (wi i_Mkr) hown hK hP 0 rfl rfl 7 (by decide) (hts _ (mt 215 rfl rfl)) (fun _ h9 => h9) rfl d_Mkr_goToSecond_13 ?_
  refine lv_iload_n hx hb d_Mkr_goToSecond_16 rfl (lv_at hl 1 rfl) ?_
  refine lv_aload_n hx hb d_Mkr_goToSecond_17 rfl (lv_at hl 0 rfl) ?_
  refine va_get (D := (dC, dI)) (ci := 4) (v := .ref a_given) (C := R_Mkr) (T := F_Mkr) (N := 11) hx hb hts (wi i_Mkr) hown hK hP 0 rfl rfl 7 (by decide) (hts _ (mt 215 rfl rfl)) (fun _ h9 => h9) rfl d_Mkr_goToSecond_18 ?_
  refine lv_iload_n hx hb d_Mkr_goToSecond_21 rfl (lv_at hl 1 rfl) ?_
  refine lv_iconst (v := nI 1) hx hb d_Mkr_goToSecond_22 rfl ?_
  refine lv_isub hx hb d_Mkr_goToSecond_23 ?_
  refine k_top (pk_sub (by omega)) ?_
  refine k_ild hx hb hK hP 1 0 rfl rfl (by omega) (by decide) d_Mkr_goToSecond_24 ?_
  have hb_3 := b_Gv (d - 1)
  refine k_ist hx hb hK hP hD hS 1 0 rfl rfl (by omega) (by decide) d_Mkr_goToSecond_25 (fun H locs hP hD hS => ?_)
  have bb_4 : ∀ j, upN Gv d (Gv (d - 1)) j < 2786 := upN_lt b_Gv (by omega)
  have hP : va_P (dC, dI) classes [(a_mkr, .inr (4, [.ref a_bits, .ref a_nbits, .ref a_sig, .ref a_stm, .ref a_chk, .ref a_net, .ref a_sums, .ref a_given, .ref a_gfirst, .ref a_cond, .ref a_insec])), (a_given, .inl (cI, 5, .inl (nF (upN Gv d (Gv (d - 1)))))), (a_gfirst, .inl (cI, 5, .inl (nF (upN Gf d (Gv d))))), (a_insec, .inl (cZ, 5, .inl (nF Is)))] H := hP
  have hD : va_D A [(a_mkr, .inr (4, [.ref a_bits, .ref a_nbits, .ref a_sig, .ref a_stm, .ref a_chk, .ref a_net, .ref a_sums, .ref a_given, .ref a_gfirst, .ref a_cond, .ref a_insec])), (a_given, .inl (cI, 5, .inl (nF (upN Gv d (Gv (d - 1)))))), (a_gfirst, .inl (cI, 5, .inl (nF (upN Gf d (Gv d))))), (a_insec, .inl (cZ, 5, .inl (nF Is)))] := hD
  refine lv_aload_n hx hb d_Mkr_goToSecond_26 rfl (lv_at hl 0 rfl) ?_
  refine va_get (D := (dC, dI)) (ci := 4) (v := .ref a_insec) (C := R_Mkr) (T := F_Mkr) (N := 11) hx hb hts (wi i_Mkr) hown hK hP 0 rfl rfl 10 (by decide) (hts _ (mt 218 rfl rfl)) (fun _ h9 => h9) rfl d_Mkr_goToSecond_27 ?_
  refine lv_iload_n hx hb d_Mkr_goToSecond_30 rfl (lv_at hl 1 rfl) ?_
  refine lv_iconst (v := nI 1) hx hb d_Mkr_goToSecond_31 rfl ?_
  refine k_zst hx hb hK hP hD hS 3 1 rfl rfl (by omega) (by decide) (by omega) d_Mkr_goToSecond_32 (fun H locs hP hD hS => ?_)
  have bb_5 : ∀ j, upN Is d 1 j < 2 := upN_lt b_Is (by omega)
  have hP : va_P (dC, dI) classes [(a_mkr, .inr (4, [.ref a_bits, .ref a_nbits, .ref a_sig, .ref a_stm, .ref a_chk, .ref a_net, .ref a_sums, .ref a_given, .ref a_gfirst, .ref a_cond, .ref a_insec])), (a_given, .inl (cI, 5, .inl (nF (upN Gv d (Gv (d - 1)))))), (a_gfirst, .inl (cI, 5, .inl (nF (upN Gf d (Gv d))))), (a_insec, .inl (cZ, 5, .inl (nF (upN Is d 1))))] H := hP
  have hD : va_D A [(a_mkr, .inr (4, [.ref a_bits, .ref a_nbits, .ref a_sig, .ref a_stm, .ref a_chk, .ref a_net, .ref a_sums, .ref a_given, .ref a_gfirst, .ref a_cond, .ref a_insec])), (a_given, .inl (cI, 5, .inl (nF (upN Gv d (Gv (d - 1)))))), (a_gfirst, .inl (cI, 5, .inl (nF (upN Gf d (Gv d))))), (a_insec, .inl (cZ, 5, .inl (nF (upN Is d 1))))] := hD
  exact W.vret hx hb hr (fun t ht hW => ⟨⟨(), rfl, trivial, by rw [ht]; exact hP, va_K.moved hW.alike hK, hD⟩, hS.F ht⟩) hS.2.2 d_Mkr_goToSecond_33
set_option maxHeartbeats 4000000 in
set_option maxRecDepth 100000 in
theorem c_Mkr_makeBits (l : Launch) (dC : Nat → ClassId) (dI : Nat → Nat → Nat) (cI cZ : ClassId) (a_mkr a_bits a_nbits a_sig a_stm a_chk a_net a_sums a_given a_gfirst a_cond a_insec a_kind a_width a_rword a_sop a_sa a_sb a_sc : Nat) (tt sz : Nat) (n : Nat) (Wd : Nat → Nat) (Bt : Nat → Nat) (S : Nat) (b_n : n ≤ 14) (b_Wd : ∀ j, Wd j < 9) (b_Bt : ∀ j, Bt j < 2786) (hS14 : S < 14) : Met l y_Mkr_makeBits w_Mkr_makeBits ({ frames := 1, cells := 0, slots := 0, locals := 21 }) (va_Pc [.ref a_mkr, .int (nI S)] (PW (dC, dI) classes [(cI, .int), (cZ, .boolean)] tt [(a_mkr, .inr (4, [.ref a_bits, .ref a_nbits, .ref a_sig, .ref a_stm, .ref a_chk, .ref a_net, .ref a_sums, .ref a_given, .ref a_gfirst, .ref a_cond, .ref a_insec])), (a_sig, .inr (1, [.ref a_kind, .ref a_width, .ref a_rword, .ref a_sop, .ref a_sa, .ref a_sb, .ref a_sc, .int (nI n)])), (a_width, .inl (cI, 14, .inl (nF Wd))), (a_bits, .inl (cI, 112, .inl (nF Bt)))] sz)) (va_Qv (fun (u : Unit) => True) (AT (dC, dI) classes [(cI, .int), (cZ, .boolean)] (va_A [(a_mkr, .inr (4, [.ref a_bits, .ref a_nbits, .ref a_sig, .ref a_stm, .ref a_chk, .ref a_net, .ref a_sums, .ref a_given, .ref a_gfirst, .ref a_cond, .ref a_insec])), (a_sig, .inr (1, [.ref a_kind, .ref a_width, .ref a_rword, .ref a_sop, .ref a_sa, .ref a_sb, .ref a_sc, .int (nI n)])), (a_width, .inl (cI, 14, .inl (nF Wd))), (a_bits, .inl (cI, 112, .inl (nF Bt)))] sz) (fun (u : Unit) => [(a_mkr, .inr (4, [.ref a_bits, .ref a_nbits, .ref a_sig, .ref a_stm, .ref a_chk, .ref a_net, .ref a_sums, .ref a_given, .ref a_gfirst, .ref a_cond, .ref a_insec])), (a_sig, .inr (1, [.ref a_kind, .ref a_width, .ref a_rword, .ref a_sop, .ref a_sa, .ref a_sb, .ref a_sc, .int (nI n)])), (a_width, .inl (cI, 14, .inl (nF Wd))), (a_bits, .inl (cI, 112, .inl (nF (mBt Bt S (Wd S)))))])) (va_A [(a_mkr, .inr (4, [.ref a_bits, .ref a_nbits, .ref a_sig, .ref a_stm, .ref a_chk, .ref a_net, .ref a_sums, .ref a_given, .ref a_gfirst, .ref a_cond, .ref a_insec])), (a_sig, .inr (1, [.ref a_kind, .ref a_width, .ref a_rword, .ref a_sop, .ref a_sa, .ref a_sb, .ref a_sc, .int (nI n)])), (a_width, .inl (cI, 14, .inl (nF Wd))), (a_bits, .inl (cI, 112, .inl (nF Bt)))] sz)) 0 0 (va_A [(a_mkr, .inr (4, [.ref a_bits, .ref a_nbits, .ref a_sig, .ref a_stm, .ref a_chk, .ref a_net, .ref a_sums, .ref a_given, .ref a_gfirst, .ref a_cond, .ref a_insec])), (a_sig, .inr (1, [.ref a_kind, .ref a_width, .ref a_rword, .ref a_sop, .ref a_sa, .ref a_sb, .ref a_sc, .int (nI n)])), (a_width, .inl (cI, 14, .inl (nF Wd))), (a_bits, .inl (cI, 112, .inl (nF Bt)))] sz) := by
  refine Met.ofW (cc := b_Mkr_makeBits) (maxL := 3) (ret := none) (by decide) rfl ?_
  intro p e s m args below meth c s₁ B hml hv
  obtain ⟨rfl, hsz, hP, hK, hD0, hE⟩ := hv
  have hx := B.exec
  have hb := B.bytes
  have hr := B.returns
  have hts := atoms_spec (ws := w_Mkr_makeBits) B.pre
  have hown : s.vm.findClass R_Mkr = some m.cls := findClass_of_methodNamed B.named
  have hlocks := B.notSynchronized
  subst hsz
  have hD := hD0.self (sz := s.heap.size)
  generalize hAe : va_A [(a_mkr, .inr (4, [.ref a_bits, .ref a_nbits, .ref a_sig, .ref a_stm, .ref a_chk, .ref a_net, .ref a_sums, .ref a_given, .ref a_gfirst, .ref a_cond, .ref a_insec])), (a_sig, .inr (1, [.ref a_kind, .ref a_width, .ref a_rword, .ref a_sop, .ref a_sa, .ref a_sb, .ref a_sc, .int (nI n)])), (a_width, .inl (cI, 14, .inl (nF Wd))), (a_bits, .inl (cI, 112, .inl (nF Bt)))] s.heap.size = A at hD hE ⊢
  have hA : ∀ q : Nat, s.heap.size ≤ q → A q := fun q h => by rw [← hAe]; exact Or.inr h
  have hS : va_S A s.heap s.heap [] := va_S.rf
  have hP : va_P (dC, dI) classes [(a_mkr, .inr (4, [.ref a_bits, .ref a_nbits, .ref a_sig, .ref a_stm, .ref a_chk, .ref a_net, .ref a_sums, .ref a_given, .ref a_gfirst, .ref a_cond, .ref a_insec])), (a_sig, .inr (1, [.ref a_kind, .ref a_width, .ref a_rword, .ref a_sop, .ref a_sa, .ref a_sb, .ref a_sc, .int (nI n)])), (a_width, .inl (cI, 14, .inl (nF Wd))), (a_bits, .inl (cI, 112, .inl (nF Bt)))] s.heap := hP
  have hl := lv_entry ([.ref a_mkr, .int (nI S)]) (n := 3) (Nat.le_of_ble_eq_true rfl)
  rw [lg_entry_eq]
  generalize (lg_sl ([.ref a_mkr, .int (nI S)]) ++ List.replicate (3 - (lg_sl ([.ref a_mkr, .int (nI S)])).length) Slot.unset).toArray = ls at hl ⊢
  have hl : lv_has ls 3 [(0, .ref a_mkr), (1, .int (nI S))] := hl
  refine lv_iconst (v := nI 0) hx hb d_Mkr_makeBits_0 rfl ?_
  refine lv_istore_n (lv' := [(2, .int (nI 0)), (0, .ref a_mkr), (1, .int (nI S))]) hx hb d_Mkr_makeBits_1 rfl hl (by decide) rfl (fun ls hl => ?_)
  have hW9 := b_Wd S
  have hI_1 : (∀ j, Bt j < 2786) ∧ (Bt = mBt Bt S 0) ∧ (0 ≤ Wd S) := ⟨b_Bt, (mBt_0 Bt S), (by omega)⟩
  refine k_loop (σ := Nat × (Nat → Nat)) (D := (dC, dI)) (cl := classes) (A := A) (H0 := s.heap) (fun x => [(a_mkr, .inr (4, [.ref a_bits, .ref a_nbits, .ref a_sig, .ref a_stm, .ref a_chk, .ref a_net, .ref a_sums, .ref a_given, .ref a_gfirst, .ref a_cond, .ref a_insec])), (a_sig, .inr (1, [.ref a_kind, .ref a_width, .ref a_rword, .ref a_sop, .ref a_sa, .ref a_sb, .ref a_sc, .int (nI n)])), (a_width, .inl (cI, 14, .inl (nF Wd))), (a_bits, .inl (cI, 112, .inl (nF x.2)))]) (fun x => [(2, .int (nI x.1)), (0, .ref a_mkr), (1, .int (nI S))]) (fun x => (∀ j, x.2 j < 2786) ∧ (x.2 = mBt Bt S x.1) ∧ (x.1 ≤ Wd S)) (fun x => Wd S - x.1) ?_ (0, Bt) hI_1 hP hD hS (lv_sub hl [0, 1, 2] rfl)
  rintro ⟨b, B1⟩ hI ih_2 H locs ls hP hD hS hl
  obtain ⟨b_B1, hB, hb8⟩ : (∀ j, B1 j < 2786) ∧ (B1 = mBt Bt S b) ∧ (b ≤ Wd S) := hI
  have hP : va_P (dC, dI) classes [(a_mkr, .inr (4, [.ref a_bits, .ref a_nbits, .ref a_sig, .ref a_stm, .ref a_chk, .ref a_net, .ref a_sums, .ref a_given, .ref a_gfirst, .ref a_cond, .ref a_insec])), (a_sig, .inr (1, [.ref a_kind, .ref a_width, .ref a_rword, .ref a_sop, .ref a_sa, .ref a_sb, .ref a_sc, .int (nI n)])), (a_width, .inl (cI, 14, .inl (nF Wd))), (a_bits, .inl (cI, 112, .inl (nF B1)))] H := hP
  have hD : va_D A [(a_mkr, .inr (4, [.ref a_bits, .ref a_nbits, .ref a_sig, .ref a_stm, .ref a_chk, .ref a_net, .ref a_sums, .ref a_given, .ref a_gfirst, .ref a_cond, .ref a_insec])), (a_sig, .inr (1, [.ref a_kind, .ref a_width, .ref a_rword, .ref a_sop, .ref a_sa, .ref a_sb, .ref a_sc, .int (nI n)])), (a_width, .inl (cI, 14, .inl (nF Wd))), (a_bits, .inl (cI, 112, .inl (nF B1)))] := hD
  have hl : lv_has ls 3 [(2, .int (nI b)), (0, .ref a_mkr), (1, .int (nI S))] := hl
  refine lv_iload_n hx hb d_Mkr_makeBits_2 rfl (lv_at hl 0 rfl) ?_
  refine lv_aload_n hx hb d_Mkr_makeBits_3 rfl (lv_at hl 1 rfl) ?_
  refine va_get (D := (dC, dI)) (ci := 4) (v := .ref a_sig) (C := R_Mkr) (T := F_Mkr) (N := 11) hx hb hts (wi i_Mkr) hown hK hP 0 rfl rfl 2 (by decide) (hts _ (mt 210 rfl rfl)) (fun _ h9 => h9) rfl d_Mkr_makeBits_4 ?_
  refine va_get (D := (dC, dI)) (ci := 1) (v := .ref a_width) (C := R_Sig) (T := F_Sig) (N := 8) hx hb hts (wi i_Sig) hown hK hP 1 rfl rfl 1 (by decide) (hts _ (mt 70 rfl rfl)) (fun _ h9 => h9) rfl d_Mkr_makeBits_7 ?_
  refine lv_iload_n hx hb d_Mkr_makeBits_10 rfl (lv_at hl 2 rfl) ?_
  refine k_ild hx hb hK hP 2 0 rfl rfl (by omega) (by decide) d_Mkr_makeBits_11 ?_
  have hb_3 := b_Wd S
  refine lv_icmp_ge (tgt := 37) hx hb d_Mkr_makeBits_12 (by decide) (fun c12 => ?_) (fun c12 => ?_)
  · skip
    have c12 : (Wd S) ≤ b := (nI_leI (by omega) (by omega)).mp c12
    subst hB
    obtain rfl : Wd S = b := by omega
    exact W.vret hx hb hr (fun t ht hW => ⟨⟨(), rfl, trivial, by rw [ht]; exact hP, va_K.moved hW.alike hK, hD⟩, hS.F ht⟩) hS.2.2 d_Mkr_makeBits_37
  · skip
    have c12 : ¬ ((Wd S) ≤ b) := fun h => c12 ((nI_leI (by omega) (by omega)).mpr h)
    refine lv_aload_n hx hb d_Mkr_makeBits_15 rfl (lv_at hl 1 rfl) ?_
    refine va_get (D := (dC, dI)) (ci := 4) (v := .ref a_bits) (C := R_Mkr) (T := F_Mkr) (N := 11) hx hb hts (wi i_Mkr) hown hK hP 0 rfl rfl 0 (by decide) (hts _ (mt 206 rfl rfl)) (fun _ h9 => h9) rfl d_Mkr_makeBits_16 ?_
    refine lv_iload_n hx hb d_Mkr_makeBits_19 rfl (lv_at hl 2 rfl) ?_
    refine lv_bipush (v := nI 8) hx hb d_Mkr_makeBits_20 rfl ?_
    refine lv_imul hx hb d_Mkr_makeBits_22 ?_
    refine k_top (pk_mul _ _) ?_
    refine lv_iload_n hx hb d_Mkr_makeBits_23 rfl (lv_at hl 0 rfl) ?_
    refine lv_iadd hx hb d_Mkr_makeBits_24 ?_
    refine k_top (nI_add _ _) ?_
    refine lv_iload_n hx hb d_Mkr_makeBits_25 rfl (lv_at hl 2 rfl) ?_
    refine lv_iload_n hx hb d_Mkr_makeBits_26 rfl (lv_at hl 0 rfl) ?_
    refine k_i (wr := [(a_mkr, .inr (4, [.ref a_bits, .ref a_nbits, .ref a_sig, .ref a_stm, .ref a_chk, .ref a_net, .ref a_sums, .ref a_given, .ref a_gfirst, .ref a_cond, .ref a_insec])), (a_sig, .inr (1, [.ref a_kind, .ref a_width, .ref a_rword, .ref a_sop, .ref a_sa, .ref a_sb, .ref a_sc, .int (nI n)])), (a_width, .inl (cI, 14, .inl (nF Wd))), (a_bits, .inl (cI, 112, .inl (nF B1)))]) (w2 := fun (u : Unit) => [(a_mkr, .inr (4, [.ref a_bits, .ref a_nbits, .ref a_sig, .ref a_stm, .ref a_chk, .ref a_net, .ref a_sums, .ref a_given, .ref a_gfirst, .ref a_cond, .ref a_insec])), (a_sig, .inr (1, [.ref a_kind, .ref a_width, .ref a_rword, .ref a_sop, .ref a_sa, .ref a_sb, .ref a_sc, .int (nI n)])), (a_width, .inl (cI, 14, .inl (nF Wd))), (a_bits, .inl (cI, 112, .inl (nF B1)))]) (va_runS (As := [.int (nI S), .int (nI b)]) (rest := [.int (nI ((S * 8) + b)), .ref a_bits]) ⟨hx, hb, hml, hown, hts⟩ (c_Net_bitOf l dC dI cI cZ  tt H.size  S b ) (va_cwS 2 hts (gd_S in_tl (mw 462 rfl rfl) (mw 463 rfl rfl) (mw 45 rfl rfl) (mw 464 rfl rfl)) rfl rfl rfl (by decide +kernel) ⟨Nat.le_of_ble_eq_true rfl, Nat.le_of_ble_eq_true rfl⟩) (k_preS hK hP hD hS hA hE [] (by decide) rfl) rfl rfl hl.1 rfl (lv_room (Nat.le_of_ble_eq_true rfl)) d_Mkr_makeBits_27 ⟨Nat.zero_le _, Nat.zero_le _⟩) hP hD hS hA [] [0, 1, 2, 3] [0, 1, 2, 3] rfl rfl (by decide) (by decide) (by decide) (fun _ => rfl) (fun r_4 u H locs hw hP hD hS => ?_)
    obtain rfl : (r_4 = nI (2 * (1 + S * 8 + b))) := hw
    have hP : va_P (dC, dI) classes [(a_mkr, .inr (4, [.ref a_bits, .ref a_nbits, .ref a_sig, .ref a_stm, .ref a_chk, .ref a_net, .ref a_sums, .ref a_given, .ref a_gfirst, .ref a_cond, .ref a_insec])), (a_sig, .inr (1, [.ref a_kind, .ref a_width, .ref a_rword, .ref a_sop, .ref a_sa, .ref a_sb, .ref a_sc, .int (nI n)])), (a_width, .inl (cI, 14, .inl (nF Wd))), (a_bits, .inl (cI, 112, .inl (nF B1)))] H := hP
    have hD : va_D A [(a_mkr, .inr (4, [.ref a_bits, .ref a_nbits, .ref a_sig, .ref a_stm, .ref a_chk, .ref a_net, .ref a_sums, .ref a_given, .ref a_gfirst, .ref a_cond, .ref a_insec])), (a_sig, .inr (1, [.ref a_kind, .ref a_width, .ref a_rword, .ref a_sop, .ref a_sa, .ref a_sb, .ref a_sc, .int (nI n)])), (a_width, .inl (cI, 14, .inl (nF Wd))), (a_bits, .inl (cI, 112, .inl (nF B1)))] := hD
    refine k_ist hx hb hK hP hD hS 3 0 rfl rfl (by omega) (by decide) d_Mkr_makeBits_30 (fun H locs hP hD hS => ?_)
    have bb_5 : ∀ j, upN B1 ((S * 8) + b) (2 * (1 + S * 8 + b)) j < 2786 := upN_lt b_B1 (by omega)
    have hP : va_P (dC, dI) classes [(a_mkr, .inr (4, [.ref a_bits, .ref a_nbits, .ref a_sig, .ref a_stm, .ref a_chk, .ref a_net, .ref a_sums, .ref a_given, .ref a_gfirst, .ref a_cond, .ref a_insec])), (a_sig, .inr (1, [.ref a_kind, .ref a_width, .ref a_rword, .ref a_sop, .ref a_sa, .ref a_sb, .ref a_sc, .int (nI n)])), (a_width, .inl (cI, 14, .inl (nF Wd))), (a_bits, .inl (cI, 112, .inl (nF (upN B1 ((S * 8) + b) (2 * (1 + S * 8 + b))))))] H := hP
    have hD : va_D A [(a_mkr, .inr (4, [.ref a_bits, .ref a_nbits, .ref a_sig, .ref a_stm, .ref a_chk, .ref a_net, .ref a_sums, .ref a_given, .ref a_gfirst, .ref a_cond, .ref a_insec])), (a_sig, .inr (1, [.ref a_kind, .ref a_width, .ref a_rword, .ref a_sop, .ref a_sa, .ref a_sb, .ref a_sc, .int (nI n)])), (a_width, .inl (cI, 14, .inl (nF Wd))), (a_bits, .inl (cI, 112, .inl (nF (upN B1 ((S * 8) + b) (2 * (1 + S * 8 + b))))))] := hD
    refine lv_iinc (v := nI (b + 1)) (lv' := [(2, .int (nI (b + 1))), (0, .ref a_mkr), (1, .int (nI S))]) hx hb d_Mkr_makeBits_31 hl (k := 0) rfl (k_inc _ 1) (by decide) rfl (fun ls hl => ?_)
    refine lv_goto (tgt := 2) hx hb d_Mkr_makeBits_34 (by decide) ?_
    have hI_6 : (∀ j, (upN B1 ((S * 8) + b) (2 * (1 + S * 8 + b))) j < 2786) ∧ ((upN B1 ((S * 8) + b) (2 * (1 + S * 8 + b))) = mBt Bt S (b + 1)) ∧ ((b + 1) ≤ Wd S) := ⟨bb_5, (by rw [hB]; exact mBt_s Bt S b), (by omega)⟩
    exact ih_2 (b + 1, upN B1 ((S * 8) + b) (2 * (1 + S * 8 + b))) hI_6 (show Wd S - (b + 1) < Wd S - b from by omega) _ _ _ hP hD hS (lv_sub hl [0, 1, 2] rfl)
set_option maxHeartbeats 4000000 in
set_option maxRecDepth 100000 in
theorem c_Mkr_fixedBitsOf (l : Launch) (dC : Nat → ClassId) (dI : Nat → Nat → Nat) (cI cZ : ClassId) (a_mkr a_bits a_nbits a_sig a_stm a_chk a_net a_sums a_given a_gfirst a_cond a_insec a_kind a_width a_rword a_sop a_sa a_sb a_sc : Nat) (tt sz : Nat) (n : Nat) (Wd : Nat → Nat) (Bt : Nat → Nat) (S : Nat) (b_n : n ≤ 14) (b_Wd : ∀ j, Wd j < 9) (b_Bt : ∀ j, Bt j < 2786) (hS14 : S < 14) : Met l y_Mkr_fixedBitsOf w_Mkr_fixedBitsOf ({ frames := 1, cells := 0, slots := 0, locals := 22 }) (va_Pc [.ref a_mkr, .int (nI S)] (PW (dC, dI) classes [(cI, .int), (cZ, .boolean)] tt [(a_mkr, .inr (4, [.ref a_bits, .ref a_nbits, .ref a_sig, .ref a_stm, .ref a_chk, .ref a_net, .ref a_sums, .ref a_given, .ref a_gfirst, .ref a_cond, .ref a_insec])), (a_sig, .inr (1, [.ref a_kind, .ref a_width, .ref a_rword, .ref a_sop, .ref a_sa, .ref a_sb, .ref a_sc, .int (nI n)])), (a_width, .inl (cI, 14, .inl (nF Wd))), (a_bits, .inl (cI, 112, .inl (nF Bt)))] sz)) (va_Qi (fun (r : Int32) (u : Unit) => ∃ rv : Nat, r = nI rv ∧ (rv = cnt (fun z => if lit Bt Wd S z = 0 ∨ lit Bt Wd S z = 1 then 1 else 0) (Wd S)) ∧ (rv ≤ 8)) (AT (dC, dI) classes [(cI, .int), (cZ, .boolean)] (va_A [(a_mkr, .inr (4, [.ref a_bits, .ref a_nbits, .ref a_sig, .ref a_stm, .ref a_chk, .ref a_net, .ref a_sums, .ref a_given, .ref a_gfirst, .ref a_cond, .ref a_insec])), (a_sig, .inr (1, [.ref a_kind, .ref a_width, .ref a_rword, .ref a_sop, .ref a_sa, .ref a_sb, .ref a_sc, .int (nI n)])), (a_width, .inl (cI, 14, .inl (nF Wd))), (a_bits, .inl (cI, 112, .inl (nF Bt)))] sz) (fun (u : Unit) => [(a_mkr, .inr (4, [.ref a_bits, .ref a_nbits, .ref a_sig, .ref a_stm, .ref a_chk, .ref a_net, .ref a_sums, .ref a_given, .ref a_gfirst, .ref a_cond, .ref a_insec])), (a_sig, .inr (1, [.ref a_kind, .ref a_width, .ref a_rword, .ref a_sop, .ref a_sa, .ref a_sb, .ref a_sc, .int (nI n)])), (a_width, .inl (cI, 14, .inl (nF Wd))), (a_bits, .inl (cI, 112, .inl (nF Bt)))])) (va_A [(a_mkr, .inr (4, [.ref a_bits, .ref a_nbits, .ref a_sig, .ref a_stm, .ref a_chk, .ref a_net, .ref a_sums, .ref a_given, .ref a_gfirst, .ref a_cond, .ref a_insec])), (a_sig, .inr (1, [.ref a_kind, .ref a_width, .ref a_rword, .ref a_sop, .ref a_sa, .ref a_sb, .ref a_sc, .int (nI n)])), (a_width, .inl (cI, 14, .inl (nF Wd))), (a_bits, .inl (cI, 112, .inl (nF Bt)))] sz)) 0 0 (va_A [(a_mkr, .inr (4, [.ref a_bits, .ref a_nbits, .ref a_sig, .ref a_stm, .ref a_chk, .ref a_net, .ref a_sums, .ref a_given, .ref a_gfirst, .ref a_cond, .ref a_insec])), (a_sig, .inr (1, [.ref a_kind, .ref a_width, .ref a_rword, .ref a_sop, .ref a_sa, .ref a_sb, .ref a_sc, .int (nI n)])), (a_width, .inl (cI, 14, .inl (nF Wd))), (a_bits, .inl (cI, 112, .inl (nF Bt)))] sz) := by
  refine Met.ofW (cc := b_Mkr_fixedBitsOf) (maxL := 5) (ret := (some .int)) (by decide) rfl ?_
  intro p e s m args below meth c s₁ B hml hv
  obtain ⟨rfl, hsz, hP, hK, hD0, hE⟩ := hv
  have hx := B.exec
  have hb := B.bytes
  have hr := B.returns
  have hts := atoms_spec (ws := w_Mkr_fixedBitsOf) B.pre
  have hown : s.vm.findClass R_Mkr = some m.cls := findClass_of_methodNamed B.named
  have hlocks := B.notSynchronized
  subst hsz
  have hD := hD0.self (sz := s.heap.size)
  generalize hAe : va_A [(a_mkr, .inr (4, [.ref a_bits, .ref a_nbits, .ref a_sig, .ref a_stm, .ref a_chk, .ref a_net, .ref a_sums, .ref a_given, .ref a_gfirst, .ref a_cond, .ref a_insec])), (a_sig, .inr (1, [.ref a_kind, .ref a_width, .ref a_rword, .ref a_sop, .ref a_sa, .ref a_sb, .ref a_sc, .int (nI n)])), (a_width, .inl (cI, 14, .inl (nF Wd))), (a_bits, .inl (cI, 112, .inl (nF Bt)))] s.heap.size = A at hD hE ⊢
  have hA : ∀ q : Nat, s.heap.size ≤ q → A q := fun q h => by rw [← hAe]; exact Or.inr h
  have hS : va_S A s.heap s.heap [] := va_S.rf
  have hP : va_P (dC, dI) classes [(a_mkr, .inr (4, [.ref a_bits, .ref a_nbits, .ref a_sig, .ref a_stm, .ref a_chk, .ref a_net, .ref a_sums, .ref a_given, .ref a_gfirst, .ref a_cond, .ref a_insec])), (a_sig, .inr (1, [.ref a_kind, .ref a_width, .ref a_rword, .ref a_sop, .ref a_sa, .ref a_sb, .ref a_sc, .int (nI n)])), (a_width, .inl (cI, 14, .inl (nF Wd))), (a_bits, .inl (cI, 112, .inl (nF Bt)))] s.heap := hP
  have hl := lv_entry ([.ref a_mkr, .int (nI S)]) (n := 5) (Nat.le_of_ble_eq_true rfl)
  rw [lg_entry_eq]
  generalize (lg_sl ([.ref a_mkr, .int (nI S)]) ++ List.replicate (5 - (lg_sl ([.ref a_mkr, .int (nI S)])).length) Slot.unset).toArray = ls at hl ⊢
  have hl : lv_has ls 5 [(0, .ref a_mkr), (1, .int (nI S))] := hl
  refine lv_iconst (v := nI 0) hx hb d_Mkr_fixedBitsOf_0 rfl ?_
  refine lv_istore_n (lv' := [(2, .int (nI 0)), (0, .ref a_mkr), (1, .int (nI S))]) hx hb d_Mkr_fixedBitsOf_1 rfl hl (by decide) rfl (fun ls hl => ?_)
  refine lv_iconst (v := nI 0) hx hb d_Mkr_fixedBitsOf_2 rfl ?_
  refine lv_istore_n (lv' := [(3, .int (nI 0)), (2, .int (nI 0)), (0, .ref a_mkr), (1, .int (nI S))]) hx hb d_Mkr_fixedBitsOf_3 rfl hl (by decide) rfl (fun ls hl => ?_)
  have hW9 := b_Wd S
  have hI_1 : (0 = cnt (fun z => if lit Bt Wd S z = 0 ∨ lit Bt Wd S z = 1 then 1 else 0) 0) ∧ (0 ≤ Wd S) ∧ (0 ≤ 0) := ⟨rfl, (by omega), (by omega)⟩
  refine k_loop (σ := Nat × Nat) (D := (dC, dI)) (cl := classes) (A := A) (H0 := s.heap) (fun x => [(a_mkr, .inr (4, [.ref a_bits, .ref a_nbits, .ref a_sig, .ref a_stm, .ref a_chk, .ref a_net, .ref a_sums, .ref a_given, .ref a_gfirst, .ref a_cond, .ref a_insec])), (a_sig, .inr (1, [.ref a_kind, .ref a_width, .ref a_rword, .ref a_sop, .ref a_sa, .ref a_sb, .ref a_sc, .int (nI n)])), (a_width, .inl (cI, 14, .inl (nF Wd))), (a_bits, .inl (cI, 112, .inl (nF Bt)))]) (fun x => [(3, .int (nI x.2)), (2, .int (nI x.1)), (0, .ref a_mkr), (1, .int (nI S))]) (fun x => (x.1 = cnt (fun z => if lit Bt Wd S z = 0 ∨ lit Bt Wd S z = 1 then 1 else 0) x.2) ∧ (x.2 ≤ Wd S) ∧ (x.1 ≤ x.2)) (fun x => Wd S - x.2) ?_ (0, 0) hI_1 hP hD hS (lv_sub hl [0, 1, 2, 3] rfl)
  rintro ⟨x, b⟩ hI ih_2 H locs ls hP hD hS hl
  obtain ⟨hx2, hb8, hxb⟩ : (x = cnt (fun z => if lit Bt Wd S z = 0 ∨ lit Bt Wd S z = 1 then 1 else 0) b) ∧ (b ≤ Wd S) ∧ (x ≤ b) := hI
  have hP : va_P (dC, dI) classes [(a_mkr, .inr (4, [.ref a_bits, .ref a_nbits, .ref a_sig, .ref a_stm, .ref a_chk, .ref a_net, .ref a_sums, .ref a_given, .ref a_gfirst, .ref a_cond, .ref a_insec])), (a_sig, .inr (1, [.ref a_kind, .ref a_width, .ref a_rword, .ref a_sop, .ref a_sa, .ref a_sb, .ref a_sc, .int (nI n)])), (a_width, .inl (cI, 14, .inl (nF Wd))), (a_bits, .inl (cI, 112, .inl (nF Bt)))] H := hP
  have hD : va_D A [(a_mkr, .inr (4, [.ref a_bits, .ref a_nbits, .ref a_sig, .ref a_stm, .ref a_chk, .ref a_net, .ref a_sums, .ref a_given, .ref a_gfirst, .ref a_cond, .ref a_insec])), (a_sig, .inr (1, [.ref a_kind, .ref a_width, .ref a_rword, .ref a_sop, .ref a_sa, .ref a_sb, .ref a_sc, .int (nI n)])), (a_width, .inl (cI, 14, .inl (nF Wd))), (a_bits, .inl (cI, 112, .inl (nF Bt)))] := hD
  have hl : lv_has ls 5 [(3, .int (nI b)), (2, .int (nI x)), (0, .ref a_mkr), (1, .int (nI S))] := hl
  refine lv_iload_n hx hb d_Mkr_fixedBitsOf_4 rfl (lv_at hl 0 rfl) ?_
  refine lv_aload_n hx hb d_Mkr_fixedBitsOf_5 rfl (lv_at hl 2 rfl) ?_
  refine va_get (D := (dC, dI)) (ci := 4) (v := .ref a_sig) (C := R_Mkr) (T := F_Mkr) (N := 11) hx hb hts (wi i_Mkr) hown hK hP 0 rfl rfl 2 (by decide) (hts _ (mt 210 rfl rfl)) (fun _ h9 => h9) rfl d_Mkr_fixedBitsOf_6 ?_
  refine va_get (D := (dC, dI)) (ci := 1) (v := .ref a_width) (C := R_Sig) (T := F_Sig) (N := 8) hx hb hts (wi i_Sig) hown hK hP 1 rfl rfl 1 (by decide) (hts _ (mt 70 rfl rfl)) (fun _ h9 => h9) rfl d_Mkr_fixedBitsOf_9 ?_
  refine lv_iload_n hx hb d_Mkr_fixedBitsOf_12 rfl (lv_at hl 3 rfl) ?_
  refine k_ild hx hb hK hP 2 0 rfl rfl (by omega) (by decide) d_Mkr_fixedBitsOf_13 ?_
  have hb_3 := b_Wd S
  refine lv_icmp_ge (tgt := 45) hx hb d_Mkr_fixedBitsOf_14 (by decide) (fun c14 => ?_) (fun c14 => ?_)
  · skip
    have c14 : (Wd S) ≤ b := (nI_leI (by omega) (by omega)).mp c14
    refine lv_iload_n hx hb d_Mkr_fixedBitsOf_45 rfl (lv_at hl 1 rfl) ?_
    exact W.iret (v := nI x) hx hb hr (fun t ht hW => ⟨⟨nI x, (), rfl, ⟨x, rfl, (show x = cnt (fun z => if lit Bt Wd S z = 0 ∨ lit Bt Wd S z = 1 then 1 else 0) (Wd S) from (by rw [hx2, show Wd S = b by omega])), (show x ≤ 8 from by omega)⟩, by rw [ht]; exact hP, va_K.moved hW.alike hK, hD⟩, hS.F ht⟩) hS.2.2 d_Mkr_fixedBitsOf_46
  · skip
    have c14 : ¬ ((Wd S) ≤ b) := fun h => c14 ((nI_leI (by omega) (by omega)).mpr h)
    refine lv_aload_n hx hb d_Mkr_fixedBitsOf_17 rfl (lv_at hl 2 rfl) ?_
    refine lv_iload_n hx hb d_Mkr_fixedBitsOf_18 rfl (lv_at hl 3 rfl) ?_
    refine lv_iload_n hx hb d_Mkr_fixedBitsOf_19 rfl (lv_at hl 0 rfl) ?_
    refine k_i (wr := []) (w2 := fun (u : Unit) => [(a_mkr, .inr (4, [.ref a_bits, .ref a_nbits, .ref a_sig, .ref a_stm, .ref a_chk, .ref a_net, .ref a_sums, .ref a_given, .ref a_gfirst, .ref a_cond, .ref a_insec])), (a_sig, .inr (1, [.ref a_kind, .ref a_width, .ref a_rword, .ref a_sop, .ref a_sa, .ref a_sb, .ref a_sc, .int (nI n)])), (a_width, .inl (cI, 14, .inl (nF Wd))), (a_bits, .inl (cI, 112, .inl (nF Bt)))]) (va_runV (As := [.int (nI S), .int (nI b)]) (rest := []) ⟨hx, hb, hml, hown, hts⟩ (c_Mkr_literalOf l dC dI cI cZ a_mkr a_bits a_nbits a_sig a_stm a_chk a_net a_sums a_given a_gfirst a_cond a_insec a_kind a_width a_rword a_sop a_sa a_sb a_sc tt H.size n Wd Bt S b (by omega) b_Wd b_Bt (by omega) (by omega)) (cwV 2 hts (gd_V in_tl (mw 402 rfl rfl) (mw 404 rfl rfl) (mw 7 rfl rfl) (mw 46 rfl rfl) (mw 405 rfl rfl)) rfl rfl rfl (by decide +kernel) ⟨Nat.le_of_ble_eq_true rfl, Nat.le_of_ble_eq_true rfl⟩) (k_preV hK hP hD hS hA hE [0, 1, 2, 3] (by decide) rfl 4 0 rfl rfl) rfl rfl hl.1 rfl (lv_room (Nat.le_of_ble_eq_true rfl)) d_Mkr_fixedBitsOf_20 ⟨Nat.zero_le _, Nat.zero_le _⟩) hP hD hS hA [0, 1, 2, 3] [] [0, 1, 2, 3] rfl rfl (by decide) (by decide) (by decide) (fun _ => rfl) (fun r_4 u H locs hw hP hD hS => ?_)
    obtain rfl : (r_4 = nI (lit Bt Wd S b)) := hw
    have hP : va_P (dC, dI) classes [(a_mkr, .inr (4, [.ref a_bits, .ref a_nbits, .ref a_sig, .ref a_stm, .ref a_chk, .ref a_net, .ref a_sums, .ref a_given, .ref a_gfirst, .ref a_cond, .ref a_insec])), (a_sig, .inr (1, [.ref a_kind, .ref a_width, .ref a_rword, .ref a_sop, .ref a_sa, .ref a_sb, .ref a_sc, .int (nI n)])), (a_width, .inl (cI, 14, .inl (nF Wd))), (a_bits, .inl (cI, 112, .inl (nF Bt)))] H := hP
    have hD : va_D A [(a_mkr, .inr (4, [.ref a_bits, .ref a_nbits, .ref a_sig, .ref a_stm, .ref a_chk, .ref a_net, .ref a_sums, .ref a_given, .ref a_gfirst, .ref a_cond, .ref a_insec])), (a_sig, .inr (1, [.ref a_kind, .ref a_width, .ref a_rword, .ref a_sop, .ref a_sa, .ref a_sb, .ref a_sc, .int (nI n)])), (a_width, .inl (cI, 14, .inl (nF Wd))), (a_bits, .inl (cI, 112, .inl (nF Bt)))] := hD
    have hll := lit_lt (Wd := Wd) b_Bt S b
    refine lv_istore (lv' := [(4, .int (nI (lit Bt Wd S b))), (3, .int (nI b)), (2, .int (nI x)), (0, .ref a_mkr), (1, .int (nI S))]) hx hb d_Mkr_fixedBitsOf_23 hl (by decide) rfl (fun ls hl => ?_)
    refine lv_iload hx hb d_Mkr_fixedBitsOf_25 (lv_at hl 0 rfl) ?_
    refine lv_if_eq (tgt := 36) hx hb d_Mkr_fixedBitsOf_27 (by decide) (fun c27 => ?_) (fun c27 => ?_)
    · skip
      have c27 : (lit Bt Wd S b) = 0 := (nI_eq0 (by omega)).mp c27
      refine lv_iinc (v := nI (x + 1)) (lv' := [(2, .int (nI (x + 1))), (4, .int (nI (lit Bt Wd S b))), (3, .int (nI b)), (0, .ref a_mkr), (1, .int (nI S))]) hx hb d_Mkr_fixedBitsOf_36 hl (k := 2) rfl (k_inc _ 1) (by decide) rfl (fun ls hl => ?_)
      refine lv_iinc (v := nI (b + 1)) (lv' := [(3, .int (nI (b + 1))), (2, .int (nI (x + 1))), (4, .int (nI (lit Bt Wd S b))), (0, .ref a_mkr), (1, .int (nI S))]) hx hb d_Mkr_fixedBitsOf_39 hl (k := 2) rfl (k_inc _ 1) (by decide) rfl (fun ls hl => ?_)
      refine lv_goto (tgt := 4) hx hb d_Mkr_fixedBitsOf_42 (by decide) ?_
      have hI_5 : ((x + 1) = cnt (fun z => if lit Bt Wd S z = 0 ∨ lit Bt Wd S z = 1 then 1 else 0) (b + 1)) ∧ ((b + 1) ≤ Wd S) ∧ ((x + 1) ≤ (b + 1)) := ⟨(by rw [hx2]; show _ = cnt _ b + (if lit Bt Wd S b = 0 ∨ lit Bt Wd S b = 1 then 1 else 0); rw [if_pos (by omega)]), (by omega), (by omega)⟩
      exact ih_2 (x + 1, b + 1) hI_5 (show Wd S - (b + 1) < Wd S - b from by omega) _ _ _ hP hD hS (lv_sub hl [0, 1, 3, 4] rfl)
    · skip
      have c27 : ¬ ((lit Bt Wd S b) = 0) := fun h => c27 ((nI_eq0 (by omega)).mpr h)
      refine lv_iload hx hb d_Mkr_fixedBitsOf_30 (lv_at hl 0 rfl) ?_
      refine lv_iconst (v := nI 1) hx hb d_Mkr_fixedBitsOf_32 rfl ?_
      refine lv_icmp_ne (tgt := 39) hx hb d_Mkr_fixedBitsOf_33 (by decide) (fun c33 => ?_) (fun c33 => ?_)
      · skip
        have c33 : ¬ ((lit Bt Wd S b) = 1) := fun h => c33 ((nI_eq (by omega) (by omega)).mpr h)
        refine lv_iinc (v := nI (b + 1)) (lv' := [(3, .int (nI (b + 1))), (4, .int (nI (lit Bt Wd S b))), (2, .int (nI x)), (0, .ref a_mkr), (1, .int (nI S))]) hx hb d_Mkr_fixedBitsOf_39 hl (k := 1) rfl (k_inc _ 1) (by decide) rfl (fun ls hl => ?_)
        refine lv_goto (tgt := 4) hx hb d_Mkr_fixedBitsOf_42 (by decide) ?_
        have hI_6 : (x = cnt (fun z => if lit Bt Wd S z = 0 ∨ lit Bt Wd S z = 1 then 1 else 0) (b + 1)) ∧ ((b + 1) ≤ Wd S) ∧ (x ≤ (b + 1)) := ⟨(by rw [hx2]; show _ = cnt _ b + (if lit Bt Wd S b = 0 ∨ lit Bt Wd S b = 1 then 1 else 0); rw [if_neg (by omega)]; rfl), (by omega), (by omega)⟩
        exact ih_2 (x, b + 1) hI_6 (show Wd S - (b + 1) < Wd S - b from by omega) _ _ _ hP hD hS (lv_sub hl [0, 2, 3, 4] rfl)
      · skip
        have c33 : (lit Bt Wd S b) = 1 := (nI_eq (by omega) (by omega)).mp c33
        refine lv_iinc (v := nI (x + 1)) (lv' := [(2, .int (nI (x + 1))), (4, .int (nI (lit Bt Wd S b))), (3, .int (nI b)), (0, .ref a_mkr), (1, .int (nI S))]) hx hb d_Mkr_fixedBitsOf_36 hl (k := 2) rfl (k_inc _ 1) (by decide) rfl (fun ls hl => ?_)
        refine lv_iinc (v := nI (b + 1)) (lv' := [(3, .int (nI (b + 1))), (2, .int (nI (x + 1))), (4, .int (nI (lit Bt Wd S b))), (0, .ref a_mkr), (1, .int (nI S))]) hx hb d_Mkr_fixedBitsOf_39 hl (k := 2) rfl (k_inc _ 1) (by decide) rfl (fun ls hl => ?_)
        refine lv_goto (tgt := 4) hx hb d_Mkr_fixedBitsOf_42 (by decide) ?_
        have hI_7 : ((x + 1) = cnt (fun z => if lit Bt Wd S z = 0 ∨ lit Bt Wd S z = 1 then 1 else 0) (b + 1)) ∧ ((b + 1) ≤ Wd S) ∧ ((x + 1) ≤ (b + 1)) := ⟨(by rw [hx2]; show _ = cnt _ b + (if lit Bt Wd S b = 0 ∨ lit Bt Wd S b = 1 then 1 else 0); rw [if_pos (by omega)]), (by omega), (by omega)⟩
        exact ih_2 (x + 1, b + 1) hI_7 (show Wd S - (b + 1) < Wd S - b from by omega) _ _ _ hP hD hS (lv_sub hl [0, 1, 3, 4] rfl)
set_option maxHeartbeats 4000000 in
set_option maxRecDepth 100000 in
theorem c_Mkr_depthOf (l : Launch) (dC : Nat → ClassId) (dI : Nat → Nat → Nat) (cI cZ : ClassId) (a_mkr a_bits a_nbits a_sig a_stm a_chk a_net a_sums a_given a_gfirst a_cond a_insec a_kind a_width a_rword a_sop a_sa a_sb a_sc a_pairs a_depths a_values a_slots : Nat) (tt sz : Nat) (n : Nat) (Wd : Nat → Nat) (Bt : Nat → Nat) (g : Nat) (gd : Nat) (st : Nat) (Dp : Nat → Nat) (S : Nat) (b_n : n ≤ 14) (b_Wd : ∀ j, Wd j < 9) (b_Bt : ∀ j, Bt j < 2786) (b_g : g ≤ 1280) (b_gd : gd < 1400) (b_st : st ≤ 1) (b_Dp : ∀ j, Dp j < 1400) (hS14 : S < 14) : Met l y_Mkr_depthOf w_Mkr_depthOf ({ frames := 1, cells := 0, slots := 0, locals := 22 }) (va_Pc [.ref a_mkr, .int (nI S)] (PW (dC, dI) classes [(cI, .int), (cZ, .boolean)] tt [(a_mkr, .inr (4, [.ref a_bits, .ref a_nbits, .ref a_sig, .ref a_stm, .ref a_chk, .ref a_net, .ref a_sums, .ref a_given, .ref a_gfirst, .ref a_cond, .ref a_insec])), (a_sig, .inr (1, [.ref a_kind, .ref a_width, .ref a_rword, .ref a_sop, .ref a_sa, .ref a_sb, .ref a_sc, .int (nI n)])), (a_width, .inl (cI, 14, .inl (nF Wd))), (a_bits, .inl (cI, 112, .inl (nF Bt))), (a_net, .inr (0, [.int (nI g), .int (nI gd), .ref a_pairs, .ref a_depths, .ref a_values, .ref a_slots, .int (nI st)])), (a_depths, .inl (cI, 1393, .inl (nF Dp)))] sz)) (va_Qi (fun (r : Int32) (u : Unit) => ∃ rv : Nat, r = nI rv ∧ (rv = mx (fun z => Dp (lit Bt Wd S z / 2)) (Wd S)) ∧ (rv < 1400)) (AT (dC, dI) classes [(cI, .int), (cZ, .boolean)] (va_A [(a_mkr, .inr (4, [.ref a_bits, .ref a_nbits, .ref a_sig, .ref a_stm, .ref a_chk, .ref a_net, .ref a_sums, .ref a_given, .ref a_gfirst, .ref a_cond, .ref a_insec])), (a_sig, .inr (1, [.ref a_kind, .ref a_width, .ref a_rword, .ref a_sop, .ref a_sa, .ref a_sb, .ref a_sc, .int (nI n)])), (a_width, .inl (cI, 14, .inl (nF Wd))), (a_bits, .inl (cI, 112, .inl (nF Bt))), (a_net, .inr (0, [.int (nI g), .int (nI gd), .ref a_pairs, .ref a_depths, .ref a_values, .ref a_slots, .int (nI st)])), (a_depths, .inl (cI, 1393, .inl (nF Dp)))] sz) (fun (u : Unit) => [(a_mkr, .inr (4, [.ref a_bits, .ref a_nbits, .ref a_sig, .ref a_stm, .ref a_chk, .ref a_net, .ref a_sums, .ref a_given, .ref a_gfirst, .ref a_cond, .ref a_insec])), (a_sig, .inr (1, [.ref a_kind, .ref a_width, .ref a_rword, .ref a_sop, .ref a_sa, .ref a_sb, .ref a_sc, .int (nI n)])), (a_width, .inl (cI, 14, .inl (nF Wd))), (a_bits, .inl (cI, 112, .inl (nF Bt))), (a_net, .inr (0, [.int (nI g), .int (nI gd), .ref a_pairs, .ref a_depths, .ref a_values, .ref a_slots, .int (nI st)])), (a_depths, .inl (cI, 1393, .inl (nF Dp)))])) (va_A [(a_mkr, .inr (4, [.ref a_bits, .ref a_nbits, .ref a_sig, .ref a_stm, .ref a_chk, .ref a_net, .ref a_sums, .ref a_given, .ref a_gfirst, .ref a_cond, .ref a_insec])), (a_sig, .inr (1, [.ref a_kind, .ref a_width, .ref a_rword, .ref a_sop, .ref a_sa, .ref a_sb, .ref a_sc, .int (nI n)])), (a_width, .inl (cI, 14, .inl (nF Wd))), (a_bits, .inl (cI, 112, .inl (nF Bt))), (a_net, .inr (0, [.int (nI g), .int (nI gd), .ref a_pairs, .ref a_depths, .ref a_values, .ref a_slots, .int (nI st)])), (a_depths, .inl (cI, 1393, .inl (nF Dp)))] sz)) 0 0 (va_A [(a_mkr, .inr (4, [.ref a_bits, .ref a_nbits, .ref a_sig, .ref a_stm, .ref a_chk, .ref a_net, .ref a_sums, .ref a_given, .ref a_gfirst, .ref a_cond, .ref a_insec])), (a_sig, .inr (1, [.ref a_kind, .ref a_width, .ref a_rword, .ref a_sop, .ref a_sa, .ref a_sb, .ref a_sc, .int (nI n)])), (a_width, .inl (cI, 14, .inl (nF Wd))), (a_bits, .inl (cI, 112, .inl (nF Bt))), (a_net, .inr (0, [.int (nI g), .int (nI gd), .ref a_pairs, .ref a_depths, .ref a_values, .ref a_slots, .int (nI st)])), (a_depths, .inl (cI, 1393, .inl (nF Dp)))] sz) := by
  refine Met.ofW (cc := b_Mkr_depthOf) (maxL := 4) (ret := (some .int)) (by decide) rfl ?_
  intro p e s m args below meth c s₁ B hml hv
  obtain ⟨rfl, hsz, hP, hK, hD0, hE⟩ := hv
  have hx := B.exec
  have hb := B.bytes
  have hr := B.returns
  have hts := atoms_spec (ws := w_Mkr_depthOf) B.pre
  have hown : s.vm.findClass R_Mkr = some m.cls := findClass_of_methodNamed B.named
  have hlocks := B.notSynchronized
  subst hsz
  have hD := hD0.self (sz := s.heap.size)
  generalize hAe : va_A [(a_mkr, .inr (4, [.ref a_bits, .ref a_nbits, .ref a_sig, .ref a_stm, .ref a_chk, .ref a_net, .ref a_sums, .ref a_given, .ref a_gfirst, .ref a_cond, .ref a_insec])), (a_sig, .inr (1, [.ref a_kind, .ref a_width, .ref a_rword, .ref a_sop, .ref a_sa, .ref a_sb, .ref a_sc, .int (nI n)])), (a_width, .inl (cI, 14, .inl (nF Wd))), (a_bits, .inl (cI, 112, .inl (nF Bt))), (a_net, .inr (0, [.int (nI g), .int (nI gd), .ref a_pairs, .ref a_depths, .ref a_values, .ref a_slots, .int (nI st)])), (a_depths, .inl (cI, 1393, .inl (nF Dp)))] s.heap.size = A at hD hE ⊢
  have hA : ∀ q : Nat, s.heap.size ≤ q → A q := fun q h => by rw [← hAe]; exact Or.inr h
  have hS : va_S A s.heap s.heap [] := va_S.rf
  have hP : va_P (dC, dI) classes [(a_mkr, .inr (4, [.ref a_bits, .ref a_nbits, .ref a_sig, .ref a_stm, .ref a_chk, .ref a_net, .ref a_sums, .ref a_given, .ref a_gfirst, .ref a_cond, .ref a_insec])), (a_sig, .inr (1, [.ref a_kind, .ref a_width, .ref a_rword, .ref a_sop, .ref a_sa, .ref a_sb, .ref a_sc, .int (nI n)])), (a_width, .inl (cI, 14, .inl (nF Wd))), (a_bits, .inl (cI, 112, .inl (nF Bt))), (a_net, .inr (0, [.int (nI g), .int (nI gd), .ref a_pairs, .ref a_depths, .ref a_values, .ref a_slots, .int (nI st)])), (a_depths, .inl (cI, 1393, .inl (nF Dp)))] s.heap := hP
  have hl := lv_entry ([.ref a_mkr, .int (nI S)]) (n := 4) (Nat.le_of_ble_eq_true rfl)
  rw [lg_entry_eq]
  generalize (lg_sl ([.ref a_mkr, .int (nI S)]) ++ List.replicate (4 - (lg_sl ([.ref a_mkr, .int (nI S)])).length) Slot.unset).toArray = ls at hl ⊢
  have hl : lv_has ls 4 [(0, .ref a_mkr), (1, .int (nI S))] := hl
  refine lv_iconst (v := nI 0) hx hb d_Mkr_depthOf_0 rfl ?_
  refine lv_istore_n (lv' := [(2, .int (nI 0)), (0, .ref a_mkr), (1, .int (nI S))]) hx hb d_Mkr_depthOf_1 rfl hl (by decide) rfl (fun ls hl => ?_)
  refine lv_iconst (v := nI 0) hx hb d_Mkr_depthOf_2 rfl ?_
  refine lv_istore_n (lv' := [(3, .int (nI 0)), (2, .int (nI 0)), (0, .ref a_mkr), (1, .int (nI S))]) hx hb d_Mkr_depthOf_3 rfl hl (by decide) rfl (fun ls hl => ?_)
  have hW9 := b_Wd S
  have hI_1 : (0 = mx (fun z => Dp (lit Bt Wd S z / 2)) 0) ∧ (0 ≤ Wd S) ∧ (0 < 1400) := ⟨rfl, (by omega), (by omega)⟩
  refine k_loop (σ := Nat × Nat) (D := (dC, dI)) (cl := classes) (A := A) (H0 := s.heap) (fun x => [(a_mkr, .inr (4, [.ref a_bits, .ref a_nbits, .ref a_sig, .ref a_stm, .ref a_chk, .ref a_net, .ref a_sums, .ref a_given, .ref a_gfirst, .ref a_cond, .ref a_insec])), (a_sig, .inr (1, [.ref a_kind, .ref a_width, .ref a_rword, .ref a_sop, .ref a_sa, .ref a_sb, .ref a_sc, .int (nI n)])), (a_width, .inl (cI, 14, .inl (nF Wd))), (a_bits, .inl (cI, 112, .inl (nF Bt))), (a_net, .inr (0, [.int (nI g), .int (nI gd), .ref a_pairs, .ref a_depths, .ref a_values, .ref a_slots, .int (nI st)])), (a_depths, .inl (cI, 1393, .inl (nF Dp)))]) (fun x => [(3, .int (nI x.2)), (2, .int (nI x.1)), (0, .ref a_mkr), (1, .int (nI S))]) (fun x => (x.1 = mx (fun z => Dp (lit Bt Wd S z / 2)) x.2) ∧ (x.2 ≤ Wd S) ∧ (x.1 < 1400)) (fun x => Wd S - x.2) ?_ (0, 0) hI_1 hP hD hS (lv_sub hl [0, 1, 2, 3] rfl)
  rintro ⟨x, b⟩ hI ih_2 H locs ls hP hD hS hl
  obtain ⟨hx2, hb8, hxb⟩ : (x = mx (fun z => Dp (lit Bt Wd S z / 2)) b) ∧ (b ≤ Wd S) ∧ (x < 1400) := hI
  have hP : va_P (dC, dI) classes [(a_mkr, .inr (4, [.ref a_bits, .ref a_nbits, .ref a_sig, .ref a_stm, .ref a_chk, .ref a_net, .ref a_sums, .ref a_given, .ref a_gfirst, .ref a_cond, .ref a_insec])), (a_sig, .inr (1, [.ref a_kind, .ref a_width, .ref a_rword, .ref a_sop, .ref a_sa, .ref a_sb, .ref a_sc, .int (nI n)])), (a_width, .inl (cI, 14, .inl (nF Wd))), (a_bits, .inl (cI, 112, .inl (nF Bt))), (a_net, .inr (0, [.int (nI g), .int (nI gd), .ref a_pairs, .ref a_depths, .ref a_values, .ref a_slots, .int (nI st)])), (a_depths, .inl (cI, 1393, .inl (nF Dp)))] H := hP
  have hD : va_D A [(a_mkr, .inr (4, [.ref a_bits, .ref a_nbits, .ref a_sig, .ref a_stm, .ref a_chk, .ref a_net, .ref a_sums, .ref a_given, .ref a_gfirst, .ref a_cond, .ref a_insec])), (a_sig, .inr (1, [.ref a_kind, .ref a_width, .ref a_rword, .ref a_sop, .ref a_sa, .ref a_sb, .ref a_sc, .int (nI n)])), (a_width, .inl (cI, 14, .inl (nF Wd))), (a_bits, .inl (cI, 112, .inl (nF Bt))), (a_net, .inr (0, [.int (nI g), .int (nI gd), .ref a_pairs, .ref a_depths, .ref a_values, .ref a_slots, .int (nI st)])), (a_depths, .inl (cI, 1393, .inl (nF Dp)))] := hD
  have hl : lv_has ls 4 [(3, .int (nI b)), (2, .int (nI x)), (0, .ref a_mkr), (1, .int (nI S))] := hl
  refine lv_iload_n hx hb d_Mkr_depthOf_4 rfl (lv_at hl 0 rfl) ?_
  refine lv_aload_n hx hb d_Mkr_depthOf_5 rfl (lv_at hl 2 rfl) ?_
  refine va_get (D := (dC, dI)) (ci := 4) (v := .ref a_sig) (C := R_Mkr) (T := F_Mkr) (N := 11) hx hb hts (wi i_Mkr) hown hK hP 0 rfl rfl 2 (by decide) (hts _ (mt 210 rfl rfl)) (fun _ h9 => h9) rfl d_Mkr_depthOf_6 ?_
  refine va_get (D := (dC, dI)) (ci := 1) (v := .ref a_width) (C := R_Sig) (T := F_Sig) (N := 8) hx hb hts (wi i_Sig) hown hK hP 1 rfl rfl 1 (by decide) (hts _ (mt 70 rfl rfl)) (fun _ h9 => h9) rfl d_Mkr_depthOf_9 ?_
  refine lv_iload_n hx hb d_Mkr_depthOf_12 rfl (lv_at hl 3 rfl) ?_
  refine k_ild hx hb hK hP 2 0 rfl rfl (by omega) (by decide) d_Mkr_depthOf_13 ?_
  have hb_3 := b_Wd S
  refine lv_icmp_ge (tgt := 41) hx hb d_Mkr_depthOf_14 (by decide) (fun c14 => ?_) (fun c14 => ?_)
  · skip
    have c14 : (Wd S) ≤ b := (nI_leI (by omega) (by omega)).mp c14
    refine lv_iload_n hx hb d_Mkr_depthOf_41 rfl (lv_at hl 1 rfl) ?_
    exact W.iret (v := nI x) hx hb hr (fun t ht hW => ⟨⟨nI x, (), rfl, ⟨x, rfl, (show x = mx (fun z => Dp (lit Bt Wd S z / 2)) (Wd S) from (by rw [hx2, show Wd S = b by omega])), (show x < 1400 from by omega)⟩, by rw [ht]; exact hP, va_K.moved hW.alike hK, hD⟩, hS.F ht⟩) hS.2.2 d_Mkr_depthOf_42
  · skip
    have c14 : ¬ ((Wd S) ≤ b) := fun h => c14 ((nI_leI (by omega) (by omega)).mpr h)
    refine lv_iload_n hx hb d_Mkr_depthOf_17 rfl (lv_at hl 1 rfl) ?_
    refine lv_aload_n hx hb d_Mkr_depthOf_18 rfl (lv_at hl 2 rfl) ?_
    refine va_get (D := (dC, dI)) (ci := 4) (v := .ref a_net) (C := R_Mkr) (T := F_Mkr) (N := 11) hx hb hts (wi i_Mkr) hown hK hP 0 rfl rfl 5 (by decide) (hts _ (mt 213 rfl rfl)) (fun _ h9 => h9) rfl d_Mkr_depthOf_19 ?_
    refine lv_aload_n hx hb d_Mkr_depthOf_22 rfl (lv_at hl 2 rfl) ?_
    refine lv_iload_n hx hb d_Mkr_depthOf_23 rfl (lv_at hl 3 rfl) ?_
    refine lv_iload_n hx hb d_Mkr_depthOf_24 rfl (lv_at hl 0 rfl) ?_
    refine k_i (wr := [(a_net, .inr (0, [.int (nI g), .int (nI gd), .ref a_pairs, .ref a_depths, .ref a_values, .ref a_slots, .int (nI st)])), (a_depths, .inl (cI, 1393, .inl (nF Dp)))]) (w2 := fun (u : Unit) => [(a_mkr, .inr (4, [.ref a_bits, .ref a_nbits, .ref a_sig, .ref a_stm, .ref a_chk, .ref a_net, .ref a_sums, .ref a_given, .ref a_gfirst, .ref a_cond, .ref a_insec])), (a_sig, .inr (1, [.ref a_kind, .ref a_width, .ref a_rword, .ref a_sop, .ref a_sa, .ref a_sb, .ref a_sc, .int (nI n)])), (a_width, .inl (cI, 14, .inl (nF Wd))), (a_bits, .inl (cI, 112, .inl (nF Bt))), (a_net, .inr (0, [.int (nI g), .int (nI gd), .ref a_pairs, .ref a_depths, .ref a_values, .ref a_slots, .int (nI st)])), (a_depths, .inl (cI, 1393, .inl (nF Dp)))]) (va_runV (As := [.int (nI S), .int (nI b)]) (rest := [.ref a_net, .int (nI x)]) ⟨hx, hb, hml, hown, hts⟩ (c_Mkr_literalOf l dC dI cI cZ a_mkr a_bits a_nbits a_sig a_stm a_chk a_net a_sums a_given a_gfirst a_cond a_insec a_kind a_width a_rword a_sop a_sa a_sb a_sc tt H.size n Wd Bt S b (by omega) b_Wd b_Bt (by omega) (by omega)) (cwV 2 hts (gd_V in_tl (mw 402 rfl rfl) (mw 404 rfl rfl) (mw 7 rfl rfl) (mw 46 rfl rfl) (mw 405 rfl rfl)) rfl rfl rfl (by decide +kernel) ⟨Nat.le_of_ble_eq_true rfl, Nat.le_of_ble_eq_true rfl⟩) (k_preV hK hP hD hS hA hE [0, 1, 2, 3] (by decide) rfl 4 0 rfl rfl) rfl rfl hl.1 rfl (lv_room (Nat.le_of_ble_eq_true rfl)) d_Mkr_depthOf_25 ⟨Nat.zero_le _, Nat.zero_le _⟩) hP hD hS hA [0, 1, 2, 3] [4, 5] [2, 3, 4, 5, 0, 1] rfl rfl (by decide) (by decide) (by decide) (fun _ => rfl) (fun r_4 u H locs hw hP hD hS => ?_)
    obtain rfl : (r_4 = nI (lit Bt Wd S b)) := hw
    have hP : va_P (dC, dI) classes [(a_mkr, .inr (4, [.ref a_bits, .ref a_nbits, .ref a_sig, .ref a_stm, .ref a_chk, .ref a_net, .ref a_sums, .ref a_given, .ref a_gfirst, .ref a_cond, .ref a_insec])), (a_sig, .inr (1, [.ref a_kind, .ref a_width, .ref a_rword, .ref a_sop, .ref a_sa, .ref a_sb, .ref a_sc, .int (nI n)])), (a_width, .inl (cI, 14, .inl (nF Wd))), (a_bits, .inl (cI, 112, .inl (nF Bt))), (a_net, .inr (0, [.int (nI g), .int (nI gd), .ref a_pairs, .ref a_depths, .ref a_values, .ref a_slots, .int (nI st)])), (a_depths, .inl (cI, 1393, .inl (nF Dp)))] H := hP
    have hD : va_D A [(a_mkr, .inr (4, [.ref a_bits, .ref a_nbits, .ref a_sig, .ref a_stm, .ref a_chk, .ref a_net, .ref a_sums, .ref a_given, .ref a_gfirst, .ref a_cond, .ref a_insec])), (a_sig, .inr (1, [.ref a_kind, .ref a_width, .ref a_rword, .ref a_sop, .ref a_sa, .ref a_sb, .ref a_sc, .int (nI n)])), (a_width, .inl (cI, 14, .inl (nF Wd))), (a_bits, .inl (cI, 112, .inl (nF Bt))), (a_net, .inr (0, [.int (nI g), .int (nI gd), .ref a_pairs, .ref a_depths, .ref a_values, .ref a_slots, .int (nI st)])), (a_depths, .inl (cI, 1393, .inl (nF Dp)))] := hD
    have hll := lit_lt (Wd := Wd) b_Bt S b
    have hdd := b_Dp (lit Bt Wd S b / 2)
    refine k_i (wr := [(a_mkr, .inr (4, [.ref a_bits, .ref a_nbits, .ref a_sig, .ref a_stm, .ref a_chk, .ref a_net, .ref a_sums, .ref a_given, .ref a_gfirst, .ref a_cond, .ref a_insec])), (a_sig, .inr (1, [.ref a_kind, .ref a_width, .ref a_rword, .ref a_sop, .ref a_sa, .ref a_sb, .ref a_sc, .int (nI n)])), (a_width, .inl (cI, 14, .inl (nF Wd))), (a_bits, .inl (cI, 112, .inl (nF Bt)))]) (w2 := fun (u : Unit) => [(a_mkr, .inr (4, [.ref a_bits, .ref a_nbits, .ref a_sig, .ref a_stm, .ref a_chk, .ref a_net, .ref a_sums, .ref a_given, .ref a_gfirst, .ref a_cond, .ref a_insec])), (a_sig, .inr (1, [.ref a_kind, .ref a_width, .ref a_rword, .ref a_sop, .ref a_sa, .ref a_sb, .ref a_sc, .int (nI n)])), (a_width, .inl (cI, 14, .inl (nF Wd))), (a_bits, .inl (cI, 112, .inl (nF Bt))), (a_net, .inr (0, [.int (nI g), .int (nI gd), .ref a_pairs, .ref a_depths, .ref a_values, .ref a_slots, .int (nI st)])), (a_depths, .inl (cI, 1393, .inl (nF Dp)))]) (va_runV (As := [.int (nI (lit Bt Wd S b))]) (rest := [.int (nI x)]) ⟨hx, hb, hml, hown, hts⟩ (c_Net_depthOf l dC dI cI cZ a_net a_pairs a_depths a_values a_slots tt H.size g gd st Dp (lit Bt Wd S b) (by omega) (by omega) (by omega) b_Dp (by omega) (by omega)) (cwV 1 hts (gd_V in_tl (mw 522 rfl rfl) (mw 523 rfl rfl) (mw 524 rfl rfl) (mw 45 rfl rfl) (mw 525 rfl rfl)) rfl rfl rfl (by decide +kernel) ⟨Nat.le_of_ble_eq_true rfl, Nat.le_of_ble_eq_true rfl⟩) (k_preV hK hP hD hS hA hE [4, 5] (by decide) rfl 0 4 rfl rfl) rfl rfl hl.1 rfl (lv_room (Nat.le_of_ble_eq_true rfl)) d_Mkr_depthOf_28 ⟨Nat.zero_le _, Nat.zero_le _⟩) hP hD hS hA [4, 5] [0, 1, 2, 3] [0, 1, 2, 3, 4, 5] rfl rfl (by decide) (by decide) (by decide) (fun _ => rfl) (fun r_5 u H locs hw hP hD hS => ?_)
    obtain rfl : (r_5 = nI (Dp ((lit Bt Wd S b) / 2))) := hw
    have hP : va_P (dC, dI) classes [(a_mkr, .inr (4, [.ref a_bits, .ref a_nbits, .ref a_sig, .ref a_stm, .ref a_chk, .ref a_net, .ref a_sums, .ref a_given, .ref a_gfirst, .ref a_cond, .ref a_insec])), (a_sig, .inr (1, [.ref a_kind, .ref a_width, .ref a_rword, .ref a_sop, .ref a_sa, .ref a_sb, .ref a_sc, .int (nI n)])), (a_width, .inl (cI, 14, .inl (nF Wd))), (a_bits, .inl (cI, 112, .inl (nF Bt))), (a_net, .inr (0, [.int (nI g), .int (nI gd), .ref a_pairs, .ref a_depths, .ref a_values, .ref a_slots, .int (nI st)])), (a_depths, .inl (cI, 1393, .inl (nF Dp)))] H := hP
    have hD : va_D A [(a_mkr, .inr (4, [.ref a_bits, .ref a_nbits, .ref a_sig, .ref a_stm, .ref a_chk, .ref a_net, .ref a_sums, .ref a_given, .ref a_gfirst, .ref a_cond, .ref a_insec])), (a_sig, .inr (1, [.ref a_kind, .ref a_width, .ref a_rword, .ref a_sop, .ref a_sa, .ref a_sb, .ref a_sc, .int (nI n)])), (a_width, .inl (cI, 14, .inl (nF Wd))), (a_bits, .inl (cI, 112, .inl (nF Bt))), (a_net, .inr (0, [.int (nI g), .int (nI gd), .ref a_pairs, .ref a_depths, .ref a_values, .ref a_slots, .int (nI st)])), (a_depths, .inl (cI, 1393, .inl (nF Dp)))] := hD
    refine va_mmax hx hb (by rw [hml]; exact hl.1.symm) hown (hts _ (mt 526 rfl rfl)) (hts _ (mt 304 rfl rfl)) (hts _ (mt 48 rfl rfl)) (hts _ (mt 305 rfl rfl)) (Nat.le_of_ble_eq_true rfl) (Nat.le_of_ble_eq_true rfl) (Nat.zero_le _) (Nat.zero_le _) d_Mkr_depthOf_31 ?_
    refine k_top (k_max (by omega) (by omega)) ?_
    refine lv_istore_n (lv' := [(2, .int (nI (max x (Dp ((lit Bt Wd S b) / 2))))), (3, .int (nI b)), (0, .ref a_mkr), (1, .int (nI S))]) hx hb d_Mkr_depthOf_34 rfl hl (by decide) rfl (fun ls hl => ?_)
    refine lv_iinc (v := nI (b + 1)) (lv' := [(3, .int (nI (b + 1))), (2, .int (nI (max x (Dp ((lit Bt Wd S b) / 2))))), (0, .ref a_mkr), (1, .int (nI S))]) hx hb d_Mkr_depthOf_35 hl (k := 1) rfl (k_inc _ 1) (by decide) rfl (fun ls hl => ?_)
    refine lv_goto (tgt := 4) hx hb d_Mkr_depthOf_38 (by decide) ?_
    have hI_6 : ((max x (Dp ((lit Bt Wd S b) / 2))) = mx (fun z => Dp (lit Bt Wd S z / 2)) (b + 1)) ∧ ((b + 1) ≤ Wd S) ∧ ((max x (Dp ((lit Bt Wd S b) / 2))) < 1400) := ⟨(by rw [hx2]; rfl), (by omega), (by omega)⟩
    exact ih_2 (max x (Dp ((lit Bt Wd S b) / 2)), b + 1) hI_6 (show Wd S - (b + 1) < Wd S - b from by omega) _ _ _ hP hD hS (lv_sub hl [0, 1, 2, 3] rfl)
