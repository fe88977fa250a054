abbrev b_Sig_isPartOf : ByteArray := prog_5_method_9_code
def y_Sig_isPartOf : MethodName := ⟨"CircuitDesk$Signals", "isPartOf", "(III)Z"⟩
def w_Sig_isPartOf : List Cond := .code y_Sig_isPartOf b_Sig_isPartOf 4 (some .boolean) :: lw_gw
theorem d_Sig_isPartOf_0 : decode b_Sig_isPartOf 0 = .ok (.iload_n 2, 1) := by decide +kernel
theorem d_Sig_isPartOf_1 : decode b_Sig_isPartOf 1 = .ok (.ifCond .lt 36, 3) := by decide +kernel
theorem d_Sig_isPartOf_4 : decode b_Sig_isPartOf 4 = .ok (.iload_n 2, 1) := by decide +kernel
theorem d_Sig_isPartOf_5 : decode b_Sig_isPartOf 5 = .ok (.bipush 8, 2) := by decide +kernel
theorem d_Sig_isPartOf_7 : decode b_Sig_isPartOf 7 = .ok (.if_icmp .ge 30, 3) := by decide +kernel
theorem d_Sig_isPartOf_10 : decode b_Sig_isPartOf 10 = .ok (.iload_n 3, 1) := by decide +kernel
theorem d_Sig_isPartOf_11 : decode b_Sig_isPartOf 11 = .ok (.iconst 1, 1) := by decide +kernel
theorem d_Sig_isPartOf_12 : decode b_Sig_isPartOf 12 = .ok (.if_icmp .lt 25, 3) := by decide +kernel
theorem d_Sig_isPartOf_15 : decode b_Sig_isPartOf 15 = .ok (.iload_n 3, 1) := by decide +kernel
theorem d_Sig_isPartOf_16 : decode b_Sig_isPartOf 16 = .ok (.bipush 8, 2) := by decide +kernel
theorem d_Sig_isPartOf_18 : decode b_Sig_isPartOf 18 = .ok (.if_icmp .gt 19, 3) := by decide +kernel
theorem d_Sig_isPartOf_21 : decode b_Sig_isPartOf 21 = .ok (.iload_n 2, 1) := by decide +kernel
theorem d_Sig_isPartOf_22 : decode b_Sig_isPartOf 22 = .ok (.iload_n 3, 1) := by decide +kernel
theorem d_Sig_isPartOf_23 : decode b_Sig_isPartOf 23 = .ok (.iadd, 1) := by decide +kernel
theorem d_Sig_isPartOf_24 : decode b_Sig_isPartOf 24 = .ok (.aload_n 0, 1) := by decide +kernel
theorem d_Sig_isPartOf_25 : decode b_Sig_isPartOf 25 = .ok (.getfield 15, 3) := by decide +kernel
theorem d_Sig_isPartOf_28 : decode b_Sig_isPartOf 28 = .ok (.iload_n 1, 1) := by decide +kernel
theorem d_Sig_isPartOf_29 : decode b_Sig_isPartOf 29 = .ok (.iaload, 1) := by decide +kernel
theorem d_Sig_isPartOf_30 : decode b_Sig_isPartOf 30 = .ok (.if_icmp .gt 7, 3) := by decide +kernel
theorem d_Sig_isPartOf_33 : decode b_Sig_isPartOf 33 = .ok (.iconst 1, 1) := by decide +kernel
theorem d_Sig_isPartOf_34 : decode b_Sig_isPartOf 34 = .ok (.goto 4, 3) := by decide +kernel
theorem d_Sig_isPartOf_37 : decode b_Sig_isPartOf 37 = .ok (.iconst 0, 1) := by decide +kernel
theorem d_Sig_isPartOf_38 : decode b_Sig_isPartOf 38 = .ok (.ireturn, 1) := by decide +kernel
abbrev b_Sig_isConstant : ByteArray := prog_5_method_10_code
def y_Sig_isConstant : MethodName := ⟨"CircuitDesk$Signals", "isConstant", "(II)Z"⟩
def w_Sig_isConstant : List Cond := .code y_Sig_isConstant b_Sig_isConstant 3 (some .boolean) :: lw_gw
theorem d_Sig_isConstant_0 : decode b_Sig_isConstant 0 = .ok (.iload_n 2, 1) := by decide +kernel
theorem d_Sig_isConstant_1 : decode b_Sig_isConstant 1 = .ok (.iconst 1, 1) := by decide +kernel
theorem d_Sig_isConstant_2 : decode b_Sig_isConstant 2 = .ok (.if_icmp .lt 25, 3) := by decide +kernel
theorem d_Sig_isConstant_5 : decode b_Sig_isConstant 5 = .ok (.iload_n 2, 1) := by decide +kernel
theorem d_Sig_isConstant_6 : decode b_Sig_isConstant 6 = .ok (.bipush 8, 2) := by decide +kernel
theorem d_Sig_isConstant_8 : decode b_Sig_isConstant 8 = .ok (.if_icmp .gt 19, 3) := by decide +kernel
theorem d_Sig_isConstant_11 : decode b_Sig_isConstant 11 = .ok (.iload_n 1, 1) := by decide +kernel
theorem d_Sig_isConstant_12 : decode b_Sig_isConstant 12 = .ok (.ifCond .lt 15, 3) := by decide +kernel
theorem d_Sig_isConstant_15 : decode b_Sig_isConstant 15 = .ok (.iload_n 1, 1) := by decide +kernel
theorem d_Sig_isConstant_16 : decode b_Sig_isConstant 16 = .ok (.iload_n 2, 1) := by decide +kernel
theorem d_Sig_isConstant_17 : decode b_Sig_isConstant 17 = .ok (.invokestatic 41, 3) := by decide +kernel
theorem d_Sig_isConstant_20 : decode b_Sig_isConstant 20 = .ok (.if_icmp .gt 7, 3) := by decide +kernel
theorem d_Sig_isConstant_23 : decode b_Sig_isConstant 23 = .ok (.iconst 1, 1) := by decide +kernel
theorem d_Sig_isConstant_24 : decode b_Sig_isConstant 24 = .ok (.goto 4, 3) := by decide +kernel
theorem d_Sig_isConstant_27 : decode b_Sig_isConstant 27 = .ok (.iconst 0, 1) := by decide +kernel
theorem d_Sig_isConstant_28 : decode b_Sig_isConstant 28 = .ok (.ireturn, 1) := by decide +kernel
abbrev b_Sig_widthOfNode : ByteArray := prog_5_method_8_code
def y_Sig_widthOfNode : MethodName := ⟨"CircuitDesk$Signals", "widthOfNode", "(IIII)I"⟩
def w_Sig_widthOfNode : List Cond := .code y_Sig_widthOfNode b_Sig_widthOfNode 5 (some .int) :: lw_gw
theorem d_Sig_widthOfNode_0 : decode b_Sig_widthOfNode 0 = .ok (.iload_n 1, 1) := by decide +kernel
theorem d_Sig_widthOfNode_1 : decode b_Sig_widthOfNode 1 = .ok (.tableswitch 157 0 11 #[63, 70, 70, 70, 77, 70, 86, 86, 88, 102, 120, 142], 63) := by decide +kernel
theorem d_Sig_widthOfNode_64 : decode b_Sig_widthOfNode 64 = .ok (.aload_n 0, 1) := by decide +kernel
theorem d_Sig_widthOfNode_65 : decode b_Sig_widthOfNode 65 = .ok (.getfield 15, 3) := by decide +kernel
theorem d_Sig_widthOfNode_68 : decode b_Sig_widthOfNode 68 = .ok (.iload_n 2, 1) := by decide +kernel
theorem d_Sig_widthOfNode_69 : decode b_Sig_widthOfNode 69 = .ok (.iaload, 1) := by decide +kernel
theorem d_Sig_widthOfNode_70 : decode b_Sig_widthOfNode 70 = .ok (.ireturn, 1) := by decide +kernel
theorem d_Sig_widthOfNode_71 : decode b_Sig_widthOfNode 71 = .ok (.aload_n 0, 1) := by decide +kernel
theorem d_Sig_widthOfNode_72 : decode b_Sig_widthOfNode 72 = .ok (.iload_n 2, 1) := by decide +kernel
theorem d_Sig_widthOfNode_73 : decode b_Sig_widthOfNode 73 = .ok (.iload_n 3, 1) := by decide +kernel
theorem d_Sig_widthOfNode_74 : decode b_Sig_widthOfNode 74 = .ok (.invokevirtual 51, 3) := by decide +kernel
theorem d_Sig_widthOfNode_77 : decode b_Sig_widthOfNode 77 = .ok (.ireturn, 1) := by decide +kernel
theorem d_Sig_widthOfNode_78 : decode b_Sig_widthOfNode 78 = .ok (.aload_n 0, 1) := by decide +kernel
theorem d_Sig_widthOfNode_79 : decode b_Sig_widthOfNode 79 = .ok (.iload_n 2, 1) := by decide +kernel
theorem d_Sig_widthOfNode_80 : decode b_Sig_widthOfNode 80 = .ok (.iload_n 3, 1) := by decide +kernel
theorem d_Sig_widthOfNode_81 : decode b_Sig_widthOfNode 81 = .ok (.invokevirtual 51, 3) := by decide +kernel
theorem d_Sig_widthOfNode_84 : decode b_Sig_widthOfNode 84 = .ok (.iconst 1, 1) := by decide +kernel
theorem d_Sig_widthOfNode_85 : decode b_Sig_widthOfNode 85 = .ok (.iadd, 1) := by decide +kernel
theorem d_Sig_widthOfNode_86 : decode b_Sig_widthOfNode 86 = .ok (.ireturn, 1) := by decide +kernel
theorem d_Sig_widthOfNode_87 : decode b_Sig_widthOfNode 87 = .ok (.iconst 1, 1) := by decide +kernel
theorem d_Sig_widthOfNode_88 : decode b_Sig_widthOfNode 88 = .ok (.ireturn, 1) := by decide +kernel
theorem d_Sig_widthOfNode_89 : decode b_Sig_widthOfNode 89 = .ok (.aload_n 0, 1) := by decide +kernel
theorem d_Sig_widthOfNode_90 : decode b_Sig_widthOfNode 90 = .ok (.getfield 15, 3) := by decide +kernel
theorem d_Sig_widthOfNode_93 : decode b_Sig_widthOfNode 93 = .ok (.iload_n 2, 1) := by decide +kernel
theorem d_Sig_widthOfNode_94 : decode b_Sig_widthOfNode 94 = .ok (.iaload, 1) := by decide +kernel
theorem d_Sig_widthOfNode_95 : decode b_Sig_widthOfNode 95 = .ok (.aload_n 0, 1) := by decide +kernel
theorem d_Sig_widthOfNode_96 : decode b_Sig_widthOfNode 96 = .ok (.getfield 15, 3) := by decide +kernel
theorem d_Sig_widthOfNode_99 : decode b_Sig_widthOfNode 99 = .ok (.iload_n 3, 1) := by decide +kernel
theorem d_Sig_widthOfNode_100 : decode b_Sig_widthOfNode 100 = .ok (.iaload, 1) := by decide +kernel
theorem d_Sig_widthOfNode_101 : decode b_Sig_widthOfNode 101 = .ok (.iadd, 1) := by decide +kernel
theorem d_Sig_widthOfNode_102 : decode b_Sig_widthOfNode 102 = .ok (.ireturn, 1) := by decide +kernel
theorem d_Sig_widthOfNode_103 : decode b_Sig_widthOfNode 103 = .ok (.aload_n 0, 1) := by decide +kernel
theorem d_Sig_widthOfNode_104 : decode b_Sig_widthOfNode 104 = .ok (.iload_n 2, 1) := by decide +kernel
theorem d_Sig_widthOfNode_105 : decode b_Sig_widthOfNode 105 = .ok (.iload_n 3, 1) := by decide +kernel
theorem d_Sig_widthOfNode_106 : decode b_Sig_widthOfNode 106 = .ok (.iload 4, 2) := by decide +kernel
theorem d_Sig_widthOfNode_108 : decode b_Sig_widthOfNode 108 = .ok (.invokevirtual 54, 3) := by decide +kernel
theorem d_Sig_widthOfNode_111 : decode b_Sig_widthOfNode 111 = .ok (.ifCond .eq 8, 3) := by decide +kernel
theorem d_Sig_widthOfNode_114 : decode b_Sig_widthOfNode 114 = .ok (.iload 4, 2) := by decide +kernel
theorem d_Sig_widthOfNode_116 : decode b_Sig_widthOfNode 116 = .ok (.goto 4, 3) := by decide +kernel
theorem d_Sig_widthOfNode_119 : decode b_Sig_widthOfNode 119 = .ok (.iconst 0, 1) := by decide +kernel
theorem d_Sig_widthOfNode_120 : decode b_Sig_widthOfNode 120 = .ok (.ireturn, 1) := by decide +kernel
theorem d_Sig_widthOfNode_121 : decode b_Sig_widthOfNode 121 = .ok (.aload_n 0, 1) := by decide +kernel
theorem d_Sig_widthOfNode_122 : decode b_Sig_widthOfNode 122 = .ok (.getfield 15, 3) := by decide +kernel
theorem d_Sig_widthOfNode_125 : decode b_Sig_widthOfNode 125 = .ok (.iload_n 2, 1) := by decide +kernel
theorem d_Sig_widthOfNode_126 : decode b_Sig_widthOfNode 126 = .ok (.iaload, 1) := by decide +kernel
theorem d_Sig_widthOfNode_127 : decode b_Sig_widthOfNode 127 = .ok (.iconst 1, 1) := by decide +kernel
theorem d_Sig_widthOfNode_128 : decode b_Sig_widthOfNode 128 = .ok (.if_icmp .ne 13, 3) := by decide +kernel
theorem d_Sig_widthOfNode_131 : decode b_Sig_widthOfNode 131 = .ok (.aload_n 0, 1) := by decide +kernel
theorem d_Sig_widthOfNode_132 : decode b_Sig_widthOfNode 132 = .ok (.iload_n 3, 1) := by decide +kernel
theorem d_Sig_widthOfNode_133 : decode b_Sig_widthOfNode 133 = .ok (.iload 4, 2) := by decide +kernel
theorem d_Sig_widthOfNode_135 : decode b_Sig_widthOfNode 135 = .ok (.invokevirtual 51, 3) := by decide +kernel
theorem d_Sig_widthOfNode_138 : decode b_Sig_widthOfNode 138 = .ok (.goto 4, 3) := by decide +kernel
theorem d_Sig_widthOfNode_141 : decode b_Sig_widthOfNode 141 = .ok (.iconst 0, 1) := by decide +kernel
theorem d_Sig_widthOfNode_142 : decode b_Sig_widthOfNode 142 = .ok (.ireturn, 1) := by decide +kernel
theorem d_Sig_widthOfNode_143 : decode b_Sig_widthOfNode 143 = .ok (.aload_n 0, 1) := by decide +kernel
theorem d_Sig_widthOfNode_144 : decode b_Sig_widthOfNode 144 = .ok (.iload_n 2, 1) := by decide +kernel
theorem d_Sig_widthOfNode_145 : decode b_Sig_widthOfNode 145 = .ok (.iload_n 3, 1) := by decide +kernel
theorem d_Sig_widthOfNode_146 : decode b_Sig_widthOfNode 146 = .ok (.invokevirtual 58, 3) := by decide +kernel
theorem d_Sig_widthOfNode_149 : decode b_Sig_widthOfNode 149 = .ok (.ifCond .eq 7, 3) := by decide +kernel
theorem d_Sig_widthOfNode_152 : decode b_Sig_widthOfNode 152 = .ok (.iload_n 3, 1) := by decide +kernel
theorem d_Sig_widthOfNode_153 : decode b_Sig_widthOfNode 153 = .ok (.goto 4, 3) := by decide +kernel
theorem d_Sig_widthOfNode_156 : decode b_Sig_widthOfNode 156 = .ok (.iconst 0, 1) := by decide +kernel
theorem d_Sig_widthOfNode_157 : decode b_Sig_widthOfNode 157 = .ok (.ireturn, 1) := by decide +kernel
theorem d_Sig_widthOfNode_158 : decode b_Sig_widthOfNode 158 = .ok (.iconst 0, 1) := by decide +kernel
theorem d_Sig_widthOfNode_159 : decode b_Sig_widthOfNode 159 = .ok (.ireturn, 1) := by decide +kernel
abbrev b_Sig_argumentsOf : ByteArray := prog_5_method_11_code
def y_Sig_argumentsOf : MethodName := ⟨"CircuitDesk$Signals", "argumentsOf", "(I)I"⟩
def w_Sig_argumentsOf : List Cond := .code y_Sig_argumentsOf b_Sig_argumentsOf 4 (some .int) :: lw_gw
theorem d_Sig_argumentsOf_0 : decode b_Sig_argumentsOf 0 = .ok (.getstatic 62, 3) := by decide +kernel
theorem d_Sig_argumentsOf_3 : decode b_Sig_argumentsOf 3 = .ok (.aload_n 0, 1) := by decide +kernel
theorem d_Sig_argumentsOf_4 : decode b_Sig_argumentsOf 4 = .ok (.getfield 21, 3) := by decide +kernel
theorem d_Sig_argumentsOf_7 : decode b_Sig_argumentsOf 7 = .ok (.iload_n 1, 1) := by decide +kernel
theorem d_Sig_argumentsOf_8 : decode b_Sig_argumentsOf 8 = .ok (.iaload, 1) := by decide +kernel
theorem d_Sig_argumentsOf_9 : decode b_Sig_argumentsOf 9 = .ok (.iaload, 1) := by decide +kernel
theorem d_Sig_argumentsOf_10 : decode b_Sig_argumentsOf 10 = .ok (.istore_n 2, 1) := by decide +kernel
theorem d_Sig_argumentsOf_11 : decode b_Sig_argumentsOf 11 = .ok (.iconst 0, 1) := by decide +kernel
theorem d_Sig_argumentsOf_12 : decode b_Sig_argumentsOf 12 = .ok (.istore_n 3, 1) := by decide +kernel
theorem d_Sig_argumentsOf_13 : decode b_Sig_argumentsOf 13 = .ok (.iload_n 2, 1) := by decide +kernel
theorem d_Sig_argumentsOf_14 : decode b_Sig_argumentsOf 14 = .ok (.iconst 1, 1) := by decide +kernel
theorem d_Sig_argumentsOf_15 : decode b_Sig_argumentsOf 15 = .ok (.if_icmp .lt 14, 3) := by decide +kernel
theorem d_Sig_argumentsOf_18 : decode b_Sig_argumentsOf 18 = .ok (.iload_n 3, 1) := by decide +kernel
theorem d_Sig_argumentsOf_19 : decode b_Sig_argumentsOf 19 = .ok (.iconst 1, 1) := by decide +kernel
theorem d_Sig_argumentsOf_20 : decode b_Sig_argumentsOf 20 = .ok (.aload_n 0, 1) := by decide +kernel
theorem d_Sig_argumentsOf_21 : decode b_Sig_argumentsOf 21 = .ok (.getfield 24, 3) := by decide +kernel
theorem d_Sig_argumentsOf_24 : decode b_Sig_argumentsOf 24 = .ok (.iload_n 1, 1) := by decide +kernel
theorem d_Sig_argumentsOf_25 : decode b_Sig_argumentsOf 25 = .ok (.iaload, 1) := by decide +kernel
theorem d_Sig_argumentsOf_26 : decode b_Sig_argumentsOf 26 = .ok (.ishl, 1) := by decide +kernel
theorem d_Sig_argumentsOf_27 : decode b_Sig_argumentsOf 27 = .ok (.ior, 1) := by decide +kernel
theorem d_Sig_argumentsOf_28 : decode b_Sig_argumentsOf 28 = .ok (.istore_n 3, 1) := by decide +kernel
theorem d_Sig_argumentsOf_29 : decode b_Sig_argumentsOf 29 = .ok (.iload_n 2, 1) := by decide +kernel
theorem d_Sig_argumentsOf_30 : decode b_Sig_argumentsOf 30 = .ok (.iconst 2, 1) := by decide +kernel
theorem d_Sig_argumentsOf_31 : decode b_Sig_argumentsOf 31 = .ok (.if_icmp .lt 14, 3) := by decide +kernel
theorem d_Sig_argumentsOf_34 : decode b_Sig_argumentsOf 34 = .ok (.iload_n 3, 1) := by decide +kernel
theorem d_Sig_argumentsOf_35 : decode b_Sig_argumentsOf 35 = .ok (.iconst 1, 1) := by decide +kernel
theorem d_Sig_argumentsOf_36 : decode b_Sig_argumentsOf 36 = .ok (.aload_n 0, 1) := by decide +kernel
theorem d_Sig_argumentsOf_37 : decode b_Sig_argumentsOf 37 = .ok (.getfield 27, 3) := by decide +kernel
theorem d_Sig_argumentsOf_40 : decode b_Sig_argumentsOf 40 = .ok (.iload_n 1, 1) := by decide +kernel
theorem d_Sig_argumentsOf_41 : decode b_Sig_argumentsOf 41 = .ok (.iaload, 1) := by decide +kernel
theorem d_Sig_argumentsOf_42 : decode b_Sig_argumentsOf 42 = .ok (.ishl, 1) := by decide +kernel
theorem d_Sig_argumentsOf_43 : decode b_Sig_argumentsOf 43 = .ok (.ior, 1) := by decide +kernel
theorem d_Sig_argumentsOf_44 : decode b_Sig_argumentsOf 44 = .ok (.istore_n 3, 1) := by decide +kernel
theorem d_Sig_argumentsOf_45 : decode b_Sig_argumentsOf 45 = .ok (.iload_n 2, 1) := by decide +kernel
theorem d_Sig_argumentsOf_46 : decode b_Sig_argumentsOf 46 = .ok (.iconst 3, 1) := by decide +kernel
theorem d_Sig_argumentsOf_47 : decode b_Sig_argumentsOf 47 = .ok (.if_icmp .lt 14, 3) := by decide +kernel
theorem d_Sig_argumentsOf_50 : decode b_Sig_argumentsOf 50 = .ok (.iload_n 3, 1) := by decide +kernel
theorem d_Sig_argumentsOf_51 : decode b_Sig_argumentsOf 51 = .ok (.iconst 1, 1) := by decide +kernel
theorem d_Sig_argumentsOf_52 : decode b_Sig_argumentsOf 52 = .ok (.aload_n 0, 1) := by decide +kernel
theorem d_Sig_argumentsOf_53 : decode b_Sig_argumentsOf 53 = .ok (.getfield 30, 3) := by decide +kernel
theorem d_Sig_argumentsOf_56 : decode b_Sig_argumentsOf 56 = .ok (.iload_n 1, 1) := by decide +kernel
theorem d_Sig_argumentsOf_57 : decode b_Sig_argumentsOf 57 = .ok (.iaload, 1) := by decide +kernel
theorem d_Sig_argumentsOf_58 : decode b_Sig_argumentsOf 58 = .ok (.ishl, 1) := by decide +kernel
theorem d_Sig_argumentsOf_59 : decode b_Sig_argumentsOf 59 = .ok (.ior, 1) := by decide +kernel
theorem d_Sig_argumentsOf_60 : decode b_Sig_argumentsOf 60 = .ok (.istore_n 3, 1) := by decide +kernel
theorem d_Sig_argumentsOf_61 : decode b_Sig_argumentsOf 61 = .ok (.iload_n 3, 1) := by decide +kernel
theorem d_Sig_argumentsOf_62 : decode b_Sig_argumentsOf 62 = .ok (.ireturn, 1) := by decide +kernel
set_option maxHeartbeats 4000000 in
set_option maxRecDepth 100000 in
theorem c_Sig_isPartOf (l : Launch) (dC : Nat → ClassId) (dI : Nat → Nat → Nat) (cI cZ : ClassId) (a_sig a_kind a_width a_rword a_sop a_sa a_sb a_sc : Nat) (tt sz : Nat) (n : Nat) (Wd : Nat → Nat) (X : Nat) (y : Int32) (z : Int32) (b_n : n ≤ 14) (b_Wd : ∀ j, Wd j < 9) (hX : X < 14) : Met l y_Sig_isPartOf w_Sig_isPartOf ({ frames := 0, cells := 0, slots := 0, locals := 0 }) (va_Pc [.ref a_sig, .int (nI X), .int y, .int z] (PW (dC, dI) classes [(cI, .int), (cZ, .boolean)] tt [(a_sig, .inr (1, [.ref a_kind, .ref a_width, .ref a_rword, .ref a_sop, .ref a_sa, .ref a_sb, .ref a_sc, .int (nI n)])), (a_width, .inl (cI, 14, .inl (nF Wd)))] sz)) (va_Qi (fun (r : Int32) (u : Unit) => (r = nI (if 0 ≤ y.toInt ∧ 1 ≤ z.toInt ∧ y.toInt ≤ 8 ∧ z.toInt ≤ 8 ∧ y.toInt + z.toInt ≤ Wd X then 1 else 0))) (AT (dC, dI) classes [(cI, .int), (cZ, .boolean)] (va_A [(a_sig, .inr (1, [.ref a_kind, .ref a_width, .ref a_rword, .ref a_sop, .ref a_sa, .ref a_sb, .ref a_sc, .int (nI n)])), (a_width, .inl (cI, 14, .inl (nF Wd)))] sz) (fun (u : Unit) => [(a_sig, .inr (1, [.ref a_kind, .ref a_width, .ref a_rword, .ref a_sop, .ref a_sa, .ref a_sb, .ref a_sc, .int (nI n)])), (a_width, .inl (cI, 14, .inl (nF Wd)))])) (va_A [(a_sig, .inr (1, [.ref a_kind, .ref a_width, .ref a_rword, .ref a_sop, .ref a_sa, .ref a_sb, .ref a_sc, .int (nI n)])), (a_width, .inl (cI, 14, .inl (nF Wd)))] sz)) 0 0 (va_A [(a_sig, .inr (1, [.ref a_kind, .ref a_width, .ref a_rword, .ref a_sop, .ref a_sa, .ref a_sb, .ref a_sc, .int (nI n)])), (a_width, .inl (cI, 14, .inl (nF Wd)))] sz) := by
  refine Met.ofW (cc := b_Sig_isPartOf) (maxL := 4) (ret := (some .boolean)) (by decide) rfl ?_
  intro p e s m args below meth c s₁ B hml hv
  obtain ⟨rfl, hsz, hP, hK, hD0, hE⟩ := hv
  have hx := B.exec
  have hb := B.bytes
  have hr := B.returns
  have hts := atoms_spec (ws := w_Sig_isPartOf) B.pre
  have hown : s.vm.findClass R_Sig = some m.cls := findClass_of_methodNamed B.named
  have hlocks := B.notSynchronized
  subst hsz
  have hD := hD0.self (sz := s.heap.size)
  generalize hAe : va_A [(a_sig, .inr (1, [.ref a_kind, .ref a_width, .ref a_rword, .ref a_sop, .ref a_sa, .ref a_sb, .ref a_sc, .int (nI n)])), (a_width, .inl (cI, 14, .inl (nF Wd)))] s.heap.size = A at hD hE ⊢
  have hA : ∀ q : Nat, s.heap.size ≤ q → A q := fun q h => by rw [← hAe]; exact Or.inr h
  have hS : va_S A s.heap s.heap [] := va_S.rf
  have hP : va_P (dC, dI) classes [(a_sig, .inr (1, [.ref a_kind, .ref a_width, .ref a_rword, .ref a_sop, .ref a_sa, .ref a_sb, .ref a_sc, .int (nI n)])), (a_width, .inl (cI, 14, .inl (nF Wd)))] s.heap := hP
  have hl := lv_entry ([.ref a_sig, .int (nI X), .int y, .int z]) (n := 4) (Nat.le_of_ble_eq_true rfl)
  rw [lg_entry_eq]
  generalize (lg_sl ([.ref a_sig, .int (nI X), .int y, .int z]) ++ List.replicate (4 - (lg_sl ([.ref a_sig, .int (nI X), .int y, .int z])).length) Slot.unset).toArray = ls at hl ⊢
  have hl : lv_has ls 4 [(0, .ref a_sig), (1, .int (nI X)), (2, .int y), (3, .int z)] := hl
  refine lv_iload_n hx hb d_Sig_isPartOf_0 rfl (lv_at hl 2 rfl) ?_
  refine lv_if_lt (tgt := 37) hx hb d_Sig_isPartOf_1 (by decide) (fun c1 => ?_) (fun c1 => ?_)
  · skip
    have c1 : y.toInt < 0 := (ri_lt rfl rfl).mp c1
    refine lv_iconst (v := nI 0) hx hb d_Sig_isPartOf_37 rfl ?_
    exact W.zret (v := nI 0) (ty := .boolean) hx hb hr (k_narZ (by omega)) (fun t ht hW => ⟨⟨nI 0, (), rfl, (by first | rw [if_pos (by omega)] | rw [if_neg (by omega)] | (rw [if_neg]; have := b_Wd X; omega)), by rw [ht]; exact hP, va_K.moved hW.alike hK, hD⟩, hS.F ht⟩) hS.2.2 d_Sig_isPartOf_38
  · skip
    have c1 : ¬ (y.toInt < 0) := fun h => c1 ((ri_lt rfl rfl).mpr h)
    refine lv_iload_n hx hb d_Sig_isPartOf_4 rfl (lv_at hl 2 rfl) ?_
    refine lv_bipush (v := nI 8) hx hb d_Sig_isPartOf_5 rfl ?_
    refine lv_icmp_ge (tgt := 37) hx hb d_Sig_isPartOf_7 (by decide) (fun c7 => ?_) (fun c7 => ?_)
    · skip
      have c7 : ((8 : Nat) : Int) ≤ y.toInt := (ri_le (nI_toInt (show _ < 2 ^ 31 by omega)) rfl).mp c7
      refine lv_iconst (v := nI 0) hx hb d_Sig_isPartOf_37 rfl ?_
      exact W.zret (v := nI 0) (ty := .boolean) hx hb hr (k_narZ (by omega)) (fun t ht hW => ⟨⟨nI 0, (), rfl, (by first | rw [if_pos (by omega)] | rw [if_neg (by omega)] | (rw [if_neg]; have := b_Wd X; omega)), by rw [ht]; exact hP, va_K.moved hW.alike hK, hD⟩, hS.F ht⟩) hS.2.2 d_Sig_isPartOf_38
    · skip
      have c7 : ¬ (((8 : Nat) : Int) ≤ y.toInt) := fun h => c7 ((ri_le (nI_toInt (show _ < 2 ^ 31 by omega)) rfl).mpr h)
      refine lv_iload_n hx hb d_Sig_isPartOf_10 rfl (lv_at hl 3 rfl) ?_
      refine lv_iconst (v := nI 1) hx hb d_Sig_isPartOf_11 rfl ?_
      refine lv_icmp_lt (tgt := 37) hx hb d_Sig_isPartOf_12 (by decide) (fun c12 => ?_) (fun c12 => ?_)
      · skip
        have c12 : z.toInt < ((1 : Nat) : Int) := (ri_lt rfl (nI_toInt (show _ < 2 ^ 31 by omega))).mp c12
        refine lv_iconst (v := nI 0) hx hb d_Sig_isPartOf_37 rfl ?_
        exact W.zret (v := nI 0) (ty := .boolean) hx hb hr (k_narZ (by omega)) (fun t ht hW => ⟨⟨nI 0, (), rfl, (by first | rw [if_pos (by omega)] | rw [if_neg (by omega)] | (rw [if_neg]; have := b_Wd X; omega)), by rw [ht]; exact hP, va_K.moved hW.alike hK, hD⟩, hS.F ht⟩) hS.2.2 d_Sig_isPartOf_38
      · skip
        have c12 : ¬ (z.toInt < ((1 : Nat) : Int)) := fun h => c12 ((ri_lt rfl (nI_toInt (show _ < 2 ^ 31 by omega))).mpr h)
        refine lv_iload_n hx hb d_Sig_isPartOf_15 rfl (lv_at hl 3 rfl) ?_
        refine lv_bipush (v := nI 8) hx hb d_Sig_isPartOf_16 rfl ?_
        refine lv_icmp_gt (tgt := 37) hx hb d_Sig_isPartOf_18 (by decide) (fun c18 => ?_) (fun c18 => ?_)
        · skip
          have c18 : ((8 : Nat) : Int) < z.toInt := (ri_lt (nI_toInt (show _ < 2 ^ 31 by omega)) rfl).mp c18
          refine lv_iconst (v := nI 0) hx hb d_Sig_isPartOf_37 rfl ?_
          exact W.zret (v := nI 0) (ty := .boolean) hx hb hr (k_narZ (by omega)) (fun t ht hW => ⟨⟨nI 0, (), rfl, (by first | rw [if_pos (by omega)] | rw [if_neg (by omega)] | (rw [if_neg]; have := b_Wd X; omega)), by rw [ht]; exact hP, va_K.moved hW.alike hK, hD⟩, hS.F ht⟩) hS.2.2 d_Sig_isPartOf_38
        · skip
          have c18 : ¬ (((8 : Nat) : Int) < z.toInt) := fun h => c18 ((ri_lt (nI_toInt (show _ < 2 ^ 31 by omega)) rfl).mpr h)
          obtain ⟨Y, rfl, hY, hYb⟩ := raw_nat (x := y) (by omega)
          obtain ⟨Z, rfl, hZ, hZb⟩ := raw_nat (x := z) (by omega)
          refine lv_iload_n hx hb d_Sig_isPartOf_21 rfl (lv_at hl 2 rfl) ?_
          refine lv_iload_n hx hb d_Sig_isPartOf_22 rfl (lv_at hl 3 rfl) ?_
          refine lv_iadd hx hb d_Sig_isPartOf_23 ?_
          refine k_top (nI_add _ _) ?_
          refine lv_aload_n hx hb d_Sig_isPartOf_24 rfl (lv_at hl 0 rfl) ?_
          refine va_get (D := (dC, dI)) (ci := 1) (v := .ref a_width) (C := R_Sig) (T := F_Sig) (N := 8) hx hb hts (wi i_Sig) hown hK hP 0 rfl rfl 1 (by decide) (hts _ (mt 69 rfl rfl)) (fun _ h9 => h9) rfl d_Sig_isPartOf_25 ?_
          refine lv_iload_n hx hb d_Sig_isPartOf_28 rfl (lv_at hl 1 rfl) ?_
          refine k_ild hx hb hK hP 1 0 rfl rfl (by omega) (by decide) d_Sig_isPartOf_29 ?_
          have hb_1 := b_Wd X
          refine lv_icmp_gt (tgt := 37) hx hb d_Sig_isPartOf_30 (by decide) (fun c30 => ?_) (fun c30 => ?_)
          · skip
            have c30 : (Wd X) < (Y + Z) := (nI_ltI (by omega) (by omega)).mp c30
            refine lv_iconst (v := nI 0) hx hb d_Sig_isPartOf_37 rfl ?_
            exact W.zret (v := nI 0) (ty := .boolean) hx hb hr (k_narZ (by omega)) (fun t ht hW => ⟨⟨nI 0, (), rfl, (by first | rw [if_pos (by omega)] | rw [if_neg (by omega)] | (rw [if_neg]; have := b_Wd X; omega)), by rw [ht]; exact hP, va_K.moved hW.alike hK, hD⟩, hS.F ht⟩) hS.2.2 d_Sig_isPartOf_38
          · skip
            have c30 : ¬ ((Wd X) < (Y + Z)) := fun h => c30 ((nI_ltI (by omega) (by omega)).mpr h)
            refine lv_iconst (v := nI 1) hx hb d_Sig_isPartOf_33 rfl ?_
            refine lv_goto (tgt := 38) hx hb d_Sig_isPartOf_34 (by decide) ?_
            exact W.zret (v := nI 1) (ty := .boolean) hx hb hr (k_narZ (by omega)) (fun t ht hW => ⟨⟨nI 1, (), rfl, (by first | rw [if_pos (by omega)] | rw [if_neg (by omega)] | (rw [if_neg]; have := b_Wd X; omega)), by rw [ht]; exact hP, va_K.moved hW.alike hK, hD⟩, hS.F ht⟩) hS.2.2 d_Sig_isPartOf_38
set_option maxHeartbeats 4000000 in
set_option maxRecDepth 100000 in
theorem c_Sig_isConstant (l : Launch) (dC : Nat → ClassId) (dI : Nat → Nat → Nat) (cI cZ : ClassId) (a_sig a_kind a_width a_rword a_sop a_sa a_sb a_sc : Nat) (tt sz : Nat) (n : Nat) (x : Int32) (y : Int32) (b_n : n ≤ 14) : Met l y_Sig_isConstant w_Sig_isConstant ({ frames := 1, cells := 0, slots := 0, locals := 20 }) (va_Pc [.ref a_sig, .int x, .int y] (PW (dC, dI) classes [(cI, .int), (cZ, .boolean)] tt [(a_sig, .inr (1, [.ref a_kind, .ref a_width, .ref a_rword, .ref a_sop, .ref a_sa, .ref a_sb, .ref a_sc, .int (nI n)]))] sz)) (va_Qi (fun (r : Int32) (u : Unit) => (r = nI (if 1 ≤ y.toInt ∧ y.toInt ≤ 8 ∧ 0 ≤ x.toInt ∧ x.toInt < ((2 ^ ix y : Nat) : Int) then 1 else 0))) (AT (dC, dI) classes [(cI, .int), (cZ, .boolean)] (va_A [(a_sig, .inr (1, [.ref a_kind, .ref a_width, .ref a_rword, .ref a_sop, .ref a_sa, .ref a_sb, .ref a_sc, .int (nI n)]))] sz) (fun (u : Unit) => [(a_sig, .inr (1, [.ref a_kind, .ref a_width, .ref a_rword, .ref a_sop, .ref a_sa, .ref a_sb, .ref a_sc, .int (nI n)]))])) (va_A [(a_sig, .inr (1, [.ref a_kind, .ref a_width, .ref a_rword, .ref a_sop, .ref a_sa, .ref a_sb, .ref a_sc, .int (nI n)]))] sz)) 0 0 (va_A [(a_sig, .inr (1, [.ref a_kind, .ref a_width, .ref a_rword, .ref a_sop, .ref a_sa, .ref a_sb, .ref a_sc, .int (nI n)]))] sz) := by
  refine Met.ofW (cc := b_Sig_isConstant) (maxL := 3) (ret := (some .boolean)) (by decide) rfl ?_
  intro p e s m args below meth c s₁ B hml hv
  obtain ⟨rfl, hsz, hP, hK, hD0, hE⟩ := hv
  have hx := B.exec
  have hb := B.bytes
  have hr := B.returns
  have hts := atoms_spec (ws := w_Sig_isConstant) B.pre
  have hown : s.vm.findClass R_Sig = some m.cls := findClass_of_methodNamed B.named
  have hlocks := B.notSynchronized
  subst hsz
  have hD := hD0.self (sz := s.heap.size)
  generalize hAe : va_A [(a_sig, .inr (1, [.ref a_kind, .ref a_width, .ref a_rword, .ref a_sop, .ref a_sa, .ref a_sb, .ref a_sc, .int (nI n)]))] s.heap.size = A at hD hE ⊢
  have hA : ∀ q : Nat, s.heap.size ≤ q → A q := fun q h => by rw [← hAe]; exact Or.inr h
  have hS : va_S A s.heap s.heap [] := va_S.rf
  have hP : va_P (dC, dI) classes [(a_sig, .inr (1, [.ref a_kind, .ref a_width, .ref a_rword, .ref a_sop, .ref a_sa, .ref a_sb, .ref a_sc, .int (nI n)]))] s.heap := hP
  have hl := lv_entry ([.ref a_sig, .int x, .int y]) (n := 3) (Nat.le_of_ble_eq_true rfl)
  rw [lg_entry_eq]
  generalize (lg_sl ([.ref a_sig, .int x, .int y]) ++ List.replicate (3 - (lg_sl ([.ref a_sig, .int x, .int y])).length) Slot.unset).toArray = ls at hl ⊢
  have hl : lv_has ls 3 [(0, .ref a_sig), (1, .int x), (2, .int y)] := hl
  refine lv_iload_n hx hb d_Sig_isConstant_0 rfl (lv_at hl 2 rfl) ?_
  refine lv_iconst (v := nI 1) hx hb d_Sig_isConstant_1 rfl ?_
  refine lv_icmp_lt (tgt := 27) hx hb d_Sig_isConstant_2 (by decide) (fun c2 => ?_) (fun c2 => ?_)
  · skip
    have c2 : y.toInt < ((1 : Nat) : Int) := (ri_lt rfl (nI_toInt (show _ < 2 ^ 31 by omega))).mp c2
    refine lv_iconst (v := nI 0) hx hb d_Sig_isConstant_27 rfl ?_
    exact W.zret (v := nI 0) (ty := .boolean) hx hb hr (k_narZ (by omega)) (fun t ht hW => ⟨⟨nI 0, (), rfl, (by rw [if_neg (by omega)]), by rw [ht]; exact hP, va_K.moved hW.alike hK, hD⟩, hS.F ht⟩) hS.2.2 d_Sig_isConstant_28
  · skip
    have c2 : ¬ (y.toInt < ((1 : Nat) : Int)) := fun h => c2 ((ri_lt rfl (nI_toInt (show _ < 2 ^ 31 by omega))).mpr h)
    refine lv_iload_n hx hb d_Sig_isConstant_5 rfl (lv_at hl 2 rfl) ?_
    refine lv_bipush (v := nI 8) hx hb d_Sig_isConstant_6 rfl ?_
    refine lv_icmp_gt (tgt := 27) hx hb d_Sig_isConstant_8 (by decide) (fun c8 => ?_) (fun c8 => ?_)
    · skip
      have c8 : ((8 : Nat) : Int) < y.toInt := (ri_lt (nI_toInt (show _ < 2 ^ 31 by omega)) rfl).mp c8
      refine lv_iconst (v := nI 0) hx hb d_Sig_isConstant_27 rfl ?_
      exact W.zret (v := nI 0) (ty := .boolean) hx hb hr (k_narZ (by omega)) (fun t ht hW => ⟨⟨nI 0, (), rfl, (by rw [if_neg (by omega)]), by rw [ht]; exact hP, va_K.moved hW.alike hK, hD⟩, hS.F ht⟩) hS.2.2 d_Sig_isConstant_28
    · skip
      have c8 : ¬ (((8 : Nat) : Int) < y.toInt) := fun h => c8 ((ri_lt (nI_toInt (show _ < 2 ^ 31 by omega)) rfl).mpr h)
      refine lv_iload_n hx hb d_Sig_isConstant_11 rfl (lv_at hl 1 rfl) ?_
      refine lv_if_lt (tgt := 27) hx hb d_Sig_isConstant_12 (by decide) (fun c12 => ?_) (fun c12 => ?_)
      · skip
        have c12 : x.toInt < 0 := (ri_lt rfl rfl).mp c12
        refine lv_iconst (v := nI 0) hx hb d_Sig_isConstant_27 rfl ?_
        exact W.zret (v := nI 0) (ty := .boolean) hx hb hr (k_narZ (by omega)) (fun t ht hW => ⟨⟨nI 0, (), rfl, (by rw [if_neg (by omega)]), by rw [ht]; exact hP, va_K.moved hW.alike hK, hD⟩, hS.F ht⟩) hS.2.2 d_Sig_isConstant_28
      · skip
        have c12 : ¬ (x.toInt < 0) := fun h => c12 ((ri_lt rfl rfl).mpr h)
        obtain ⟨Y, rfl, hY, hYb⟩ := raw_nat (x := y) (by omega)
        have hp := pow8 (n := Y) (by omega)
        have hpos := Nat.two_pow_pos Y
        refine lv_iload_n hx hb d_Sig_isConstant_15 rfl (lv_at hl 1 rfl) ?_
        refine lv_iload_n hx hb d_Sig_isConstant_16 rfl (lv_at hl 2 rfl) ?_
        refine k_i (wr := [(a_sig, .inr (1, [.ref a_kind, .ref a_width, .ref a_rword, .ref a_sop, .ref a_sa, .ref a_sb, .ref a_sc, .int (nI n)]))]) (w2 := fun (u : Unit) => [(a_sig, .inr (1, [.ref a_kind, .ref a_width, .ref a_rword, .ref a_sop, .ref a_sa, .ref a_sb, .ref a_sc, .int (nI n)]))]) (va_runSN (As := [.int (nI Y)]) (rest := [.int x]) ⟨hx, hb, hml, hown, hts⟩ (c_Desk_maskOf l dC dI cI cZ  tt s.heap.size  Y (by omega)) ⟨va_cnB (host := "CircuitDesk") 1 hts (gd_N in_tl (mw 280 rfl rfl)) rfl rfl rfl hE.1 (hts _ (mt 41 rfl rfl)) (by decide +kernel) ⟨Nat.le_of_ble_eq_true rfl, Nat.le_of_ble_eq_true rfl⟩, hts _ (mt 279 rfl rfl), trivial⟩ (k_preS hK hP hD hS hA hE [] (by decide) rfl) rfl rfl hl.1 rfl (lv_room (Nat.le_of_ble_eq_true rfl)) d_Sig_isConstant_17 ⟨Nat.zero_le _, Nat.zero_le _⟩) hP hD hS hA [] [0] [0] rfl rfl (by decide) (by decide) (by decide) (fun _ => rfl) (fun r_1 u H locs hw hP hD hS => ?_)
        obtain rfl : (r_1 = nI (2 ^ Y - 1)) := hw
        have hP : va_P (dC, dI) classes [(a_sig, .inr (1, [.ref a_kind, .ref a_width, .ref a_rword, .ref a_sop, .ref a_sa, .ref a_sb, .ref a_sc, .int (nI n)]))] H := hP
        have hD : va_D A [(a_sig, .inr (1, [.ref a_kind, .ref a_width, .ref a_rword, .ref a_sop, .ref a_sa, .ref a_sb, .ref a_sc, .int (nI n)]))] := hD
        refine lv_icmp_gt (tgt := 27) hx hb d_Sig_isConstant_20 (by decide) (fun c20 => ?_) (fun c20 => ?_)
        · skip
          have c20 : ((2 ^ Y - 1 : Nat) : Int) < x.toInt := (ri_lt (nI_toInt (show _ < 2 ^ 31 by omega)) rfl).mp c20
          refine lv_iconst (v := nI 0) hx hb d_Sig_isConstant_27 rfl ?_
          exact W.zret (v := nI 0) (ty := .boolean) hx hb hr (k_narZ (by omega)) (fun t ht hW => ⟨⟨nI 0, (), rfl, (by rw [ix_nI hYb, if_neg (by omega)]), by rw [ht]; exact hP, va_K.moved hW.alike hK, hD⟩, hS.F ht⟩) hS.2.2 d_Sig_isConstant_28
        · skip
          have c20 : ¬ (((2 ^ Y - 1 : Nat) : Int) < x.toInt) := fun h => c20 ((ri_lt (nI_toInt (show _ < 2 ^ 31 by omega)) rfl).mpr h)
          refine lv_iconst (v := nI 1) hx hb d_Sig_isConstant_23 rfl ?_
          refine lv_goto (tgt := 28) hx hb d_Sig_isConstant_24 (by decide) ?_
          exact W.zret (v := nI 1) (ty := .boolean) hx hb hr (k_narZ (by omega)) (fun t ht hW => ⟨⟨nI 1, (), rfl, (by rw [ix_nI hYb, if_pos (by omega)]), by rw [ht]; exact hP, va_K.moved hW.alike hK, hD⟩, hS.F ht⟩) hS.2.2 d_Sig_isConstant_28
set_option maxHeartbeats 4000000 in
set_option maxRecDepth 100000 in
theorem c_Sig_widthOfNode (l : Launch) (dC : Nat → ClassId) (dI : Nat → Nat → Nat) (cI cZ : ClassId) (a_sig a_kind a_width a_rword a_sop a_sa a_sb a_sc : Nat) (tt sz : Nat) (n : Nat) (Wd : Nat → Nat) (o : Nat) (x : Int32) (y : Int32) (z : Int32) (b_n : n ≤ 14) (b_Wd : ∀ j, Wd j < 9) (ho : o < 12) (hx1 : 1 ≤ tab o → hs n x = 1) (hy1 : 2 ≤ tab o → hs n y = 1) (hz1 : 3 ≤ tab o → hs n z = 1) : Met l y_Sig_widthOfNode w_Sig_widthOfNode ({ frames := 2, cells := 0, slots := 0, locals := 43 }) (va_Pc [.ref a_sig, .int (nI o), .int x, .int y, .int z] (PW (dC, dI) classes [(cI, .int), (cZ, .boolean)] tt [(a_sig, .inr (1, [.ref a_kind, .ref a_width, .ref a_rword, .ref a_sop, .ref a_sa, .ref a_sb, .ref a_sc, .int (nI n)])), (a_width, .inl (cI, 14, .inl (nF Wd)))] sz)) (va_Qi (fun (r : Int32) (u : Unit) => (r = nI (wdo Wd o x y z))) (AT (dC, dI) classes [(cI, .int), (cZ, .boolean)] (va_A [(a_sig, .inr (1, [.ref a_kind, .ref a_width, .ref a_rword, .ref a_sop, .ref a_sa, .ref a_sb, .ref a_sc, .int (nI n)])), (a_width, .inl (cI, 14, .inl (nF Wd)))] sz) (fun (u : Unit) => [(a_sig, .inr (1, [.ref a_kind, .ref a_width, .ref a_rword, .ref a_sop, .ref a_sa, .ref a_sb, .ref a_sc, .int (nI n)])), (a_width, .inl (cI, 14, .inl (nF Wd)))])) (va_A [(a_sig, .inr (1, [.ref a_kind, .ref a_width, .ref a_rword, .ref a_sop, .ref a_sa, .ref a_sb, .ref a_sc, .int (nI n)])), (a_width, .inl (cI, 14, .inl (nF Wd)))] sz)) 0 0 (va_A [(a_sig, .inr (1, [.ref a_kind, .ref a_width, .ref a_rword, .ref a_sop, .ref a_sa, .ref a_sb, .ref a_sc, .int (nI n)])), (a_width, .inl (cI, 14, .inl (nF Wd)))] sz) := by
  refine Met.ofW (cc := b_Sig_widthOfNode) (maxL := 5) (ret := (some .int)) (by decide) rfl ?_
  intro p e s m args below meth c s₁ B hml hv
  obtain ⟨rfl, hsz, hP, hK, hD0, hE⟩ := hv
  have hx := B.exec
  have hb := B.bytes
  have hr := B.returns
  have hts := atoms_spec (ws := w_Sig_widthOfNode) B.pre
  have hown : s.vm.findClass R_Sig = some m.cls := findClass_of_methodNamed B.named
  have hlocks := B.notSynchronized
  subst hsz
  have hD := hD0.self (sz := s.heap.size)
  generalize hAe : va_A [(a_sig, .inr (1, [.ref a_kind, .ref a_width, .ref a_rword, .ref a_sop, .ref a_sa, .ref a_sb, .ref a_sc, .int (nI n)])), (a_width, .inl (cI, 14, .inl (nF Wd)))] s.heap.size = A at hD hE ⊢
  have hA : ∀ q : Nat, s.heap.size ≤ q → A q := fun q h => by rw [← hAe]; exact Or.inr h
  have hS : va_S A s.heap s.heap [] := va_S.rf
  have hP : va_P (dC, dI) classes [(a_sig, .inr (1, [.ref a_kind, .ref a_width, .ref a_rword, .ref a_sop, .ref a_sa, .ref a_sb, .ref a_sc, .int (nI n)])), (a_width, .inl (cI, 14, .inl (nF Wd)))] s.heap := hP
  have hl := lv_entry ([.ref a_sig, .int (nI o), .int x, .int y, .int z]) (n := 5) (Nat.le_of_ble_eq_true rfl)
  rw [lg_entry_eq]
  generalize (lg_sl ([.ref a_sig, .int (nI o), .int x, .int y, .int z]) ++ List.replicate (5 - (lg_sl ([.ref a_sig, .int (nI o), .int x, .int y, .int z])).length) Slot.unset).toArray = ls at hl ⊢
  have hl : lv_has ls 5 [(0, .ref a_sig), (1, .int (nI o)), (2, .int x), (3, .int y), (4, .int z)] := hl
  refine lv_iload_n hx hb d_Sig_widthOfNode_0 rfl (lv_at hl 1 rfl) ?_
  rcases (show o = 0 ∨ o = 1 ∨ o = 2 ∨ o = 3 ∨ o = 4 ∨ o = 5 ∨ o = 6 ∨ o = 7 ∨ o = 8 ∨ o = 9 ∨ o = 10 ∨ o = 11 ∨ 11 < o by omega) with e1 | e1 | e1 | e1 | e1 | e1 | e1 | e1 | e1 | e1 | e1 | e1 | e1
  · skip
    refine k_tabIn (k := 0) (tgt := 64) hx hb d_Sig_widthOfNode_1 e1 (by decide) (by decide) rfl (by decide) ?_
    obtain ⟨X, rfl, hXn, hXb⟩ := hs_of (n := n) (x := x) (by rw [hx1 (by rw [e1]; decide)]; decide)
    refine lv_aload_n hx hb d_Sig_widthOfNode_64 rfl (lv_at hl 0 rfl) ?_
    refine va_get (D := (dC, dI)) (ci := 1) (v := .ref a_width) (C := R_Sig) (T := F_Sig) (N := 8) hx hb hts (wi i_Sig) hown hK hP 0 rfl rfl 1 (by decide) (hts _ (mt 69 rfl rfl)) (fun _ h9 => h9) rfl d_Sig_widthOfNode_65 ?_
    refine lv_iload_n hx hb d_Sig_widthOfNode_68 rfl (lv_at hl 2 rfl) ?_
    refine k_ild hx hb hK hP 1 0 rfl rfl (by omega) (by decide) d_Sig_widthOfNode_69 ?_
    have hb_1 := b_Wd X
    exact W.iret (v := nI (Wd X)) hx hb hr (fun t ht hW => ⟨⟨nI (Wd X), (), rfl, (by rw [e1]; show _ = nI (Wd (ix (nI X))); rw [ix_nI hXb]), by rw [ht]; exact hP, va_K.moved hW.alike hK, hD⟩, hS.F ht⟩) hS.2.2 d_Sig_widthOfNode_70
  · skip
    refine k_tabIn (k := 1) (tgt := 71) hx hb d_Sig_widthOfNode_1 e1 (by decide) (by decide) rfl (by decide) ?_
    obtain ⟨X, rfl, hXn, hXb⟩ := hs_of (n := n) (x := x) (by rw [hx1 (by rw [e1]; decide)]; decide)
    obtain ⟨Y, rfl, hYn, hYb⟩ := hs_of (n := n) (x := y) (by rw [hy1 (by rw [e1]; decide)]; decide)
    refine lv_aload_n hx hb d_Sig_widthOfNode_71 rfl (lv_at hl 0 rfl) ?_
    refine lv_iload_n hx hb d_Sig_widthOfNode_72 rfl (lv_at hl 2 rfl) ?_
    refine lv_iload_n hx hb d_Sig_widthOfNode_73 rfl (lv_at hl 3 rfl) ?_
    refine k_i (wr := []) (w2 := fun (u : Unit) => [(a_sig, .inr (1, [.ref a_kind, .ref a_width, .ref a_rword, .ref a_sop, .ref a_sa, .ref a_sb, .ref a_sc, .int (nI n)])), (a_width, .inl (cI, 14, .inl (nF Wd)))]) (va_runV (As := [.int (nI X), .int (nI Y)]) (rest := []) ⟨hx, hb, hml, hown, hts⟩ (c_Sig_wider l dC dI cI cZ a_sig a_kind a_width a_rword a_sop a_sa a_sb a_sc tt s.heap.size n Wd X Y (by omega) b_Wd (by omega) (by omega)) (cwV 2 hts (gd_V in_tl (mw 299 rfl rfl) (mw 300 rfl rfl) (mw 301 rfl rfl) (mw 42 rfl rfl) (mw 302 rfl rfl)) rfl rfl rfl (by decide +kernel) ⟨Nat.le_of_ble_eq_true rfl, Nat.le_of_ble_eq_true rfl⟩) (k_preV hK hP hD hS hA hE [0, 1] (by decide) rfl 1 0 rfl rfl) rfl rfl hl.1 rfl (lv_room (Nat.le_of_ble_eq_true rfl)) d_Sig_widthOfNode_74 ⟨Nat.zero_le _, Nat.zero_le _⟩) hP hD hS hA [0, 1] [] [0, 1] rfl rfl (by decide) (by decide) (by decide) (fun _ => rfl) (fun r_2 u H locs hw hP hD hS => ?_)
    obtain rfl : (r_2 = nI (max (Wd X) (Wd Y))) := hw
    have hP : va_P (dC, dI) classes [(a_sig, .inr (1, [.ref a_kind, .ref a_width, .ref a_rword, .ref a_sop, .ref a_sa, .ref a_sb, .ref a_sc, .int (nI n)])), (a_width, .inl (cI, 14, .inl (nF Wd)))] H := hP
    have hD : va_D A [(a_sig, .inr (1, [.ref a_kind, .ref a_width, .ref a_rword, .ref a_sop, .ref a_sa, .ref a_sb, .ref a_sc, .int (nI n)])), (a_width, .inl (cI, 14, .inl (nF Wd)))] := hD
    exact W.iret (v := nI (max (Wd X) (Wd Y))) hx hb hr (fun t ht hW => ⟨⟨nI (max (Wd X) (Wd Y)), (), rfl, (by rw [e1]; show _ = nI (max (Wd (ix (nI X))) (Wd (ix (nI Y)))); rw [ix_nI hXb, ix_nI hYb]), by rw [ht]; exact hP, va_K.moved hW.alike hK, hD⟩, hS.F ht⟩) hS.2.2 d_Sig_widthOfNode_77
  · skip
    refine k_tabIn (k := 2) (tgt := 71) hx hb d_Sig_widthOfNode_1 e1 (by decide) (by decide) rfl (by decide) ?_
    obtain ⟨X, rfl, hXn, hXb⟩ := hs_of (n := n) (x := x) (by rw [hx1 (by rw [e1]; decide)]; decide)
    obtain ⟨Y, rfl, hYn, hYb⟩ := hs_of (n := n) (x := y) (by rw [hy1 (by rw [e1]; decide)]; decide)
    refine lv_aload_n hx hb d_Sig_widthOfNode_71 rfl (lv_at hl 0 rfl) ?_
    refine lv_iload_n hx hb d_Sig_widthOfNode_72 rfl (lv_at hl 2 rfl) ?_
    refine lv_iload_n hx hb d_Sig_widthOfNode_73 rfl (lv_at hl 3 rfl) ?_
    refine k_i (wr := []) (w2 := fun (u : Unit) => [(a_sig, .inr (1, [.ref a_kind, .ref a_width, .ref a_rword, .ref a_sop, .ref a_sa, .ref a_sb, .ref a_sc, .int (nI n)])), (a_width, .inl (cI, 14, .inl (nF Wd)))]) (va_runV (As := [.int (nI X), .int (nI Y)]) (rest := []) ⟨hx, hb, hml, hown, hts⟩ (c_Sig_wider l dC dI cI cZ a_sig a_kind a_width a_rword a_sop a_sa a_sb a_sc tt s.heap.size n Wd X Y (by omega) b_Wd (by omega) (by omega)) (cwV 2 hts (gd_V in_tl (mw 299 rfl rfl) (mw 300 rfl rfl) (mw 301 rfl rfl) (mw 42 rfl rfl) (mw 302 rfl rfl)) rfl rfl rfl (by decide +kernel) ⟨Nat.le_of_ble_eq_true rfl, Nat.le_of_ble_eq_true rfl⟩) (k_preV hK hP hD hS hA hE [0, 1] (by decide) rfl 1 0 rfl rfl) rfl rfl hl.1 rfl (lv_room (Nat.le_of_ble_eq_true rfl)) d_Sig_widthOfNode_74 ⟨Nat.zero_le _, Nat.zero_le _⟩) hP hD hS hA [0, 1] [] [0, 1] rfl rfl (by decide) (by decide) (by decide) (fun _ => rfl) (fun r_3 u H locs hw hP hD hS => ?_)
    obtain rfl : (r_3 = nI (max (Wd X) (Wd Y))) := hw
    have hP : va_P (dC, dI) classes [(a_sig, .inr (1, [.ref a_kind, .ref a_width, .ref a_rword, .ref a_sop, .ref a_sa, .ref a_sb, .ref a_sc, .int (nI n)])), (a_width, .inl (cI, 14, .inl (nF Wd)))] H := hP
    have hD : va_D A [(a_sig, .inr (1, [.ref a_kind, .ref a_width, .ref a_rword, .ref a_sop, .ref a_sa, .ref a_sb, .ref a_sc, .int (nI n)])), (a_width, .inl (cI, 14, .inl (nF Wd)))] := hD
    exact W.iret (v := nI (max (Wd X) (Wd Y))) hx hb hr (fun t ht hW => ⟨⟨nI (max (Wd X) (Wd Y)), (), rfl, (by rw [e1]; show _ = nI (max (Wd (ix (nI X))) (Wd (ix (nI Y)))); rw [ix_nI hXb, ix_nI hYb]), by rw [ht]; exact hP, va_K.moved hW.alike hK, hD⟩, hS.F ht⟩) hS.2.2 d_Sig_widthOfNode_77
  · skip
    refine k_tabIn (k := 3) (tgt := 71) hx hb d_Sig_widthOfNode_1 e1 (by decide) (by decide) rfl (by decide) ?_
    obtain ⟨X, rfl, hXn, hXb⟩ := hs_of (n := n) (x := x) (by rw [hx1 (by rw [e1]; decide)]; decide)
    obtain ⟨Y, rfl, hYn, hYb⟩ := hs_of (n := n) (x := y) (by rw [hy1 (by rw [e1]; decide)]; decide)
    refine lv_aload_n hx hb d_Sig_widthOfNode_71 rfl (lv_at hl 0 rfl) ?_
    refine lv_iload_n hx hb d_Sig_widthOfNode_72 rfl (lv_at hl 2 rfl) ?_
    refine lv_iload_n hx hb d_Sig_widthOfNode_73 rfl (lv_at hl 3 rfl) ?_
    refine k_i (wr := []) (w2 := fun (u : Unit) => [(a_sig, .inr (1, [.ref a_kind, .ref a_width, .ref a_rword, .ref a_sop, .ref a_sa, .ref a_sb, .ref a_sc, .int (nI n)])), (a_width, .inl (cI, 14, .inl (nF Wd)))]) (va_runV (As := [.int (nI X), .int (nI Y)]) (rest := []) ⟨hx, hb, hml, hown, hts⟩ (c_Sig_wider l dC dI cI cZ a_sig a_kind a_width a_rword a_sop a_sa a_sb a_sc tt s.heap.size n Wd X Y (by omega) b_Wd (by omega) (by omega)) (cwV 2 hts (gd_V in_tl (mw 299 rfl rfl) (mw 300 rfl rfl) (mw 301 rfl rfl) (mw 42 rfl rfl) (mw 302 rfl rfl)) rfl rfl rfl (by decide +kernel) ⟨Nat.le_of_ble_eq_true rfl, Nat.le_of_ble_eq_true rfl⟩) (k_preV hK hP hD hS hA hE [0, 1] (by decide) rfl 1 0 rfl rfl) rfl rfl hl.1 rfl (lv_room (Nat.le_of_ble_eq_true rfl)) d_Sig_widthOfNode_74 ⟨Nat.zero_le _, Nat.zero_le _⟩) hP hD hS hA [0, 1] [] [0, 1] rfl rfl (by decide) (by decide) (by decide) (fun _ => rfl) (fun r_4 u H locs hw hP hD hS => ?_)
    obtain rfl : (r_4 = nI (max (Wd X) (Wd Y))) := hw
    have hP : va_P (dC, dI) classes [(a_sig, .inr (1, [.ref a_kind, .ref a_width, .ref a_rword, .ref a_sop, .ref a_sa, .ref a_sb, .ref a_sc, .int (nI n)])), (a_width, .inl (cI, 14, .inl (nF Wd)))] H := hP
    have hD : va_D A [(a_sig, .inr (1, [.ref a_kind, .ref a_width, .ref a_rword, .ref a_sop, .ref a_sa, .ref a_sb, .ref a_sc, .int (nI n)])), (a_width, .inl (cI, 14, .inl (nF Wd)))] := hD
    exact W.iret (v := nI (max (Wd X) (Wd Y))) hx hb hr (fun t ht hW => ⟨⟨nI (max (Wd X) (Wd Y)), (), rfl, (by rw [e1]; show _ = nI (max (Wd (ix (nI X))) (Wd (ix (nI Y)))); rw [ix_nI hXb, ix_nI hYb]), by rw [ht]; exact hP, va_K.moved hW.alike hK, hD⟩, hS.F ht⟩) hS.2.2 d_Sig_widthOfNode_77
  · skip
    refine k_tabIn (k := 4) (tgt := 78) hx hb d_Sig_widthOfNode_1 e1 (by decide) (by decide) rfl (by decide) ?_
    obtain ⟨X, rfl, hXn, hXb⟩ := hs_of (n := n) (x := x) (by rw [hx1 (by rw [e1]; decide)]; decide)
    obtain ⟨Y, rfl, hYn, hYb⟩ := hs_of (n := n) (x := y) (by rw [hy1 (by rw [e1]; decide)]; decide)
    refine lv_aload_n hx hb d_Sig_widthOfNode_78 rfl (lv_at hl 0 rfl) ?_
    refine lv_iload_n hx hb d_Sig_widthOfNode_79 rfl (lv_at hl 2 rfl) ?_
    refine lv_iload_n hx hb d_Sig_widthOfNode_80 rfl (lv_at hl 3 rfl) ?_
    refine k_i (wr := []) (w2 := fun (u : Unit) => [(a_sig, .inr (1, [.ref a_kind, .ref a_width, .ref a_rword, .ref a_sop, .ref a_sa, .ref a_sb, .ref a_sc, .int (nI n)])), (a_width, .inl (cI, 14, .inl (nF Wd)))]) (va_runV (As := [.int (nI X), .int (nI Y)]) (rest := []) ⟨hx, hb, hml, hown, hts⟩ (c_Sig_wider l dC dI cI cZ a_sig a_kind a_width a_rword a_sop a_sa a_sb a_sc tt s.heap.size n Wd X Y (by omega) b_Wd (by omega) (by omega)) (cwV 2 hts (gd_V in_tl (mw 299 rfl rfl) (mw 300 rfl rfl) (mw 301 rfl rfl) (mw 42 rfl rfl) (mw 302 rfl rfl)) rfl rfl rfl (by decide +kernel) ⟨Nat.le_of_ble_eq_true rfl, Nat.le_of_ble_eq_true rfl⟩) (k_preV hK hP hD hS hA hE [0, 1] (by decide) rfl 1 0 rfl rfl) rfl rfl hl.1 rfl (lv_room (Nat.le_of_ble_eq_true rfl)) d_Sig_widthOfNode_81 ⟨Nat.zero_le _, Nat.zero_le _⟩) hP hD hS hA [0, 1] [] [0, 1] rfl rfl (by decide) (by decide) (by decide) (fun _ => rfl) (fun r_5 u H locs hw hP hD hS => ?_)
    obtain rfl : (r_5 = nI (max (Wd X) (Wd Y))) := hw
    have hP : va_P (dC, dI) classes [(a_sig, .inr (1, [.ref a_kind, .ref a_width, .ref a_rword, .ref a_sop, .ref a_sa, .ref a_sb, .ref a_sc, .int (nI n)])), (a_width, .inl (cI, 14, .inl (nF Wd)))] H := hP
    have hD : va_D A [(a_sig, .inr (1, [.ref a_kind, .ref a_width, .ref a_rword, .ref a_sop, .ref a_sa, .ref a_sb, .ref a_sc, .int (nI n)])), (a_width, .inl (cI, 14, .inl (nF Wd)))] := hD
    refine lv_iconst (v := nI 1) hx hb d_Sig_widthOfNode_84 rfl ?_
    refine lv_iadd hx hb d_Sig_widthOfNode_85 ?_
    refine k_top (nI_add _ _) ?_
    exact W.iret (v := nI ((max (Wd X) (Wd Y)) + 1)) hx hb hr (fun t ht hW => ⟨⟨nI ((max (Wd X) (Wd Y)) + 1), (), rfl, (by rw [e1]; show _ = nI (max (Wd (ix (nI X))) (Wd (ix (nI Y))) + 1); rw [ix_nI hXb, ix_nI hYb]), by rw [ht]; exact hP, va_K.moved hW.alike hK, hD⟩, hS.F ht⟩) hS.2.2 d_Sig_widthOfNode_86
  · skip
    refine k_tabIn (k := 5) (tgt := 71) hx hb d_Sig_widthOfNode_1 e1 (by decide) (by decide) rfl (by decide) ?_
    obtain ⟨X, rfl, hXn, hXb⟩ := hs_of (n := n) (x := x) (by rw [hx1 (by rw [e1]; decide)]; decide)
    obtain ⟨Y, rfl, hYn, hYb⟩ := hs_of (n := n) (x := y) (by rw [hy1 (by rw [e1]; decide)]; decide)
    refine lv_aload_n hx hb d_Sig_widthOfNode_71 rfl (lv_at hl 0 rfl) ?_
    refine lv_iload_n hx hb d_Sig_widthOfNode_72 rfl (lv_at hl 2 rfl) ?_
    refine lv_iload_n hx hb d_Sig_widthOfNode_73 rfl (lv_at hl 3 rfl) ?_
    refine k_i (wr := []) (w2 := fun (u : Unit) => [(a_sig, .inr (1, [.ref a_kind, .ref a_width, .ref a_rword, .ref a_sop, .ref a_sa, .ref a_sb, .ref a_sc, .int (nI n)])), (a_width, .inl (cI, 14, .inl (nF Wd)))]) (va_runV (As := [.int (nI X), .int (nI Y)]) (rest := []) ⟨hx, hb, hml, hown, hts⟩ (c_Sig_wider l dC dI cI cZ a_sig a_kind a_width a_rword a_sop a_sa a_sb a_sc tt s.heap.size n Wd X Y (by omega) b_Wd (by omega) (by omega)) (cwV 2 hts (gd_V in_tl (mw 299 rfl rfl) (mw 300 rfl rfl) (mw 301 rfl rfl) (mw 42 rfl rfl) (mw 302 rfl rfl)) rfl rfl rfl (by decide +kernel) ⟨Nat.le_of_ble_eq_true rfl, Nat.le_of_ble_eq_true rfl⟩) (k_preV hK hP hD hS hA hE [0, 1] (by decide) rfl 1 0 rfl rfl) rfl rfl hl.1 rfl (lv_room (Nat.le_of_ble_eq_true rfl)) d_Sig_widthOfNode_74 ⟨Nat.zero_le _, Nat.zero_le _⟩) hP hD hS hA [0, 1] [] [0, 1] rfl rfl (by decide) (by decide) (by decide) (fun _ => rfl) (fun r_6 u H locs hw hP hD hS => ?_)
    obtain rfl : (r_6 = nI (max (Wd X) (Wd Y))) := hw
    have hP : va_P (dC, dI) classes [(a_sig, .inr (1, [.ref a_kind, .ref a_width, .ref a_rword, .ref a_sop, .ref a_sa, .ref a_sb, .ref a_sc, .int (nI n)])), (a_width, .inl (cI, 14, .inl (nF Wd)))] H := hP
    have hD : va_D A [(a_sig, .inr (1, [.ref a_kind, .ref a_width, .ref a_rword, .ref a_sop, .ref a_sa, .ref a_sb, .ref a_sc, .int (nI n)])), (a_width, .inl (cI, 14, .inl (nF Wd)))] := hD
    exact W.iret (v := nI (max (Wd X) (Wd Y))) hx hb hr (fun t ht hW => ⟨⟨nI (max (Wd X) (Wd Y)), (), rfl, (by rw [e1]; show _ = nI (max (Wd (ix (nI X))) (Wd (ix (nI Y)))); rw [ix_nI hXb, ix_nI hYb]), by rw [ht]; exact hP, va_K.moved hW.alike hK, hD⟩, hS.F ht⟩) hS.2.2 d_Sig_widthOfNode_77
  · skip
    refine k_tabIn (k := 6) (tgt := 87) hx hb d_Sig_widthOfNode_1 e1 (by decide) (by decide) rfl (by decide) ?_
    obtain ⟨X, rfl, hXn, hXb⟩ := hs_of (n := n) (x := x) (by rw [hx1 (by rw [e1]; decide)]; decide)
    obtain ⟨Y, rfl, hYn, hYb⟩ := hs_of (n := n) (x := y) (by rw [hy1 (by rw [e1]; decide)]; decide)
    refine lv_iconst (v := nI 1) hx hb d_Sig_widthOfNode_87 rfl ?_
    exact W.iret (v := nI 1) hx hb hr (fun t ht hW => ⟨⟨nI 1, (), rfl, (by rw [e1]; rfl), by rw [ht]; exact hP, va_K.moved hW.alike hK, hD⟩, hS.F ht⟩) hS.2.2 d_Sig_widthOfNode_88
  · skip
    refine k_tabIn (k := 7) (tgt := 87) hx hb d_Sig_widthOfNode_1 e1 (by decide) (by decide) rfl (by decide) ?_
    obtain ⟨X, rfl, hXn, hXb⟩ := hs_of (n := n) (x := x) (by rw [hx1 (by rw [e1]; decide)]; decide)
    obtain ⟨Y, rfl, hYn, hYb⟩ := hs_of (n := n) (x := y) (by rw [hy1 (by rw [e1]; decide)]; decide)
    refine lv_iconst (v := nI 1) hx hb d_Sig_widthOfNode_87 rfl ?_
    exact W.iret (v := nI 1) hx hb hr (fun t ht hW => ⟨⟨nI 1, (), rfl, (by rw [e1]; rfl), by rw [ht]; exact hP, va_K.moved hW.alike hK, hD⟩, hS.F ht⟩) hS.2.2 d_Sig_widthOfNode_88
  · skip
    refine k_tabIn (k := 8) (tgt := 89) hx hb d_Sig_widthOfNode_1 e1 (by decide) (by decide) rfl (by decide) ?_
    obtain ⟨X, rfl, hXn, hXb⟩ := hs_of (n := n) (x := x) (by rw [hx1 (by rw [e1]; decide)]; decide)
    obtain ⟨Y, rfl, hYn, hYb⟩ := hs_of (n := n) (x := y) (by rw [hy1 (by rw [e1]; decide)]; decide)
    refine lv_aload_n hx hb d_Sig_widthOfNode_89 rfl (lv_at hl 0 rfl) ?_
    refine va_get (D := (dC, dI)) (ci := 1) (v := .ref a_width) (C := R_Sig) (T := F_Sig) (N := 8) hx hb hts (wi i_Sig) hown hK hP 0 rfl rfl 1 (by decide) (hts _ (mt 69 rfl rfl)) (fun _ h9 => h9) rfl d_Sig_widthOfNode_90 ?_
    refine lv_iload_n hx hb d_Sig_widthOfNode_93 rfl (lv_at hl 2 rfl) ?_
    refine k_ild hx hb hK hP 1 0 rfl rfl (by omega) (by decide) d_Sig_widthOfNode_94 ?_
    have hb_7 := b_Wd X
    refine lv_aload_n hx hb d_Sig_widthOfNode_95 rfl (lv_at hl 0 rfl) ?_
    refine va_get (D := (dC, dI)) (ci := 1) (v := .ref a_width) (C := R_Sig) (T := F_Sig) (N := 8) hx hb hts (wi i_Sig) hown hK hP 0 rfl rfl 1 (by decide) (hts _ (mt 69 rfl rfl)) (fun _ h9 => h9) rfl d_Sig_widthOfNode_96 ?_
    refine lv_iload_n hx hb d_Sig_widthOfNode_99 rfl (lv_at hl 3 rfl) ?_
    refine k_ild hx hb hK hP 1 0 rfl rfl (by omega) (by decide) d_Sig_widthOfNode_100 ?_
    have hb_8 := b_Wd Y
    refine lv_iadd hx hb d_Sig_widthOfNode_101 ?_
    refine k_top (nI_add _ _) ?_
    exact W.iret (v := nI ((Wd X) + (Wd Y))) hx hb hr (fun t ht hW => ⟨⟨nI ((Wd X) + (Wd Y)), (), rfl, (by rw [e1]; show _ = nI (Wd (ix (nI X)) + Wd (ix (nI Y))); rw [ix_nI hXb, ix_nI hYb]), by rw [ht]; exact hP, va_K.moved hW.alike hK, hD⟩, hS.F ht⟩) hS.2.2 d_Sig_widthOfNode_102
  · skip
    refine k_tabIn (k := 9) (tgt := 103) hx hb d_Sig_widthOfNode_1 e1 (by decide) (by decide) rfl (by decide) ?_
    obtain ⟨X, rfl, hXn, hXb⟩ := hs_of (n := n) (x := x) (by rw [hx1 (by rw [e1]; decide)]; decide)
    refine lv_aload_n hx hb d_Sig_widthOfNode_103 rfl (lv_at hl 0 rfl) ?_
    refine lv_iload_n hx hb d_Sig_widthOfNode_104 rfl (lv_at hl 2 rfl) ?_
    refine lv_iload_n hx hb d_Sig_widthOfNode_105 rfl (lv_at hl 3 rfl) ?_
    refine lv_iload hx hb d_Sig_widthOfNode_106 (lv_at hl 4 rfl) ?_
    refine k_i (wr := []) (w2 := fun (u : Unit) => [(a_sig, .inr (1, [.ref a_kind, .ref a_width, .ref a_rword, .ref a_sop, .ref a_sa, .ref a_sb, .ref a_sc, .int (nI n)])), (a_width, .inl (cI, 14, .inl (nF Wd)))]) (va_runV (As := [.int (nI X), .int y, .int z]) (rest := []) ⟨hx, hb, hml, hown, hts⟩ (c_Sig_isPartOf l dC dI cI cZ a_sig a_kind a_width a_rword a_sop a_sa a_sb a_sc tt s.heap.size n Wd X y z (by omega) b_Wd (by omega)) (cwV 3 hts (gd_V in_tl (mw 306 rfl rfl) (mw 308 rfl rfl) (mw 0 rfl rfl) (mw 42 rfl rfl) (mw 309 rfl rfl)) rfl rfl rfl (by decide +kernel) ⟨Nat.le_of_ble_eq_true rfl, Nat.le_of_ble_eq_true rfl⟩) (k_preV hK hP hD hS hA hE [0, 1] (by decide) rfl 1 0 rfl rfl) rfl rfl hl.1 rfl (lv_room (Nat.le_of_ble_eq_true rfl)) d_Sig_widthOfNode_108 ⟨Nat.zero_le _, Nat.zero_le _⟩) hP hD hS hA [0, 1] [] [0, 1] rfl rfl (by decide) (by decide) (by decide) (fun _ => rfl) (fun r_9 u H locs hw hP hD hS => ?_)
    obtain rfl : (r_9 = nI (if 0 ≤ y.toInt ∧ 1 ≤ z.toInt ∧ y.toInt ≤ 8 ∧ z.toInt ≤ 8 ∧ y.toInt + z.toInt ≤ Wd X then 1 else 0)) := hw
    have hP : va_P (dC, dI) classes [(a_sig, .inr (1, [.ref a_kind, .ref a_width, .ref a_rword, .ref a_sop, .ref a_sa, .ref a_sb, .ref a_sc, .int (nI n)])), (a_width, .inl (cI, 14, .inl (nF Wd)))] H := hP
    have hD : va_D A [(a_sig, .inr (1, [.ref a_kind, .ref a_width, .ref a_rword, .ref a_sop, .ref a_sa, .ref a_sb, .ref a_sc, .int (nI n)])), (a_width, .inl (cI, 14, .inl (nF Wd)))] := hD
    refine lv_if_eq (tgt := 119) hx hb d_Sig_widthOfNode_111 (by decide) (fun c111 => ?_) (fun c111 => ?_)
    · skip
      have c111 : (if 0 ≤ y.toInt ∧ 1 ≤ z.toInt ∧ y.toInt ≤ 8 ∧ z.toInt ≤ 8 ∧ y.toInt + z.toInt ≤ Wd X then 1 else 0) = 0 := (nI_eq0 (by split <;> decide)).mp c111
      have hq : ¬ (0 ≤ y.toInt ∧ 1 ≤ z.toInt ∧ y.toInt ≤ 8 ∧ z.toInt ≤ 8 ∧ y.toInt + z.toInt ≤ Wd X) := fun h => absurd ((if_pos h).symm.trans c111) (by decide)
      refine lv_iconst (v := nI 0) hx hb d_Sig_widthOfNode_119 rfl ?_
      exact W.iret (v := nI 0) hx hb hr (fun t ht hW => ⟨⟨nI 0, (), rfl, (by rw [e1]; show _ = nI (if 0 ≤ y.toInt ∧ 1 ≤ z.toInt ∧ y.toInt ≤ 8 ∧ z.toInt ≤ 8 ∧ y.toInt + z.toInt ≤ Wd (ix (nI X)) then ix z else 0); rw [ix_nI hXb, if_neg hq]), by rw [ht]; exact hP, va_K.moved hW.alike hK, hD⟩, hS.F ht⟩) hS.2.2 d_Sig_widthOfNode_120
    · skip
      have c111 : ¬ ((if 0 ≤ y.toInt ∧ 1 ≤ z.toInt ∧ y.toInt ≤ 8 ∧ z.toInt ≤ 8 ∧ y.toInt + z.toInt ≤ Wd X then 1 else 0) = 0) := fun h => c111 ((nI_eq0 (by split <;> decide)).mpr h)
      have hq : 0 ≤ y.toInt ∧ 1 ≤ z.toInt ∧ y.toInt ≤ 8 ∧ z.toInt ≤ 8 ∧ y.toInt + z.toInt ≤ Wd X := Classical.byContradiction (fun h => c111 (if_neg h))
      obtain ⟨Z, rfl, hZ, hZb⟩ := raw_nat (x := z) (by omega)
      refine lv_iload hx hb d_Sig_widthOfNode_114 (lv_at hl 4 rfl) ?_
      refine lv_goto (tgt := 120) hx hb d_Sig_widthOfNode_116 (by decide) ?_
      exact W.iret (v := nI Z) hx hb hr (fun t ht hW => ⟨⟨nI Z, (), rfl, (by rw [e1]; show _ = nI (if 0 ≤ y.toInt ∧ 1 ≤ (nI Z).toInt ∧ y.toInt ≤ 8 ∧ (nI Z).toInt ≤ 8 ∧ y.toInt + (nI Z).toInt ≤ Wd (ix (nI X)) then ix (nI Z) else 0); rw [ix_nI hXb, if_pos hq, ix_nI hZb]), by rw [ht]; exact hP, va_K.moved hW.alike hK, hD⟩, hS.F ht⟩) hS.2.2 d_Sig_widthOfNode_120
  · skip
    refine k_tabIn (k := 10) (tgt := 121) hx hb d_Sig_widthOfNode_1 e1 (by decide) (by decide) rfl (by decide) ?_
    obtain ⟨X, rfl, hXn, hXb⟩ := hs_of (n := n) (x := x) (by rw [hx1 (by rw [e1]; decide)]; decide)
    obtain ⟨Y, rfl, hYn, hYb⟩ := hs_of (n := n) (x := y) (by rw [hy1 (by rw [e1]; decide)]; decide)
    obtain ⟨Z, rfl, hZn, hZb⟩ := hs_of (n := n) (x := z) (by rw [hz1 (by rw [e1]; decide)]; decide)
    refine lv_aload_n hx hb d_Sig_widthOfNode_121 rfl (lv_at hl 0 rfl) ?_
    refine va_get (D := (dC, dI)) (ci := 1) (v := .ref a_width) (C := R_Sig) (T := F_Sig) (N := 8) hx hb hts (wi i_Sig) hown hK hP 0 rfl rfl 1 (by decide) (hts _ (mt 69 rfl rfl)) (fun _ h9 => h9) rfl d_Sig_widthOfNode_122 ?_
    refine lv_iload_n hx hb d_Sig_widthOfNode_125 rfl (lv_at hl 2 rfl) ?_
    refine k_ild hx hb hK hP 1 0 rfl rfl (by omega) (by decide) d_Sig_widthOfNode_126 ?_
    have hb_10 := b_Wd X
    refine lv_iconst (v := nI 1) hx hb d_Sig_widthOfNode_127 rfl ?_
    refine lv_icmp_ne (tgt := 141) hx hb d_Sig_widthOfNode_128 (by decide) (fun c128 => ?_) (fun c128 => ?_)
    · skip
      have c128 : ¬ ((Wd X) = 1) := fun h => c128 ((nI_eq (by omega) (by omega)).mpr h)
      refine lv_iconst (v := nI 0) hx hb d_Sig_widthOfNode_141 rfl ?_
      exact W.iret (v := nI 0) hx hb hr (fun t ht hW => ⟨⟨nI 0, (), rfl, (by rw [e1]; show _ = nI (if Wd (ix (nI X)) = 1 then max (Wd (ix (nI Y))) (Wd (ix (nI Z))) else 0); rw [ix_nI hXb, if_neg c128]), by rw [ht]; exact hP, va_K.moved hW.alike hK, hD⟩, hS.F ht⟩) hS.2.2 d_Sig_widthOfNode_142
    · skip
      have c128 : (Wd X) = 1 := (nI_eq (by omega) (by omega)).mp c128
      refine lv_aload_n hx hb d_Sig_widthOfNode_131 rfl (lv_at hl 0 rfl) ?_
      refine lv_iload_n hx hb d_Sig_widthOfNode_132 rfl (lv_at hl 3 rfl) ?_
      refine lv_iload hx hb d_Sig_widthOfNode_133 (lv_at hl 4 rfl) ?_
      refine k_i (wr := []) (w2 := fun (u : Unit) => [(a_sig, .inr (1, [.ref a_kind, .ref a_width, .ref a_rword, .ref a_sop, .ref a_sa, .ref a_sb, .ref a_sc, .int (nI n)])), (a_width, .inl (cI, 14, .inl (nF Wd)))]) (va_runV (As := [.int (nI Y), .int (nI Z)]) (rest := []) ⟨hx, hb, hml, hown, hts⟩ (c_Sig_wider l dC dI cI cZ a_sig a_kind a_width a_rword a_sop a_sa a_sb a_sc tt s.heap.size n Wd Y Z (by omega) b_Wd (by omega) (by omega)) (cwV 2 hts (gd_V in_tl (mw 299 rfl rfl) (mw 300 rfl rfl) (mw 301 rfl rfl) (mw 42 rfl rfl) (mw 302 rfl rfl)) rfl rfl rfl (by decide +kernel) ⟨Nat.le_of_ble_eq_true rfl, Nat.le_of_ble_eq_true rfl⟩) (k_preV hK hP hD hS hA hE [0, 1] (by decide) rfl 1 0 rfl rfl) rfl rfl hl.1 rfl (lv_room (Nat.le_of_ble_eq_true rfl)) d_Sig_widthOfNode_135 ⟨Nat.zero_le _, Nat.zero_le _⟩) hP hD hS hA [0, 1] [] [0, 1] rfl rfl (by decide) (by decide) (by decide) (fun _ => rfl) (fun r_11 u H locs hw hP hD hS => ?_)
      obtain rfl : (r_11 = nI (max (Wd Y) (Wd Z))) := hw
      have hP : va_P (dC, dI) classes [(a_sig, .inr (1, [.ref a_kind, .ref a_width, .ref a_rword, .ref a_sop, .ref a_sa, .ref a_sb, .ref a_sc, .int (nI n)])), (a_width, .inl (cI, 14, .inl (nF Wd)))] H := hP
      have hD : va_D A [(a_sig, .inr (1, [.ref a_kind, .ref a_width, .ref a_rword, .ref a_sop, .ref a_sa, .ref a_sb, .ref a_sc, .int (nI n)])), (a_width, .inl (cI, 14, .inl (nF Wd)))] := hD
      refine lv_goto (tgt := 142) hx hb d_Sig_widthOfNode_138 (by decide) ?_
      exact W.iret (v := nI (max (Wd Y) (Wd Z))) hx hb hr (fun t ht hW => ⟨⟨nI (max (Wd Y) (Wd Z)), (), rfl, (by rw [e1]; show _ = nI (if Wd (ix (nI X)) = 1 then max (Wd (ix (nI Y))) (Wd (ix (nI Z))) else 0); rw [ix_nI hXb, ix_nI hYb, ix_nI hZb, if_pos c128]), by rw [ht]; exact hP, va_K.moved hW.alike hK, hD⟩, hS.F ht⟩) hS.2.2 d_Sig_widthOfNode_142
  · skip
    refine k_tabIn (k := 11) (tgt := 143) hx hb d_Sig_widthOfNode_1 e1 (by decide) (by decide) rfl (by decide) ?_
    refine lv_aload_n hx hb d_Sig_widthOfNode_143 rfl (lv_at hl 0 rfl) ?_
    refine lv_iload_n hx hb d_Sig_widthOfNode_144 rfl (lv_at hl 2 rfl) ?_
    refine lv_iload_n hx hb d_Sig_widthOfNode_145 rfl (lv_at hl 3 rfl) ?_
    refine k_i (wr := [(a_width, .inl (cI, 14, .inl (nF Wd)))]) (w2 := fun (u : Unit) => [(a_sig, .inr (1, [.ref a_kind, .ref a_width, .ref a_rword, .ref a_sop, .ref a_sa, .ref a_sb, .ref a_sc, .int (nI n)])), (a_width, .inl (cI, 14, .inl (nF Wd)))]) (va_runV (As := [.int x, .int y]) (rest := []) ⟨hx, hb, hml, hown, hts⟩ (c_Sig_isConstant l dC dI cI cZ a_sig a_kind a_width a_rword a_sop a_sa a_sb a_sc tt s.heap.size n x y (by omega)) (cwV 2 hts (gd_V in_tl (mw 310 rfl rfl) (mw 312 rfl rfl) (mw 1 rfl rfl) (mw 42 rfl rfl) (mw 313 rfl rfl)) rfl rfl rfl (by decide +kernel) ⟨Nat.le_of_ble_eq_true rfl, Nat.le_of_ble_eq_true rfl⟩) (k_preV hK hP hD hS hA hE [0] (by decide) rfl 1 0 rfl rfl) rfl rfl hl.1 rfl (lv_room (Nat.le_of_ble_eq_true rfl)) d_Sig_widthOfNode_146 ⟨Nat.zero_le _, Nat.zero_le _⟩) hP hD hS hA [0] [1] [1, 0] rfl rfl (by decide) (by decide) (by decide) (fun _ => rfl) (fun r_12 u H locs hw hP hD hS => ?_)
    obtain rfl : (r_12 = nI (if 1 ≤ y.toInt ∧ y.toInt ≤ 8 ∧ 0 ≤ x.toInt ∧ x.toInt < ((2 ^ ix y : Nat) : Int) then 1 else 0)) := hw
    have hP : va_P (dC, dI) classes [(a_sig, .inr (1, [.ref a_kind, .ref a_width, .ref a_rword, .ref a_sop, .ref a_sa, .ref a_sb, .ref a_sc, .int (nI n)])), (a_width, .inl (cI, 14, .inl (nF Wd)))] H := hP
    have hD : va_D A [(a_sig, .inr (1, [.ref a_kind, .ref a_width, .ref a_rword, .ref a_sop, .ref a_sa, .ref a_sb, .ref a_sc, .int (nI n)])), (a_width, .inl (cI, 14, .inl (nF Wd)))] := hD
    refine lv_if_eq (tgt := 156) hx hb d_Sig_widthOfNode_149 (by decide) (fun c149 => ?_) (fun c149 => ?_)
    · skip
      have c149 : (if 1 ≤ y.toInt ∧ y.toInt ≤ 8 ∧ 0 ≤ x.toInt ∧ x.toInt < ((2 ^ ix y : Nat) : Int) then 1 else 0) = 0 := (nI_eq0 (by split <;> decide)).mp c149
      have hq : ¬ (1 ≤ y.toInt ∧ y.toInt ≤ 8 ∧ 0 ≤ x.toInt ∧ x.toInt < ((2 ^ ix y : Nat) : Int)) := fun h => absurd ((if_pos h).symm.trans c149) (by decide)
      refine lv_iconst (v := nI 0) hx hb d_Sig_widthOfNode_156 rfl ?_
      exact W.iret (v := nI 0) hx hb hr (fun t ht hW => ⟨⟨nI 0, (), rfl, (by rw [e1]; show _ = nI (if _ then ix y else 0); rw [if_neg hq]), by rw [ht]; exact hP, va_K.moved hW.alike hK, hD⟩, hS.F ht⟩) hS.2.2 d_Sig_widthOfNode_157
    · skip
      have c149 : ¬ ((if 1 ≤ y.toInt ∧ y.toInt ≤ 8 ∧ 0 ≤ x.toInt ∧ x.toInt < ((2 ^ ix y : Nat) : Int) then 1 else 0) = 0) := fun h => c149 ((nI_eq0 (by split <;> decide)).mpr h)
      have hq : 1 ≤ y.toInt ∧ y.toInt ≤ 8 ∧ 0 ≤ x.toInt ∧ x.toInt < ((2 ^ ix y : Nat) : Int) := Classical.byContradiction (fun h => c149 (if_neg h))
      obtain ⟨Y, rfl, hY, hYb⟩ := raw_nat (x := y) (by omega)
      refine lv_iload_n hx hb d_Sig_widthOfNode_152 rfl (lv_at hl 3 rfl) ?_
      refine lv_goto (tgt := 157) hx hb d_Sig_widthOfNode_153 (by decide) ?_
      exact W.iret (v := nI Y) hx hb hr (fun t ht hW => ⟨⟨nI Y, (), rfl, (by rw [e1]; show _ = nI (if _ then ix (nI Y) else 0); rw [if_pos hq, ix_nI hYb]), by rw [ht]; exact hP, va_K.moved hW.alike hK, hD⟩, hS.F ht⟩) hS.2.2 d_Sig_widthOfNode_157
  · skip
    omega
set_option maxHeartbeats 4000000 in
set_option maxRecDepth 100000 in
theorem c_Sig_argumentsOf (l : Launch) (dC : Nat → ClassId) (dI : Nat → Nat → Nat) (cI cZ : ClassId) (a_sig a_kind a_width a_rword a_sop a_sa a_sb a_sc : Nat) (tt sz : Nat) (n : Nat) (Op : Nat → Nat) (Aa : Nat → Int32) (Ab : Nat → Int32) (Ac : Nat → Int32) (S : Nat) (b_n : n ≤ 14) (b_Op : ∀ j, Op j < 12) (hS14 : S < 14) (hx1 : 1 ≤ tab (Op S) → ∃ X, X < 14 ∧ Aa S = nI X) (hy1 : 2 ≤ tab (Op S) → ∃ X, X < 14 ∧ Ab S = nI X) (hz1 : 3 ≤ tab (Op S) → ∃ X, X < 14 ∧ Ac S = nI X) : Met l y_Sig_argumentsOf w_Sig_argumentsOf ({ frames := 0, cells := 0, slots := 0, locals := 0 }) (va_Pc [.ref a_sig, .int (nI S)] (PW (dC, dI) classes [(cI, .int), (cZ, .boolean)] tt [(a_sig, .inr (1, [.ref a_kind, .ref a_width, .ref a_rword, .ref a_sop, .ref a_sa, .ref a_sb, .ref a_sc, .int (nI n)])), (a_sop, .inl (cI, 14, .inl (nF Op))), (a_sa, .inl (cI, 14, .inl Aa)), (a_sb, .inl (cI, 14, .inl Ab)), (a_sc, .inl (cI, 14, .inl Ac))] sz)) (va_Qi (fun (r : Int32) (u : Unit) => (r = nI (amk (tab (Op S)) (ix (Aa S)) (ix (Ab S)) (ix (Ac S))))) (AT (dC, dI) classes [(cI, .int), (cZ, .boolean)] (va_A [(a_sig, .inr (1, [.ref a_kind, .ref a_width, .ref a_rword, .ref a_sop, .ref a_sa, .ref a_sb, .ref a_sc, .int (nI n)])), (a_sop, .inl (cI, 14, .inl (nF Op))), (a_sa, .inl (cI, 14, .inl Aa)), (a_sb, .inl (cI, 14, .inl Ab)), (a_sc, .inl (cI, 14, .inl Ac))] sz) (fun (u : Unit) => [(a_sig, .inr (1, [.ref a_kind, .ref a_width, .ref a_rword, .ref a_sop, .ref a_sa, .ref a_sb, .ref a_sc, .int (nI n)])), (a_sop, .inl (cI, 14, .inl (nF Op))), (a_sa, .inl (cI, 14, .inl Aa)), (a_sb, .inl (cI, 14, .inl Ab)), (a_sc, .inl (cI, 14, .inl Ac))])) (va_A [(a_sig, .inr (1, [.ref a_kind, .ref a_width, .ref a_rword, .ref a_sop, .ref a_sa, .ref a_sb, .ref a_sc, .int (nI n)])), (a_sop, .inl (cI, 14, .inl (nF Op))), (a_sa, .inl (cI, 14, .inl Aa)), (a_sb, .inl (cI, 14, .inl Ab)), (a_sc, .inl (cI, 14, .inl Ac))] sz)) 0 0 (va_A [(a_sig, .inr (1, [.ref a_kind, .ref a_width, .ref a_rword, .ref a_sop, .ref a_sa, .ref a_sb, .ref a_sc, .int (nI n)])), (a_sop, .inl (cI, 14, .inl (nF Op))), (a_sa, .inl (cI, 14, .inl Aa)), (a_sb, .inl (cI, 14, .inl Ab)), (a_sc, .inl (cI, 14, .inl Ac))] sz) := by
  refine Met.ofW (cc := b_Sig_argumentsOf) (maxL := 4) (ret := (some .int)) (by decide) rfl ?_
  intro p e s m args below meth c s₁ B hml hv
  obtain ⟨rfl, hsz, hP, hK, hD0, hE⟩ := hv
  have hx := B.exec
  have hb := B.bytes
  have hr := B.returns
  have hts := atoms_spec (ws := w_Sig_argumentsOf) B.pre
  have hown : s.vm.findClass R_Sig = some m.cls := findClass_of_methodNamed B.named
  have hlocks := B.notSynchronized
  subst hsz
  have hD := hD0.self (sz := s.heap.size)
  generalize hAe : va_A [(a_sig, .inr (1, [.ref a_kind, .ref a_width, .ref a_rword, .ref a_sop, .ref a_sa, .ref a_sb, .ref a_sc, .int (nI n)])), (a_sop, .inl (cI, 14, .inl (nF Op))), (a_sa, .inl (cI, 14, .inl Aa)), (a_sb, .inl (cI, 14, .inl Ab)), (a_sc, .inl (cI, 14, .inl Ac))] s.heap.size = A at hD hE ⊢
  have hA : ∀ q : Nat, s.heap.size ≤ q → A q := fun q h => by rw [← hAe]; exact Or.inr h
  have hS : va_S A s.heap s.heap [] := va_S.rf
  have hP : va_P (dC, dI) classes [(a_sig, .inr (1, [.ref a_kind, .ref a_width, .ref a_rword, .ref a_sop, .ref a_sa, .ref a_sb, .ref a_sc, .int (nI n)])), (a_sop, .inl (cI, 14, .inl (nF Op))), (a_sa, .inl (cI, 14, .inl Aa)), (a_sb, .inl (cI, 14, .inl Ab)), (a_sc, .inl (cI, 14, .inl Ac))] s.heap := hP
  have hl := lv_entry ([.ref a_sig, .int (nI S)]) (n := 4) (Nat.le_of_ble_eq_true rfl)
  rw [lg_entry_eq]
  generalize (lg_sl ([.ref a_sig, .int (nI S)]) ++ List.replicate (4 - (lg_sl ([.ref a_sig, .int (nI S)])).length) Slot.unset).toArray = ls at hl ⊢
  have hl : lv_has ls 4 [(0, .ref a_sig), (1, .int (nI S))] := hl
  refine va_getsN hx hb hE.2.2.1 hS hown (va_Nw.use rfl hE.2.1) (fun _ h => h) d_Sig_argumentsOf_0 ?_
  refine lv_aload_n hx hb d_Sig_argumentsOf_3 rfl (lv_at hl 0 rfl) ?_
  refine va_get (D := (dC, dI)) (ci := 1) (v := .ref a_sop) (C := R_Sig) (T := F_Sig) (N := 8) hx hb hts (wi i_Sig) hown hK hP 0 rfl rfl 3 (by decide) (hts _ (mt 74 rfl rfl)) (fun _ h9 => h9) rfl d_Sig_argumentsOf_4 ?_
  refine lv_iload_n hx hb d_Sig_argumentsOf_7 rfl (lv_at hl 1 rfl) ?_
  refine k_ild hx hb hK hP 1 0 rfl rfl (by omega) (by decide) d_Sig_argumentsOf_8 ?_
  have hb_1 := b_Op S
  refine va_ti hx hb hE.2.2.2 hS (i := nI (Op S)) (vp_in_nI (by omega) (by decide)) (v := .int (nI (tab (Op S)))) (by rw [nI_clamp (show _ < 2 ^ 31 by omega)]) d_Sig_argumentsOf_9 ?_
  have ht_2 := tab_le (Op S)
  refine lv_istore_n (lv' := [(2, .int (nI (tab (Op S)))), (0, .ref a_sig), (1, .int (nI S))]) hx hb d_Sig_argumentsOf_10 rfl hl (by decide) rfl (fun ls hl => ?_)
  refine lv_iconst (v := nI 0) hx hb d_Sig_argumentsOf_11 rfl ?_
  refine lv_istore_n (lv' := [(3, .int (nI 0)), (2, .int (nI (tab (Op S)))), (0, .ref a_sig), (1, .int (nI S))]) hx hb d_Sig_argumentsOf_12 rfl hl (by decide) rfl (fun ls hl => ?_)
  refine lv_iload_n hx hb d_Sig_argumentsOf_13 rfl (lv_at hl 1 rfl) ?_
  refine lv_iconst (v := nI 1) hx hb d_Sig_argumentsOf_14 rfl ?_
  refine lv_icmp_lt (tgt := 29) hx hb d_Sig_argumentsOf_15 (by decide) (fun c15 => ?_) (fun c15 => ?_)
  · skip
    have c15 : (tab (Op S)) < 1 := (nI_ltI (by omega) (by omega)).mp c15
    refine lv_iload_n hx hb d_Sig_argumentsOf_29 rfl (lv_at hl 1 rfl) ?_
    refine lv_iconst (v := nI 2) hx hb d_Sig_argumentsOf_30 rfl ?_
    refine lv_icmp_lt (tgt := 45) hx hb d_Sig_argumentsOf_31 (by decide) (fun c31 => ?_) (fun c31 => ?_)
    · skip
      have c31 : (tab (Op S)) < 2 := (nI_ltI (by omega) (by omega)).mp c31
      refine lv_iload_n hx hb d_Sig_argumentsOf_45 rfl (lv_at hl 1 rfl) ?_
      refine lv_iconst (v := nI 3) hx hb d_Sig_argumentsOf_46 rfl ?_
      refine lv_icmp_lt (tgt := 61) hx hb d_Sig_argumentsOf_47 (by decide) (fun c47 => ?_) (fun c47 => ?_)
      · skip
        have c47 : (tab (Op S)) < 3 := (nI_ltI (by omega) (by omega)).mp c47
        refine lv_iload_n hx hb d_Sig_argumentsOf_61 rfl (lv_at hl 0 rfl) ?_
        exact W.iret (v := nI 0) hx hb hr (fun t ht hW => ⟨⟨nI 0, (), rfl, (by unfold amk; rw [if_pos c15, if_pos c31, if_pos c47]; rfl), by rw [ht]; exact hP, va_K.moved hW.alike hK, hD⟩, hS.F ht⟩) hS.2.2 d_Sig_argumentsOf_62
      · skip
        have c47 : ¬ ((tab (Op S)) < 3) := fun h => c47 ((nI_ltI (by omega) (by omega)).mpr h)
        refine lv_iload_n hx hb d_Sig_argumentsOf_50 rfl (lv_at hl 0 rfl) ?_
        refine lv_iconst (v := nI 1) hx hb d_Sig_argumentsOf_51 rfl ?_
        refine lv_aload_n hx hb d_Sig_argumentsOf_52 rfl (lv_at hl 2 rfl) ?_
        refine va_get (D := (dC, dI)) (ci := 1) (v := .ref a_sc) (C := R_Sig) (T := F_Sig) (N := 8) hx hb hts (wi i_Sig) hown hK hP 0 rfl rfl 6 (by decide) (hts _ (mt 81 rfl rfl)) (fun _ h9 => h9) rfl d_Sig_argumentsOf_53 ?_
        refine lv_iload_n hx hb d_Sig_argumentsOf_56 rfl (lv_at hl 3 rfl) ?_
        refine k_rld hx hb hK hP 4 0 rfl rfl (by omega) (by decide) d_Sig_argumentsOf_57 ?_
        obtain ⟨Z, hZ14, eZ⟩ := hz1 (by omega)
        refine k_top (show Ac S = nI Z from eZ) ?_
        refine lv_ishl hx hb d_Sig_argumentsOf_58 ?_
        refine k_top (nI_shl _ (by omega)) ?_
        refine lv_ior hx hb d_Sig_argumentsOf_59 ?_
        refine k_top (nI_or _ _) ?_
        refine lv_istore_n (lv' := [(3, .int (nI (0 ||| (1 * 2 ^ Z)))), (2, .int (nI (tab (Op S)))), (0, .ref a_sig), (1, .int (nI S))]) hx hb d_Sig_argumentsOf_60 rfl hl (by decide) rfl (fun ls hl => ?_)
        refine lv_iload_n hx hb d_Sig_argumentsOf_61 rfl (lv_at hl 0 rfl) ?_
        exact W.iret (v := nI (0 ||| (1 * 2 ^ Z))) hx hb hr (fun t ht hW => ⟨⟨nI (0 ||| (1 * 2 ^ Z)), (), rfl, (by exfalso; omega), by rw [ht]; exact hP, va_K.moved hW.alike hK, hD⟩, hS.F ht⟩) hS.2.2 d_Sig_argumentsOf_62
    · skip
      have c31 : ¬ ((tab (Op S)) < 2) := fun h => c31 ((nI_ltI (by omega) (by omega)).mpr h)
      refine lv_iload_n hx hb d_Sig_argumentsOf_34 rfl (lv_at hl 0 rfl) ?_
      refine lv_iconst (v := nI 1) hx hb d_Sig_argumentsOf_35 rfl ?_
      refine lv_aload_n hx hb d_Sig_argumentsOf_36 rfl (lv_at hl 2 rfl) ?_
      refine va_get (D := (dC, dI)) (ci := 1) (v := .ref a_sb) (C := R_Sig) (T := F_Sig) (N := 8) hx hb hts (wi i_Sig) hown hK hP 0 rfl rfl 5 (by decide) (hts _ (mt 79 rfl rfl)) (fun _ h9 => h9) rfl d_Sig_argumentsOf_37 ?_
      refine lv_iload_n hx hb d_Sig_argumentsOf_40 rfl (lv_at hl 3 rfl) ?_
      refine k_rld hx hb hK hP 3 0 rfl rfl (by omega) (by decide) d_Sig_argumentsOf_41 ?_
      obtain ⟨Y, hY14, eY⟩ := hy1 (by omega)
      refine k_top (show Ab S = nI Y from eY) ?_
      refine lv_ishl hx hb d_Sig_argumentsOf_42 ?_
      refine k_top (nI_shl _ (by omega)) ?_
      refine lv_ior hx hb d_Sig_argumentsOf_43 ?_
      refine k_top (nI_or _ _) ?_
      refine lv_istore_n (lv' := [(3, .int (nI (0 ||| (1 * 2 ^ Y)))), (2, .int (nI (tab (Op S)))), (0, .ref a_sig), (1, .int (nI S))]) hx hb d_Sig_argumentsOf_44 rfl hl (by decide) rfl (fun ls hl => ?_)
      refine lv_iload_n hx hb d_Sig_argumentsOf_45 rfl (lv_at hl 1 rfl) ?_
      refine lv_iconst (v := nI 3) hx hb d_Sig_argumentsOf_46 rfl ?_
      refine lv_icmp_lt (tgt := 61) hx hb d_Sig_argumentsOf_47 (by decide) (fun c47 => ?_) (fun c47 => ?_)
      · skip
        have c47 : (tab (Op S)) < 3 := (nI_ltI (by omega) (by omega)).mp c47
        refine lv_iload_n hx hb d_Sig_argumentsOf_61 rfl (lv_at hl 0 rfl) ?_
        exact W.iret (v := nI (0 ||| (1 * 2 ^ Y))) hx hb hr (fun t ht hW => ⟨⟨nI (0 ||| (1 * 2 ^ Y)), (), rfl, (by exfalso; omega), by rw [ht]; exact hP, va_K.moved hW.alike hK, hD⟩, hS.F ht⟩) hS.2.2 d_Sig_argumentsOf_62
      · skip
        have c47 : ¬ ((tab (Op S)) < 3) := fun h => c47 ((nI_ltI (by omega) (by omega)).mpr h)
        refine lv_iload_n hx hb d_Sig_argumentsOf_50 rfl (lv_at hl 0 rfl) ?_
        refine lv_iconst (v := nI 1) hx hb d_Sig_argumentsOf_51 rfl ?_
        refine lv_aload_n hx hb d_Sig_argumentsOf_52 rfl (lv_at hl 2 rfl) ?_
        refine va_get (D := (dC, dI)) (ci := 1) (v := .ref a_sc) (C := R_Sig) (T := F_Sig) (N := 8) hx hb hts (wi i_Sig) hown hK hP 0 rfl rfl 6 (by decide) (hts _ (mt 81 rfl rfl)) (fun _ h9 => h9) rfl d_Sig_argumentsOf_53 ?_
        refine lv_iload_n hx hb d_Sig_argumentsOf_56 rfl (lv_at hl 3 rfl) ?_
        refine k_rld hx hb hK hP 4 0 rfl rfl (by omega) (by decide) d_Sig_argumentsOf_57 ?_
        obtain ⟨Z, hZ14, eZ⟩ := hz1 (by omega)
        refine k_top (show Ac S = nI Z from eZ) ?_
        refine lv_ishl hx hb d_Sig_argumentsOf_58 ?_
        refine k_top (nI_shl _ (by omega)) ?_
        refine lv_ior hx hb d_Sig_argumentsOf_59 ?_
        refine k_top (nI_or _ _) ?_
        refine lv_istore_n (lv' := [(3, .int (nI ((0 ||| (1 * 2 ^ Y)) ||| (1 * 2 ^ Z)))), (2, .int (nI (tab (Op S)))), (0, .ref a_sig), (1, .int (nI S))]) hx hb d_Sig_argumentsOf_60 rfl hl (by decide) rfl (fun ls hl => ?_)
        refine lv_iload_n hx hb d_Sig_argumentsOf_61 rfl (lv_at hl 0 rfl) ?_
        exact W.iret (v := nI ((0 ||| (1 * 2 ^ Y)) ||| (1 * 2 ^ Z))) hx hb hr (fun t ht hW => ⟨⟨nI ((0 ||| (1 * 2 ^ Y)) ||| (1 * 2 ^ Z)), (), rfl, (by exfalso; omega), by rw [ht]; exact hP, va_K.moved hW.alike hK, hD⟩, hS.F ht⟩) hS.2.2 d_Sig_argumentsOf_62
  · skip
    have c15 : ¬ ((tab (Op S)) < 1) := fun h => c15 ((nI_ltI (by omega) (by omega)).mpr h)
    refine lv_iload_n hx hb d_Sig_argumentsOf_18 rfl (lv_at hl 0 rfl) ?_
    refine lv_iconst (v := nI 1) hx hb d_Sig_argumentsOf_19 rfl ?_
    refine lv_aload_n hx hb d_Sig_argumentsOf_20 rfl (lv_at hl 2 rfl) ?_
    refine va_get (D := (dC, dI)) (ci := 1) (v := .ref a_sa) (C := R_Sig) (T := F_Sig) (N := 8) hx hb hts (wi i_Sig) hown hK hP 0 rfl rfl 4 (by decide) (hts _ (mt 77 rfl rfl)) (fun _ h9 => h9) rfl d_Sig_argumentsOf_21 ?_
    refine lv_iload_n hx hb d_Sig_argumentsOf_24 rfl (lv_at hl 3 rfl) ?_
    refine k_rld hx hb hK hP 2 0 rfl rfl (by omega) (by decide) d_Sig_argumentsOf_25 ?_
    obtain ⟨X, hX14, eX⟩ := hx1 (by omega)
    refine k_top (show Aa S = nI X from eX) ?_
    refine lv_ishl hx hb d_Sig_argumentsOf_26 ?_
    refine k_top (nI_shl _ (by omega)) ?_
    refine lv_ior hx hb d_Sig_argumentsOf_27 ?_
    refine k_top (nI_or _ _) ?_
    refine lv_istore_n (lv' := [(3, .int (nI (0 ||| (1 * 2 ^ X)))), (2, .int (nI (tab (Op S)))), (0, .ref a_sig), (1, .int (nI S))]) hx hb d_Sig_argumentsOf_28 rfl hl (by decide) rfl (fun ls hl => ?_)
    refine lv_iload_n hx hb d_Sig_argumentsOf_29 rfl (lv_at hl 1 rfl) ?_
    refine lv_iconst (v := nI 2) hx hb d_Sig_argumentsOf_30 rfl ?_
    refine lv_icmp_lt (tgt := 45) hx hb d_Sig_argumentsOf_31 (by decide) (fun c31 => ?_) (fun c31 => ?_)
    · skip
      have c31 : (tab (Op S)) < 2 := (nI_ltI (by omega) (by omega)).mp c31
      refine lv_iload_n hx hb d_Sig_argumentsOf_45 rfl (lv_at hl 1 rfl) ?_
      refine lv_iconst (v := nI 3) hx hb d_Sig_argumentsOf_46 rfl ?_
      refine lv_icmp_lt (tgt := 61) hx hb d_Sig_argumentsOf_47 (by decide) (fun c47 => ?_) (fun c47 => ?_)
      · skip
        have c47 : (tab (Op S)) < 3 := (nI_ltI (by omega) (by omega)).mp c47
        refine lv_iload_n hx hb d_Sig_argumentsOf_61 rfl (lv_at hl 0 rfl) ?_
        exact W.iret (v := nI (0 ||| (1 * 2 ^ X))) hx hb hr (fun t ht hW => ⟨⟨nI (0 ||| (1 * 2 ^ X)), (), rfl, (by unfold amk; rw [if_neg c15, if_pos c31, if_pos c47, ix_of eX (by omega)]; simp), by rw [ht]; exact hP, va_K.moved hW.alike hK, hD⟩, hS.F ht⟩) hS.2.2 d_Sig_argumentsOf_62
      · skip
        have c47 : ¬ ((tab (Op S)) < 3) := fun h => c47 ((nI_ltI (by omega) (by omega)).mpr h)
        refine lv_iload_n hx hb d_Sig_argumentsOf_50 rfl (lv_at hl 0 rfl) ?_
        refine lv_iconst (v := nI 1) hx hb d_Sig_argumentsOf_51 rfl ?_
        refine lv_aload_n hx hb d_Sig_argumentsOf_52 rfl (lv_at hl 2 rfl) ?_
        refine va_get (D := (dC, dI)) (ci := 1) (v := .ref a_sc) (C := R_Sig) (T := F_Sig) (N := 8) hx hb hts (wi i_Sig) hown hK hP 0 rfl rfl 6 (by decide) (hts _ (mt 81 rfl rfl)) (fun _ h9 => h9) rfl d_Sig_argumentsOf_53 ?_
        refine lv_iload_n hx hb d_Sig_argumentsOf_56 rfl (lv_at hl 3 rfl) ?_
        refine k_rld hx hb hK hP 4 0 rfl rfl (by omega) (by decide) d_Sig_argumentsOf_57 ?_
        obtain ⟨Z, hZ14, eZ⟩ := hz1 (by omega)
        refine k_top (show Ac S = nI Z from eZ) ?_
        refine lv_ishl hx hb d_Sig_argumentsOf_58 ?_
        refine k_top (nI_shl _ (by omega)) ?_
        refine lv_ior hx hb d_Sig_argumentsOf_59 ?_
        refine k_top (nI_or _ _) ?_
        refine lv_istore_n (lv' := [(3, .int (nI ((0 ||| (1 * 2 ^ X)) ||| (1 * 2 ^ Z)))), (2, .int (nI (tab (Op S)))), (0, .ref a_sig), (1, .int (nI S))]) hx hb d_Sig_argumentsOf_60 rfl hl (by decide) rfl (fun ls hl => ?_)
        refine lv_iload_n hx hb d_Sig_argumentsOf_61 rfl (lv_at hl 0 rfl) ?_
        exact W.iret (v := nI ((0 ||| (1 * 2 ^ X)) ||| (1 * 2 ^ Z))) hx hb hr (fun t ht hW => ⟨⟨nI ((0 ||| (1 * 2 ^ X)) ||| (1 * 2 ^ Z)), (), rfl, (by exfalso; omega), by rw [ht]; exact hP, va_K.moved hW.alike hK, hD⟩, hS.F ht⟩) hS.2.2 d_Sig_argumentsOf_62
    · skip
      have c31 : ¬ ((tab (Op S)) < 2) := fun h => c31 ((nI_ltI (by omega) (by omega)).mpr h)
      refine lv_iload_n hx hb d_Sig_argumentsOf_34 rfl (lv_at hl 0 rfl) ?_
      refine lv_iconst (v := nI 1) hx hb d_Sig_argumentsOf_35 rfl ?_
      refine lv_aload_n hx hb d_Sig_argumentsOf_36 rfl (lv_at hl 2 rfl) ?_
      refine va_get (D := (dC, dI)) (ci := 1) (v := .ref a_sb) (C := R_Sig) (T := F_Sig) (N := 8) hx hb hts (wi i_Sig) hown hK hP 0 rfl rfl 5 (by decide) (hts _ (mt 79 rfl rfl)) (fun _ h9 => h9) rfl d_Sig_argumentsOf_37 ?_
      refine lv_iload_n hx hb d_Sig_argumentsOf_40 rfl (lv_at hl 3 rfl) ?_
      refine k_rld hx hb hK hP 3 0 rfl rfl (by omega) (by decide) d_Sig_argumentsOf_41 ?_
      obtain ⟨Y, hY14, eY⟩ := hy1 (by omega)
      refine k_top (show Ab S = nI Y from eY) ?_
      refine lv_ishl hx hb d_Sig_argumentsOf_42 ?_
      refine k_top (nI_shl _ (by omega)) ?_
      refine lv_ior hx hb d_Sig_argumentsOf_43 ?_
      refine k_top (nI_or _ _) ?_
      refine lv_istore_n (lv' := [(3, .int (nI ((0 ||| (1 * 2 ^ X)) ||| (1 * 2 ^ Y)))), (2, .int (nI (tab (Op S)))), (0, .ref a_sig), (1, .int (nI S))]) hx hb d_Sig_argumentsOf_44 rfl hl (by decide) rfl (fun ls hl => ?_)
      refine lv_iload_n hx hb d_Sig_argumentsOf_45 rfl (lv_at hl 1 rfl) ?_
      refine lv_iconst (v := nI 3) hx hb d_Sig_argumentsOf_46 rfl ?_
      refine lv_icmp_lt (tgt := 61) hx hb d_Sig_argumentsOf_47 (by decide) (fun c47 => ?_) (fun c47 => ?_)
      · skip
        have c47 : (tab (Op S)) < 3 := (nI_ltI (by omega) (by omega)).mp c47
        refine lv_iload_n hx hb d_Sig_argumentsOf_61 rfl (lv_at hl 0 rfl) ?_
        exact W.iret (v := nI ((0 ||| (1 * 2 ^ X)) ||| (1 * 2 ^ Y))) hx hb hr (fun t ht hW => ⟨⟨nI ((0 ||| (1 * 2 ^ X)) ||| (1 * 2 ^ Y)), (), rfl, (by unfold amk; rw [if_neg c15, if_neg c31, if_pos c47, ix_of eX (by omega), ix_of eY (by omega)]; simp), by rw [ht]; exact hP, va_K.moved hW.alike hK, hD⟩, hS.F ht⟩) hS.2.2 d_Sig_argumentsOf_62
      · skip
        have c47 : ¬ ((tab (Op S)) < 3) := fun h => c47 ((nI_ltI (by omega) (by omega)).mpr h)
        refine lv_iload_n hx hb d_Sig_argumentsOf_50 rfl (lv_at hl 0 rfl) ?_
        refine lv_iconst (v := nI 1) hx hb d_Sig_argumentsOf_51 rfl ?_
        refine lv_aload_n hx hb d_Sig_argumentsOf_52 rfl (lv_at hl 2 rfl) ?_
        refine va_get (D := (dC, dI)) (ci := 1) (v := .ref a_sc) (C := R_Sig) (T := F_Sig) (N := 8) hx hb hts (wi i_Sig) hown hK hP 0 rfl rfl 6 (by decide) (hts _ (mt 81 rfl rfl)) (fun _ h9 => h9) rfl d_Sig_argumentsOf_53 ?_
        refine lv_iload_n hx hb d_Sig_argumentsOf_56 rfl (lv_at hl 3 rfl) ?_
        refine k_rld hx hb hK hP 4 0 rfl rfl (by omega) (by decide) d_Sig_argumentsOf_57 ?_
        obtain ⟨Z, hZ14, eZ⟩ := hz1 (by omega)
        refine k_top (show Ac S = nI Z from eZ) ?_
        refine lv_ishl hx hb d_Sig_argumentsOf_58 ?_
        refine k_top (nI_shl _ (by omega)) ?_
        refine lv_ior hx hb d_Sig_argumentsOf_59 ?_
        refine k_top (nI_or _ _) ?_
        refine lv_istore_n (lv' := [(3, .int (nI (((0 ||| (1 * 2 ^ X)) ||| (1 * 2 ^ Y)) ||| (1 * 2 ^ Z)))), (2, .int (nI (tab (Op S)))), (0, .ref a_sig), (1, .int (nI S))]) hx hb d_Sig_argumentsOf_60 rfl hl (by decide) rfl (fun ls hl => ?_)
        refine lv_iload_n hx hb d_Sig_argumentsOf_61 rfl (lv_at hl 0 rfl) ?_
        exact W.iret (v := nI (((0 ||| (1 * 2 ^ X)) ||| (1 * 2 ^ Y)) ||| (1 * 2 ^ Z))) hx hb hr (fun t ht hW => ⟨⟨nI (((0 ||| (1 * 2 ^ X)) ||| (1 * 2 ^ Y)) ||| (1 * 2 ^ Z)), (), rfl, (by unfold amk; rw [if_neg c15, if_neg c31, if_neg c47, ix_of eX (by omega), ix_of eY (by omega), ix_of eZ (by omega)]; simp [Nat.or_assoc]), by rw [ht]; exact hP, va_K.moved hW.alike hK, hD⟩, hS.F ht⟩) hS.2.2 d_Sig_argumentsOf_62
