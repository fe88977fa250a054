abbrev b_Chk_leastUnsetWire : ByteArray := prog_2_method_2_code
def y_Chk_leastUnsetWire : MethodName := ⟨"CircuitDesk$Checks", "leastUnsetWire", "()I"⟩
def w_Chk_leastUnsetWire : List Cond := .code y_Chk_leastUnsetWire b_Chk_leastUnsetWire 3 (some .int) :: lw_gw
theorem d_Chk_leastUnsetWire_0 : decode b_Chk_leastUnsetWire 0 = .ok (.aload_n 0, 1) := by decide +kernel
theorem d_Chk_leastUnsetWire_1 : decode b_Chk_leastUnsetWire 1 = .ok (.invokevirtual 35, 3) := by decide +kernel
theorem d_Chk_leastUnsetWire_4 : decode b_Chk_leastUnsetWire 4 = .ok (.istore_n 1, 1) := by decide +kernel
theorem d_Chk_leastUnsetWire_5 : decode b_Chk_leastUnsetWire 5 = .ok (.iconst 0, 1) := by decide +kernel
theorem d_Chk_leastUnsetWire_6 : decode b_Chk_leastUnsetWire 6 = .ok (.istore_n 2, 1) := by decide +kernel
theorem d_Chk_leastUnsetWire_7 : decode b_Chk_leastUnsetWire 7 = .ok (.iload_n 2, 1) := by decide +kernel
theorem d_Chk_leastUnsetWire_8 : decode b_Chk_leastUnsetWire 8 = .ok (.aload_n 0, 1) := by decide +kernel
theorem d_Chk_leastUnsetWire_9 : decode b_Chk_leastUnsetWire 9 = .ok (.getfield 27, 3) := by decide +kernel
theorem d_Chk_leastUnsetWire_12 : decode b_Chk_leastUnsetWire 12 = .ok (.getfield 39, 3) := by decide +kernel
theorem d_Chk_leastUnsetWire_15 : decode b_Chk_leastUnsetWire 15 = .ok (.if_icmp .ge 32, 3) := by decide +kernel
theorem d_Chk_leastUnsetWire_18 : decode b_Chk_leastUnsetWire 18 = .ok (.aload_n 0, 1) := by decide +kernel
theorem d_Chk_leastUnsetWire_19 : decode b_Chk_leastUnsetWire 19 = .ok (.getfield 27, 3) := by decide +kernel
theorem d_Chk_leastUnsetWire_22 : decode b_Chk_leastUnsetWire 22 = .ok (.getfield 45, 3) := by decide +kernel
theorem d_Chk_leastUnsetWire_25 : decode b_Chk_leastUnsetWire 25 = .ok (.iload_n 2, 1) := by decide +kernel
theorem d_Chk_leastUnsetWire_26 : decode b_Chk_leastUnsetWire 26 = .ok (.iaload, 1) := by decide +kernel
theorem d_Chk_leastUnsetWire_27 : decode b_Chk_leastUnsetWire 27 = .ok (.iconst 1, 1) := by decide +kernel
theorem d_Chk_leastUnsetWire_28 : decode b_Chk_leastUnsetWire 28 = .ok (.if_icmp .ne 13, 3) := by decide +kernel
theorem d_Chk_leastUnsetWire_31 : decode b_Chk_leastUnsetWire 31 = .ok (.iload_n 1, 1) := by decide +kernel
theorem d_Chk_leastUnsetWire_32 : decode b_Chk_leastUnsetWire 32 = .ok (.iload_n 2, 1) := by decide +kernel
theorem d_Chk_leastUnsetWire_33 : decode b_Chk_leastUnsetWire 33 = .ok (.ishr, 1) := by decide +kernel
theorem d_Chk_leastUnsetWire_34 : decode b_Chk_leastUnsetWire 34 = .ok (.iconst 1, 1) := by decide +kernel
theorem d_Chk_leastUnsetWire_35 : decode b_Chk_leastUnsetWire 35 = .ok (.iand, 1) := by decide +kernel
theorem d_Chk_leastUnsetWire_36 : decode b_Chk_leastUnsetWire 36 = .ok (.ifCond .ne 5, 3) := by decide +kernel
theorem d_Chk_leastUnsetWire_39 : decode b_Chk_leastUnsetWire 39 = .ok (.iload_n 2, 1) := by decide +kernel
theorem d_Chk_leastUnsetWire_40 : decode b_Chk_leastUnsetWire 40 = .ok (.ireturn, 1) := by decide +kernel
theorem d_Chk_leastUnsetWire_41 : decode b_Chk_leastUnsetWire 41 = .ok (.iinc 2 1, 3) := by decide +kernel
theorem d_Chk_leastUnsetWire_44 : decode b_Chk_leastUnsetWire 44 = .ok (.goto (-37), 3) := by decide +kernel
theorem d_Chk_leastUnsetWire_47 : decode b_Chk_leastUnsetWire 47 = .ok (.bipush (-2), 2) := by decide +kernel
theorem d_Chk_leastUnsetWire_49 : decode b_Chk_leastUnsetWire 49 = .ok (.ireturn, 1) := by decide +kernel
abbrev b_Chk_findRestsAtOnce : ByteArray := prog_2_method_5_code
def y_Chk_findRestsAtOnce : MethodName := ⟨"CircuitDesk$Checks", "findRestsAtOnce", "()V"⟩
def w_Chk_findRestsAtOnce : List Cond := .code y_Chk_findRestsAtOnce b_Chk_findRestsAtOnce 5 none :: lw_gw
theorem d_Chk_findRestsAtOnce_0 : decode b_Chk_findRestsAtOnce 0 = .ok (.iconst 0, 1) := by decide +kernel
theorem d_Chk_findRestsAtOnce_1 : decode b_Chk_findRestsAtOnce 1 = .ok (.istore_n 1, 1) := by decide +kernel
theorem d_Chk_findRestsAtOnce_2 : decode b_Chk_findRestsAtOnce 2 = .ok (.iload_n 1, 1) := by decide +kernel
theorem d_Chk_findRestsAtOnce_3 : decode b_Chk_findRestsAtOnce 3 = .ok (.aload_n 0, 1) := by decide +kernel
theorem d_Chk_findRestsAtOnce_4 : decode b_Chk_findRestsAtOnce 4 = .ok (.getfield 27, 3) := by decide +kernel
theorem d_Chk_findRestsAtOnce_7 : decode b_Chk_findRestsAtOnce 7 = .ok (.getfield 39, 3) := by decide +kernel
theorem d_Chk_findRestsAtOnce_10 : decode b_Chk_findRestsAtOnce 10 = .ok (.if_icmp .ge 40, 3) := by decide +kernel
theorem d_Chk_findRestsAtOnce_13 : decode b_Chk_findRestsAtOnce 13 = .ok (.aload_n 0, 1) := by decide +kernel
theorem d_Chk_findRestsAtOnce_14 : decode b_Chk_findRestsAtOnce 14 = .ok (.getfield 9, 3) := by decide +kernel
theorem d_Chk_findRestsAtOnce_17 : decode b_Chk_findRestsAtOnce 17 = .ok (.iload_n 1, 1) := by decide +kernel
theorem d_Chk_findRestsAtOnce_18 : decode b_Chk_findRestsAtOnce 18 = .ok (.aload_n 0, 1) := by decide +kernel
theorem d_Chk_findRestsAtOnce_19 : decode b_Chk_findRestsAtOnce 19 = .ok (.getfield 27, 3) := by decide +kernel
theorem d_Chk_findRestsAtOnce_22 : decode b_Chk_findRestsAtOnce 22 = .ok (.getfield 45, 3) := by decide +kernel
theorem d_Chk_findRestsAtOnce_25 : decode b_Chk_findRestsAtOnce 25 = .ok (.iload_n 1, 1) := by decide +kernel
theorem d_Chk_findRestsAtOnce_26 : decode b_Chk_findRestsAtOnce 26 = .ok (.iaload, 1) := by decide +kernel
theorem d_Chk_findRestsAtOnce_27 : decode b_Chk_findRestsAtOnce 27 = .ok (.iconst 3, 1) := by decide +kernel
theorem d_Chk_findRestsAtOnce_28 : decode b_Chk_findRestsAtOnce 28 = .ok (.if_icmp .ne 14, 3) := by decide +kernel
theorem d_Chk_findRestsAtOnce_31 : decode b_Chk_findRestsAtOnce 31 = .ok (.aload_n 0, 1) := by decide +kernel
theorem d_Chk_findRestsAtOnce_32 : decode b_Chk_findRestsAtOnce 32 = .ok (.getfield 27, 3) := by decide +kernel
theorem d_Chk_findRestsAtOnce_35 : decode b_Chk_findRestsAtOnce 35 = .ok (.iload_n 1, 1) := by decide +kernel
theorem d_Chk_findRestsAtOnce_36 : decode b_Chk_findRestsAtOnce 36 = .ok (.invokevirtual 66, 3) := by decide +kernel
theorem d_Chk_findRestsAtOnce_39 : decode b_Chk_findRestsAtOnce 39 = .ok (.goto 4, 3) := by decide +kernel
theorem d_Chk_findRestsAtOnce_42 : decode b_Chk_findRestsAtOnce 42 = .ok (.iconst 0, 1) := by decide +kernel
theorem d_Chk_findRestsAtOnce_43 : decode b_Chk_findRestsAtOnce 43 = .ok (.iastore, 1) := by decide +kernel
theorem d_Chk_findRestsAtOnce_44 : decode b_Chk_findRestsAtOnce 44 = .ok (.iinc 1 1, 3) := by decide +kernel
theorem d_Chk_findRestsAtOnce_47 : decode b_Chk_findRestsAtOnce 47 = .ok (.goto (-45), 3) := by decide +kernel
theorem d_Chk_findRestsAtOnce_50 : decode b_Chk_findRestsAtOnce 50 = .ok (.iconst 0, 1) := by decide +kernel
theorem d_Chk_findRestsAtOnce_51 : decode b_Chk_findRestsAtOnce 51 = .ok (.istore_n 1, 1) := by decide +kernel
theorem d_Chk_findRestsAtOnce_52 : decode b_Chk_findRestsAtOnce 52 = .ok (.aload_n 0, 1) := by decide +kernel
theorem d_Chk_findRestsAtOnce_53 : decode b_Chk_findRestsAtOnce 53 = .ok (.getfield 18, 3) := by decide +kernel
theorem d_Chk_findRestsAtOnce_56 : decode b_Chk_findRestsAtOnce 56 = .ok (.iconst 0, 1) := by decide +kernel
theorem d_Chk_findRestsAtOnce_57 : decode b_Chk_findRestsAtOnce 57 = .ok (.iconst 0, 1) := by decide +kernel
theorem d_Chk_findRestsAtOnce_58 : decode b_Chk_findRestsAtOnce 58 = .ok (.iastore, 1) := by decide +kernel
theorem d_Chk_findRestsAtOnce_59 : decode b_Chk_findRestsAtOnce 59 = .ok (.iconst 0, 1) := by decide +kernel
theorem d_Chk_findRestsAtOnce_60 : decode b_Chk_findRestsAtOnce 60 = .ok (.istore_n 2, 1) := by decide +kernel
theorem d_Chk_findRestsAtOnce_61 : decode b_Chk_findRestsAtOnce 61 = .ok (.iload_n 2, 1) := by decide +kernel
theorem d_Chk_findRestsAtOnce_62 : decode b_Chk_findRestsAtOnce 62 = .ok (.aload_n 0, 1) := by decide +kernel
theorem d_Chk_findRestsAtOnce_63 : decode b_Chk_findRestsAtOnce 63 = .ok (.getfield 31, 3) := by decide +kernel
theorem d_Chk_findRestsAtOnce_66 : decode b_Chk_findRestsAtOnce 66 = .ok (.getfield 48, 3) := by decide +kernel
theorem d_Chk_findRestsAtOnce_69 : decode b_Chk_findRestsAtOnce 69 = .ok (.if_icmp .ge 117, 3) := by decide +kernel
theorem d_Chk_findRestsAtOnce_72 : decode b_Chk_findRestsAtOnce 72 = .ok (.aload_n 0, 1) := by decide +kernel
theorem d_Chk_findRestsAtOnce_73 : decode b_Chk_findRestsAtOnce 73 = .ok (.getfield 31, 3) := by decide +kernel
theorem d_Chk_findRestsAtOnce_76 : decode b_Chk_findRestsAtOnce 76 = .ok (.getfield 54, 3) := by decide +kernel
theorem d_Chk_findRestsAtOnce_79 : decode b_Chk_findRestsAtOnce 79 = .ok (.iload_n 2, 1) := by decide +kernel
theorem d_Chk_findRestsAtOnce_80 : decode b_Chk_findRestsAtOnce 80 = .ok (.iaload, 1) := by decide +kernel
theorem d_Chk_findRestsAtOnce_81 : decode b_Chk_findRestsAtOnce 81 = .ok (.istore_n 3, 1) := by decide +kernel
theorem d_Chk_findRestsAtOnce_82 : decode b_Chk_findRestsAtOnce 82 = .ok (.aload_n 0, 1) := by decide +kernel
theorem d_Chk_findRestsAtOnce_83 : decode b_Chk_findRestsAtOnce 83 = .ok (.getfield 31, 3) := by decide +kernel
theorem d_Chk_findRestsAtOnce_86 : decode b_Chk_findRestsAtOnce 86 = .ok (.getfield 51, 3) := by decide +kernel
theorem d_Chk_findRestsAtOnce_89 : decode b_Chk_findRestsAtOnce 89 = .ok (.iload_n 2, 1) := by decide +kernel
theorem d_Chk_findRestsAtOnce_90 : decode b_Chk_findRestsAtOnce 90 = .ok (.iaload, 1) := by decide +kernel
theorem d_Chk_findRestsAtOnce_91 : decode b_Chk_findRestsAtOnce 91 = .ok (.istore 4, 2) := by decide +kernel
theorem d_Chk_findRestsAtOnce_93 : decode b_Chk_findRestsAtOnce 93 = .ok (.iload 4, 2) := by decide +kernel
theorem d_Chk_findRestsAtOnce_95 : decode b_Chk_findRestsAtOnce 95 = .ok (.iconst 1, 1) := by decide +kernel
theorem d_Chk_findRestsAtOnce_96 : decode b_Chk_findRestsAtOnce 96 = .ok (.if_icmp .ne 27, 3) := by decide +kernel
theorem d_Chk_findRestsAtOnce_99 : decode b_Chk_findRestsAtOnce 99 = .ok (.iinc 1 1, 3) := by decide +kernel
theorem d_Chk_findRestsAtOnce_102 : decode b_Chk_findRestsAtOnce 102 = .ok (.aload_n 0, 1) := by decide +kernel
theorem d_Chk_findRestsAtOnce_103 : decode b_Chk_findRestsAtOnce 103 = .ok (.getfield 18, 3) := by decide +kernel
theorem d_Chk_findRestsAtOnce_106 : decode b_Chk_findRestsAtOnce 106 = .ok (.iload_n 1, 1) := by decide +kernel
theorem d_Chk_findRestsAtOnce_107 : decode b_Chk_findRestsAtOnce 107 = .ok (.aload_n 0, 1) := by decide +kernel
theorem d_Chk_findRestsAtOnce_108 : decode b_Chk_findRestsAtOnce 108 = .ok (.getfield 18, 3) := by decide +kernel
theorem d_Chk_findRestsAtOnce_111 : decode b_Chk_findRestsAtOnce 111 = .ok (.iload_n 1, 1) := by decide +kernel
theorem d_Chk_findRestsAtOnce_112 : decode b_Chk_findRestsAtOnce 112 = .ok (.iconst 1, 1) := by decide +kernel
theorem d_Chk_findRestsAtOnce_113 : decode b_Chk_findRestsAtOnce 113 = .ok (.isub, 1) := by decide +kernel
theorem d_Chk_findRestsAtOnce_114 : decode b_Chk_findRestsAtOnce 114 = .ok (.iaload, 1) := by decide +kernel
theorem d_Chk_findRestsAtOnce_115 : decode b_Chk_findRestsAtOnce 115 = .ok (.iconst 1, 1) := by decide +kernel
theorem d_Chk_findRestsAtOnce_116 : decode b_Chk_findRestsAtOnce 116 = .ok (.iload_n 3, 1) := by decide +kernel
theorem d_Chk_findRestsAtOnce_117 : decode b_Chk_findRestsAtOnce 117 = .ok (.ishl, 1) := by decide +kernel
theorem d_Chk_findRestsAtOnce_118 : decode b_Chk_findRestsAtOnce 118 = .ok (.ior, 1) := by decide +kernel
theorem d_Chk_findRestsAtOnce_119 : decode b_Chk_findRestsAtOnce 119 = .ok (.iastore, 1) := by decide +kernel
theorem d_Chk_findRestsAtOnce_120 : decode b_Chk_findRestsAtOnce 120 = .ok (.goto 60, 3) := by decide +kernel
theorem d_Chk_findRestsAtOnce_123 : decode b_Chk_findRestsAtOnce 123 = .ok (.iload 4, 2) := by decide +kernel
theorem d_Chk_findRestsAtOnce_125 : decode b_Chk_findRestsAtOnce 125 = .ok (.iconst 3, 1) := by decide +kernel
theorem d_Chk_findRestsAtOnce_126 : decode b_Chk_findRestsAtOnce 126 = .ok (.if_icmp .ne 9, 3) := by decide +kernel
theorem d_Chk_findRestsAtOnce_129 : decode b_Chk_findRestsAtOnce 129 = .ok (.iinc 1 (-1), 3) := by decide +kernel
theorem d_Chk_findRestsAtOnce_132 : decode b_Chk_findRestsAtOnce 132 = .ok (.goto 48, 3) := by decide +kernel
theorem d_Chk_findRestsAtOnce_135 : decode b_Chk_findRestsAtOnce 135 = .ok (.iload 4, 2) := by decide +kernel
theorem d_Chk_findRestsAtOnce_137 : decode b_Chk_findRestsAtOnce 137 = .ok (.ifCond .ne 43, 3) := by decide +kernel
theorem d_Chk_findRestsAtOnce_140 : decode b_Chk_findRestsAtOnce 140 = .ok (.aload_n 0, 1) := by decide +kernel
theorem d_Chk_findRestsAtOnce_141 : decode b_Chk_findRestsAtOnce 141 = .ok (.getfield 27, 3) := by decide +kernel
theorem d_Chk_findRestsAtOnce_144 : decode b_Chk_findRestsAtOnce 144 = .ok (.getfield 45, 3) := by decide +kernel
theorem d_Chk_findRestsAtOnce_147 : decode b_Chk_findRestsAtOnce 147 = .ok (.iload_n 3, 1) := by decide +kernel
theorem d_Chk_findRestsAtOnce_148 : decode b_Chk_findRestsAtOnce 148 = .ok (.iaload, 1) := by decide +kernel
theorem d_Chk_findRestsAtOnce_149 : decode b_Chk_findRestsAtOnce 149 = .ok (.iconst 1, 1) := by decide +kernel
theorem d_Chk_findRestsAtOnce_150 : decode b_Chk_findRestsAtOnce 150 = .ok (.if_icmp .ne 30, 3) := by decide +kernel
theorem d_Chk_findRestsAtOnce_153 : decode b_Chk_findRestsAtOnce 153 = .ok (.aload_n 0, 1) := by decide +kernel
theorem d_Chk_findRestsAtOnce_154 : decode b_Chk_findRestsAtOnce 154 = .ok (.getfield 9, 3) := by decide +kernel
theorem d_Chk_findRestsAtOnce_157 : decode b_Chk_findRestsAtOnce 157 = .ok (.iload_n 3, 1) := by decide +kernel
theorem d_Chk_findRestsAtOnce_158 : decode b_Chk_findRestsAtOnce 158 = .ok (.dup2, 1) := by decide +kernel
theorem d_Chk_findRestsAtOnce_159 : decode b_Chk_findRestsAtOnce 159 = .ok (.iaload, 1) := by decide +kernel
theorem d_Chk_findRestsAtOnce_160 : decode b_Chk_findRestsAtOnce 160 = .ok (.aload_n 0, 1) := by decide +kernel
theorem d_Chk_findRestsAtOnce_161 : decode b_Chk_findRestsAtOnce 161 = .ok (.getfield 18, 3) := by decide +kernel
theorem d_Chk_findRestsAtOnce_164 : decode b_Chk_findRestsAtOnce 164 = .ok (.iload_n 1, 1) := by decide +kernel
theorem d_Chk_findRestsAtOnce_165 : decode b_Chk_findRestsAtOnce 165 = .ok (.iaload, 1) := by decide +kernel
theorem d_Chk_findRestsAtOnce_166 : decode b_Chk_findRestsAtOnce 166 = .ok (.iconst 1, 1) := by decide +kernel
theorem d_Chk_findRestsAtOnce_167 : decode b_Chk_findRestsAtOnce 167 = .ok (.aload_n 0, 1) := by decide +kernel
theorem d_Chk_findRestsAtOnce_168 : decode b_Chk_findRestsAtOnce 168 = .ok (.getfield 31, 3) := by decide +kernel
theorem d_Chk_findRestsAtOnce_171 : decode b_Chk_findRestsAtOnce 171 = .ok (.getfield 70, 3) := by decide +kernel
theorem d_Chk_findRestsAtOnce_174 : decode b_Chk_findRestsAtOnce 174 = .ok (.iload_n 2, 1) := by decide +kernel
theorem d_Chk_findRestsAtOnce_175 : decode b_Chk_findRestsAtOnce 175 = .ok (.iaload, 1) := by decide +kernel
theorem d_Chk_findRestsAtOnce_176 : decode b_Chk_findRestsAtOnce 176 = .ok (.ishl, 1) := by decide +kernel
theorem d_Chk_findRestsAtOnce_177 : decode b_Chk_findRestsAtOnce 177 = .ok (.ior, 1) := by decide +kernel
theorem d_Chk_findRestsAtOnce_178 : decode b_Chk_findRestsAtOnce 178 = .ok (.ior, 1) := by decide +kernel
theorem d_Chk_findRestsAtOnce_179 : decode b_Chk_findRestsAtOnce 179 = .ok (.iastore, 1) := by decide +kernel
theorem d_Chk_findRestsAtOnce_180 : decode b_Chk_findRestsAtOnce 180 = .ok (.iinc 2 1, 3) := by decide +kernel
theorem d_Chk_findRestsAtOnce_183 : decode b_Chk_findRestsAtOnce 183 = .ok (.goto (-122), 3) := by decide +kernel
theorem d_Chk_findRestsAtOnce_186 : decode b_Chk_findRestsAtOnce 186 = .ok (.return_, 1) := by decide +kernel
set_option maxHeartbeats 4000000 in
set_option maxRecDepth 100000 in
theorem c_Chk_leastUnsetWire (l : Launch) (dC : Nat → ClassId) (dI : Nat → Nat → Nat) (cI cZ : ClassId) (a_chk a_rao a_sig a_stm a_ron a_aro a_sip a_sif a_kind a_width a_rword a_sop a_sa a_sb a_sc a_sort a_subject a_source a_elseSeen : Nat) (tt sz : Nat) (n : Nat) (Kd : Nat → Nat) (ms : Nat) (ow : Nat) (So : Nat → Nat) (Su : Nat → Nat) (SPt : Nat → Nat) (SFt : Nat → Nat) (b_n : n ≤ 14) (b_Kd : ∀ j, Kd j < 4) (b_ms : ms ≤ 20) (b_ow : ow ≤ 4) (b_So : ∀ j, So j < 4) (b_Su : ∀ j, Su j < 14) (b_SPt : ∀ j, SPt j < 16384) (b_SFt : ∀ j, SFt j < 16384) (hLG : LG So ms) (hd0 : dp So ms = 0) : Met l y_Chk_leastUnsetWire w_Chk_leastUnsetWire ({ frames := 1, cells := 0, slots := 0, locals := 23 }) (va_Pc [.ref a_chk] (PW (dC, dI) classes [(cI, .int), (cZ, .boolean)] tt [(a_chk, .inr (3, [.ref a_rao, .ref a_sig, .ref a_stm, .ref a_ron, .ref a_aro, .ref a_sip, .ref a_sif])), (a_sig, .inr (1, [.ref a_kind, .ref a_width, .ref a_rword, .ref a_sop, .ref a_sa, .ref a_sb, .ref a_sc, .int (nI n)])), (a_kind, .inl (cI, 14, .inl (nF Kd))), (a_stm, .inr (2, [.ref a_sort, .ref a_subject, .ref a_source, .int (nI ms), .int (nI ow), .ref a_elseSeen])), (a_sort, .inl (cI, 20, .inl (nF So))), (a_subject, .inl (cI, 20, .inl (nF Su))), (a_sip, .inl (cI, 5, .inl (nF SPt))), (a_sif, .inl (cI, 5, .inl (nF SFt)))] sz)) (va_Qi (fun (r : Int32) (u : (Nat → Nat) × (Nat → Nat)) => (∀ j, u.1 j < 16384) ∧ (∀ j, u.2 j < 16384) ∧ (Lst (fun z => Kd z = 1 ∧ (mPF So Su ms 0).1 / 2 ^ z % 2 = 0) n r)) (AT (dC, dI) classes [(cI, .int), (cZ, .boolean)] (va_A [(a_chk, .inr (3, [.ref a_rao, .ref a_sig, .ref a_stm, .ref a_ron, .ref a_aro, .ref a_sip, .ref a_sif])), (a_sig, .inr (1, [.ref a_kind, .ref a_width, .ref a_rword, .ref a_sop, .ref a_sa, .ref a_sb, .ref a_sc, .int (nI n)])), (a_kind, .inl (cI, 14, .inl (nF Kd))), (a_stm, .inr (2, [.ref a_sort, .ref a_subject, .ref a_source, .int (nI ms), .int (nI ow), .ref a_elseSeen])), (a_sort, .inl (cI, 20, .inl (nF So))), (a_subject, .inl (cI, 20, .inl (nF Su))), (a_sip, .inl (cI, 5, .inl (nF SPt))), (a_sif, .inl (cI, 5, .inl (nF SFt)))] sz) (fun (u : (Nat → Nat) × (Nat → Nat)) => [(a_chk, .inr (3, [.ref a_rao, .ref a_sig, .ref a_stm, .ref a_ron, .ref a_aro, .ref a_sip, .ref a_sif])), (a_sig, .inr (1, [.ref a_kind, .ref a_width, .ref a_rword, .ref a_sop, .ref a_sa, .ref a_sb, .ref a_sc, .int (nI n)])), (a_kind, .inl (cI, 14, .inl (nF Kd))), (a_stm, .inr (2, [.ref a_sort, .ref a_subject, .ref a_source, .int (nI ms), .int (nI ow), .ref a_elseSeen])), (a_sort, .inl (cI, 20, .inl (nF So))), (a_subject, .inl (cI, 20, .inl (nF Su))), (a_sip, .inl (cI, 5, .inl (nF u.1))), (a_sif, .inl (cI, 5, .inl (nF u.2)))])) (va_A [(a_chk, .inr (3, [.ref a_rao, .ref a_sig, .ref a_stm, .ref a_ron, .ref a_aro, .ref a_sip, .ref a_sif])), (a_sig, .inr (1, [.ref a_kind, .ref a_width, .ref a_rword, .ref a_sop, .ref a_sa, .ref a_sb, .ref a_sc, .int (nI n)])), (a_kind, .inl (cI, 14, .inl (nF Kd))), (a_stm, .inr (2, [.ref a_sort, .ref a_subject, .ref a_source, .int (nI ms), .int (nI ow), .ref a_elseSeen])), (a_sort, .inl (cI, 20, .inl (nF So))), (a_subject, .inl (cI, 20, .inl (nF Su))), (a_sip, .inl (cI, 5, .inl (nF SPt))), (a_sif, .inl (cI, 5, .inl (nF SFt)))] sz)) 0 0 (va_A [(a_chk, .inr (3, [.ref a_rao, .ref a_sig, .ref a_stm, .ref a_ron, .ref a_aro, .ref a_sip, .ref a_sif])), (a_sig, .inr (1, [.ref a_kind, .ref a_width, .ref a_rword, .ref a_sop, .ref a_sa, .ref a_sb, .ref a_sc, .int (nI n)])), (a_kind, .inl (cI, 14, .inl (nF Kd))), (a_stm, .inr (2, [.ref a_sort, .ref a_subject, .ref a_source, .int (nI ms), .int (nI ow), .ref a_elseSeen])), (a_sort, .inl (cI, 20, .inl (nF So))), (a_subject, .inl (cI, 20, .inl (nF Su))), (a_sip, .inl (cI, 5, .inl (nF SPt))), (a_sif, .inl (cI, 5, .inl (nF SFt)))] sz) := by
  refine Met.ofW (cc := b_Chk_leastUnsetWire) (maxL := 3) (ret := (some .int)) (by decide) rfl ?_
  intro p e s m args below meth c s₁ B hml hv
  obtain ⟨rfl, hsz, hP, hK, hD0, hE⟩ := hv
  have hx := B.exec
  have hb := B.bytes
  have hr := B.returns
  have hts := atoms_spec (ws := w_Chk_leastUnsetWire) B.pre
  have hown : s.vm.findClass R_Chk = some m.cls := findClass_of_methodNamed B.named
  have hlocks := B.notSynchronized
  subst hsz
  have hD := hD0.self (sz := s.heap.size)
  generalize hAe : va_A [(a_chk, .inr (3, [.ref a_rao, .ref a_sig, .ref a_stm, .ref a_ron, .ref a_aro, .ref a_sip, .ref a_sif])), (a_sig, .inr (1, [.ref a_kind, .ref a_width, .ref a_rword, .ref a_sop, .ref a_sa, .ref a_sb, .ref a_sc, .int (nI n)])), (a_kind, .inl (cI, 14, .inl (nF Kd))), (a_stm, .inr (2, [.ref a_sort, .ref a_subject, .ref a_source, .int (nI ms), .int (nI ow), .ref a_elseSeen])), (a_sort, .inl (cI, 20, .inl (nF So))), (a_subject, .inl (cI, 20, .inl (nF Su))), (a_sip, .inl (cI, 5, .inl (nF SPt))), (a_sif, .inl (cI, 5, .inl (nF SFt)))] s.heap.size = A at hD hE ⊢
  have hA : ∀ q : Nat, s.heap.size ≤ q → A q := fun q h => by rw [← hAe]; exact Or.inr h
  have hS : va_S A s.heap s.heap [] := va_S.rf
  have hP : va_P (dC, dI) classes [(a_chk, .inr (3, [.ref a_rao, .ref a_sig, .ref a_stm, .ref a_ron, .ref a_aro, .ref a_sip, .ref a_sif])), (a_sig, .inr (1, [.ref a_kind, .ref a_width, .ref a_rword, .ref a_sop, .ref a_sa, .ref a_sb, .ref a_sc, .int (nI n)])), (a_kind, .inl (cI, 14, .inl (nF Kd))), (a_stm, .inr (2, [.ref a_sort, .ref a_subject, .ref a_source, .int (nI ms), .int (nI ow), .ref a_elseSeen])), (a_sort, .inl (cI, 20, .inl (nF So))), (a_subject, .inl (cI, 20, .inl (nF Su))), (a_sip, .inl (cI, 5, .inl (nF SPt))), (a_sif, .inl (cI, 5, .inl (nF SFt)))] s.heap := hP
  have hl := lv_entry ([.ref a_chk]) (n := 3) (Nat.le_of_ble_eq_true rfl)
  rw [lg_entry_eq]
  generalize (lg_sl ([.ref a_chk]) ++ List.replicate (3 - (lg_sl ([.ref a_chk])).length) Slot.unset).toArray = ls at hl ⊢
  have hl : lv_has ls 3 [(0, .ref a_chk)] := hl
  refine lv_aload_n hx hb d_Chk_leastUnsetWire_0 rfl (lv_at hl 0 rfl) ?_
  refine k_i (wr := [(a_sig, .inr (1, [.ref a_kind, .ref a_width, .ref a_rword, .ref a_sop, .ref a_sa, .ref a_sb, .ref a_sc, .int (nI n)])), (a_kind, .inl (cI, 14, .inl (nF Kd)))]) (w2 := fun (u : (Nat → Nat) × (Nat → Nat)) => [(a_chk, .inr (3, [.ref a_rao, .ref a_sig, .ref a_stm, .ref a_ron, .ref a_aro, .ref a_sip, .ref a_sif])), (a_sig, .inr (1, [.ref a_kind, .ref a_width, .ref a_rword, .ref a_sop, .ref a_sa, .ref a_sb, .ref a_sc, .int (nI n)])), (a_kind, .inl (cI, 14, .inl (nF Kd))), (a_stm, .inr (2, [.ref a_sort, .ref a_subject, .ref a_source, .int (nI ms), .int (nI ow), .ref a_elseSeen])), (a_sort, .inl (cI, 20, .inl (nF So))), (a_subject, .inl (cI, 20, .inl (nF Su))), (a_sip, .inl (cI, 5, .inl (nF u.1))), (a_sif, .inl (cI, 5, .inl (nF u.2)))]) (va_runV (As := []) (rest := []) ⟨hx, hb, hml, hown, hts⟩ (c_Chk_sureSinks l dC dI cI cZ a_chk a_rao a_sig a_stm a_ron a_aro a_sip a_sif a_sort a_subject a_source a_elseSeen tt s.heap.size ms ow So Su SPt SFt  (by omega) (by omega) b_So b_Su b_SPt b_SFt hLG hd0) (cwV 0 hts (gd_V in_tl (mw 363 rfl rfl) (mw 365 rfl rfl) (mw 3 rfl rfl) (mw 44 rfl rfl) (mw 366 rfl rfl)) rfl rfl rfl (by decide +kernel) ⟨Nat.le_of_ble_eq_true rfl, Nat.le_of_ble_eq_true rfl⟩) (k_preV hK hP hD hS hA hE [0, 3, 4, 5, 6, 7] (by decide) rfl 3 0 rfl rfl) rfl rfl hl.1 rfl (lv_room (Nat.le_of_ble_eq_true rfl)) d_Chk_leastUnsetWire_1 ⟨Nat.zero_le _, Nat.zero_le _⟩) hP hD hS hA [0, 3, 4, 5, 6, 7] [1, 2] [2, 0, 1, 3, 4, 5, 6, 7] rfl rfl (by decide) (by decide) (by decide) (fun _ => rfl) (fun r_3 u H locs hw hP hD hS => ?_)
  obtain ⟨SPtv_1, SFtv_2⟩ := u
  obtain ⟨v_4, rfl, b_SPtv_1, b_SFtv_2, hv_1, hv2_1⟩ : ∃ rv : Nat, r_3 = nI rv ∧ (∀ j, SPtv_1 j < 16384) ∧ (∀ j, SFtv_2 j < 16384) ∧ (rv = (mPF So Su ms 0).1) ∧ (rv < 16384) := hw
  have hP : va_P (dC, dI) classes [(a_chk, .inr (3, [.ref a_rao, .ref a_sig, .ref a_stm, .ref a_ron, .ref a_aro, .ref a_sip, .ref a_sif])), (a_sig, .inr (1, [.ref a_kind, .ref a_width, .ref a_rword, .ref a_sop, .ref a_sa, .ref a_sb, .ref a_sc, .int (nI n)])), (a_kind, .inl (cI, 14, .inl (nF Kd))), (a_stm, .inr (2, [.ref a_sort, .ref a_subject, .ref a_source, .int (nI ms), .int (nI ow), .ref a_elseSeen])), (a_sort, .inl (cI, 20, .inl (nF So))), (a_subject, .inl (cI, 20, .inl (nF Su))), (a_sip, .inl (cI, 5, .inl (nF SPtv_1))), (a_sif, .inl (cI, 5, .inl (nF SFtv_2)))] H := hP
  have hD : va_D A [(a_chk, .inr (3, [.ref a_rao, .ref a_sig, .ref a_stm, .ref a_ron, .ref a_aro, .ref a_sip, .ref a_sif])), (a_sig, .inr (1, [.ref a_kind, .ref a_width, .ref a_rword, .ref a_sop, .ref a_sa, .ref a_sb, .ref a_sc, .int (nI n)])), (a_kind, .inl (cI, 14, .inl (nF Kd))), (a_stm, .inr (2, [.ref a_sort, .ref a_subject, .ref a_source, .int (nI ms), .int (nI ow), .ref a_elseSeen])), (a_sort, .inl (cI, 20, .inl (nF So))), (a_subject, .inl (cI, 20, .inl (nF Su))), (a_sip, .inl (cI, 5, .inl (nF SPtv_1))), (a_sif, .inl (cI, 5, .inl (nF SFtv_2)))] := hD
  subst hv_1
  refine lv_istore_n (lv' := [(1, .int (nI ((mPF So Su ms 0).1))), (0, .ref a_chk)]) hx hb d_Chk_leastUnsetWire_4 rfl hl (by decide) rfl (fun ls hl => ?_)
  refine lv_iconst (v := nI 0) hx hb d_Chk_leastUnsetWire_5 rfl ?_
  refine lv_istore_n (lv' := [(2, .int (nI 0)), (1, .int (nI ((mPF So Su ms 0).1))), (0, .ref a_chk)]) hx hb d_Chk_leastUnsetWire_6 rfl hl (by decide) rfl (fun ls hl => ?_)
  have hI_5 : (∀ z, z < 0 → ¬ (Kd z = 1 ∧ (mPF So Su ms 0).1 / 2 ^ z % 2 = 0)) ∧ (0 ≤ n) := ⟨(fun z h => absurd h (by omega)), (by omega)⟩
  refine k_loop (σ := Nat) (D := (dC, dI)) (cl := classes) (A := A) (H0 := s.heap) (fun x => [(a_chk, .inr (3, [.ref a_rao, .ref a_sig, .ref a_stm, .ref a_ron, .ref a_aro, .ref a_sip, .ref a_sif])), (a_sig, .inr (1, [.ref a_kind, .ref a_width, .ref a_rword, .ref a_sop, .ref a_sa, .ref a_sb, .ref a_sc, .int (nI n)])), (a_kind, .inl (cI, 14, .inl (nF Kd))), (a_stm, .inr (2, [.ref a_sort, .ref a_subject, .ref a_source, .int (nI ms), .int (nI ow), .ref a_elseSeen])), (a_sort, .inl (cI, 20, .inl (nF So))), (a_subject, .inl (cI, 20, .inl (nF Su))), (a_sip, .inl (cI, 5, .inl (nF SPtv_1))), (a_sif, .inl (cI, 5, .inl (nF SFtv_2)))]) (fun x => [(2, .int (nI x)), (1, .int (nI ((mPF So Su ms 0).1))), (0, .ref a_chk)]) (fun x => (∀ z, z < x → ¬ (Kd z = 1 ∧ (mPF So Su ms 0).1 / 2 ^ z % 2 = 0)) ∧ (x ≤ n)) (fun x => n - x) ?_ (0) hI_5 hP hD hS (lv_sub hl [0, 1, 2] rfl)
  intro i hI ih_6 H locs ls hP hD hS hl
  obtain ⟨hi, hin⟩ : (∀ z, z < i → ¬ (Kd z = 1 ∧ (mPF So Su ms 0).1 / 2 ^ z % 2 = 0)) ∧ (i ≤ n) := hI
  have hP : va_P (dC, dI) classes [(a_chk, .inr (3, [.ref a_rao, .ref a_sig, .ref a_stm, .ref a_ron, .ref a_aro, .ref a_sip, .ref a_sif])), (a_sig, .inr (1, [.ref a_kind, .ref a_width, .ref a_rword, .ref a_sop, .ref a_sa, .ref a_sb, .ref a_sc, .int (nI n)])), (a_kind, .inl (cI, 14, .inl (nF Kd))), (a_stm, .inr (2, [.ref a_sort, .ref a_subject, .ref a_source, .int (nI ms), .int (nI ow), .ref a_elseSeen])), (a_sort, .inl (cI, 20, .inl (nF So))), (a_subject, .inl (cI, 20, .inl (nF Su))), (a_sip, .inl (cI, 5, .inl (nF SPtv_1))), (a_sif, .inl (cI, 5, .inl (nF SFtv_2)))] H := hP
  have hD : va_D A [(a_chk, .inr (3, [.ref a_rao, .ref a_sig, .ref a_stm, .ref a_ron, .ref a_aro, .ref a_sip, .ref a_sif])), (a_sig, .inr (1, [.ref a_kind, .ref a_width, .ref a_rword, .ref a_sop, .ref a_sa, .ref a_sb, .ref a_sc, .int (nI n)])), (a_kind, .inl (cI, 14, .inl (nF Kd))), (a_stm, .inr (2, [.ref a_sort, .ref a_subject, .ref a_source, .int (nI ms), .int (nI ow), .ref a_elseSeen])), (a_sort, .inl (cI, 20, .inl (nF So))), (a_subject, .inl (cI, 20, .inl (nF Su))), (a_sip, .inl (cI, 5, .inl (nF SPtv_1))), (a_sif, .inl (cI, 5, .inl (nF SFtv_2)))] := hD
  have hl : lv_has ls 3 [(2, .int (nI i)), (1, .int (nI ((mPF So Su ms 0).1))), (0, .ref a_chk)] := hl
  refine lv_iload_n hx hb d_Chk_leastUnsetWire_7 rfl (lv_at hl 0 rfl) ?_
  refine lv_aload_n hx hb d_Chk_leastUnsetWire_8 rfl (lv_at hl 2 rfl) ?_
  refine va_get (D := (dC, dI)) (ci := 3) (v := .ref a_sig) (C := R_Chk) (T := F_Chk) (N := 7) hx hb hts (wi i_Chk) hown hK hP 0 rfl rfl 1 (by decide) (hts _ (mt 149 rfl rfl)) (fun _ h9 => h9) rfl d_Chk_leastUnsetWire_9 ?_
  refine va_get (D := (dC, dI)) (ci := 1) (v := .int (nI n)) (C := R_Sig) (T := F_Sig) (N := 8) hx hb hts (wi i_Sig) hown hK hP 1 rfl rfl 7 (by decide) (hts _ (mt 84 rfl rfl)) (fun _ h9 => h9) rfl d_Chk_leastUnsetWire_12 ?_
  refine lv_icmp_ge (tgt := 47) hx hb d_Chk_leastUnsetWire_15 (by decide) (fun c15 => ?_) (fun c15 => ?_)
  · skip
    have c15 : n ≤ i := (nI_leI (by omega) (by omega)).mp c15
    refine lv_bipush (v := (-2 : Int32)) hx hb d_Chk_leastUnsetWire_47 rfl ?_
    exact W.iret (v := (-2 : Int32)) hx hb hr (fun t ht hW => ⟨⟨(-2 : Int32), (SPtv_1, SFtv_2), rfl, ⟨b_SPtv_1, b_SFtv_2, (show Lst (fun z => Kd z = 1 ∧ (mPF So Su ms 0).1 / 2 ^ z % 2 = 0) n (-2 : Int32) from (Or.inl ⟨rfl, fun z hz => hi z (by omega)⟩))⟩, by rw [ht]; exact hP, va_K.moved hW.alike hK, hD⟩, hS.F ht⟩) hS.2.2 d_Chk_leastUnsetWire_49
  · skip
    have c15 : ¬ (n ≤ i) := fun h => c15 ((nI_leI (by omega) (by omega)).mpr h)
    refine lv_aload_n hx hb d_Chk_leastUnsetWire_18 rfl (lv_at hl 2 rfl) ?_
    refine va_get (D := (dC, dI)) (ci := 3) (v := .ref a_sig) (C := R_Chk) (T := F_Chk) (N := 7) hx hb hts (wi i_Chk) hown hK hP 0 rfl rfl 1 (by decide) (hts _ (mt 149 rfl rfl)) (fun _ h9 => h9) rfl d_Chk_leastUnsetWire_19 ?_
    refine va_get (D := (dC, dI)) (ci := 1) (v := .ref a_kind) (C := R_Sig) (T := F_Sig) (N := 8) hx hb hts (wi i_Sig) hown hK hP 1 rfl rfl 0 (by decide) (hts _ (mt 66 rfl rfl)) (fun _ h9 => h9) rfl d_Chk_leastUnsetWire_22 ?_
    refine lv_iload_n hx hb d_Chk_leastUnsetWire_25 rfl (lv_at hl 0 rfl) ?_
    refine k_ild hx hb hK hP 2 0 rfl rfl (by omega) (by decide) d_Chk_leastUnsetWire_26 ?_
    have hb_7 := b_Kd i
    refine lv_iconst (v := nI 1) hx hb d_Chk_leastUnsetWire_27 rfl ?_
    refine lv_icmp_ne (tgt := 41) hx hb d_Chk_leastUnsetWire_28 (by decide) (fun c28 => ?_) (fun c28 => ?_)
    · skip
      have c28 : ¬ ((Kd i) = 1) := fun h => c28 ((nI_eq (by omega) (by omega)).mpr h)
      refine lv_iinc (v := nI (i + 1)) (lv' := [(2, .int (nI (i + 1))), (1, .int (nI ((mPF So Su ms 0).1))), (0, .ref a_chk)]) hx hb d_Chk_leastUnsetWire_41 hl (k := 0) rfl (k_inc _ 1) (by decide) rfl (fun ls hl => ?_)
      refine lv_goto (tgt := 7) hx hb d_Chk_leastUnsetWire_44 (by decide) ?_
      have hI_8 : (∀ z, z < (i + 1) → ¬ (Kd z = 1 ∧ (mPF So Su ms 0).1 / 2 ^ z % 2 = 0)) ∧ ((i + 1) ≤ n) := ⟨(fun z hz => by
      by_cases e : z = i
      · subst e; intro hq; first | exact c28 hq.1 | (rw [and1] at c36; exact c36 hq.2)
      · exact hi z (by omega)), (by omega)⟩
      exact ih_6 (i + 1) hI_8 (show n - (i + 1) < n - i from by omega) _ _ _ hP hD hS (lv_sub hl [0, 1, 2] rfl)
    · skip
      have c28 : (Kd i) = 1 := (nI_eq (by omega) (by omega)).mp c28
      refine lv_iload_n hx hb d_Chk_leastUnsetWire_31 rfl (lv_at hl 1 rfl) ?_
      refine lv_iload_n hx hb d_Chk_leastUnsetWire_32 rfl (lv_at hl 0 rfl) ?_
      refine lv_ishr hx hb d_Chk_leastUnsetWire_33 ?_
      refine k_top (nI_shr (by omega) (by omega)) ?_
      refine lv_iconst (v := nI 1) hx hb d_Chk_leastUnsetWire_34 rfl ?_
      refine lv_iand hx hb d_Chk_leastUnsetWire_35 ?_
      refine k_top (nI_and _ _) ?_
      refine lv_if_ne (tgt := 41) hx hb d_Chk_leastUnsetWire_36 (by decide) (fun c36 => ?_) (fun c36 => ?_)
      · skip
        have c36 : ¬ (((((mPF So Su ms 0).1) / 2 ^ i) &&& 1) = 0) := fun h => c36 ((nI_eq0 (by rw [and1]; omega)).mpr h)
        refine lv_iinc (v := nI (i + 1)) (lv' := [(2, .int (nI (i + 1))), (1, .int (nI ((mPF So Su ms 0).1))), (0, .ref a_chk)]) hx hb d_Chk_leastUnsetWire_41 hl (k := 0) rfl (k_inc _ 1) (by decide) rfl (fun ls hl => ?_)
        refine lv_goto (tgt := 7) hx hb d_Chk_leastUnsetWire_44 (by decide) ?_
        have hI_9 : (∀ z, z < (i + 1) → ¬ (Kd z = 1 ∧ (mPF So Su ms 0).1 / 2 ^ z % 2 = 0)) ∧ ((i + 1) ≤ n) := ⟨(fun z hz => by
      by_cases e : z = i
      · subst e; intro hq; first | exact c28 hq.1 | (rw [and1] at c36; exact c36 hq.2)
      · exact hi z (by omega)), (by omega)⟩
        exact ih_6 (i + 1) hI_9 (show n - (i + 1) < n - i from by omega) _ _ _ hP hD hS (lv_sub hl [0, 1, 2] rfl)
      · skip
        have c36 : ((((mPF So Su ms 0).1) / 2 ^ i) &&& 1) = 0 := (nI_eq0 (by rw [and1]; omega)).mp c36
        refine lv_iload_n hx hb d_Chk_leastUnsetWire_39 rfl (lv_at hl 0 rfl) ?_
        exact W.iret (v := nI i) hx hb hr (fun t ht hW => ⟨⟨nI i, (SPtv_1, SFtv_2), rfl, ⟨b_SPtv_1, b_SFtv_2, (show Lst (fun z => Kd z = 1 ∧ (mPF So Su ms 0).1 / 2 ^ z % 2 = 0) n (nI i) from (Or.inr ⟨i, by omega, rfl, ⟨c28, by rw [and1] at c36; exact c36⟩, hi⟩))⟩, by rw [ht]; exact hP, va_K.moved hW.alike hK, hD⟩, hS.F ht⟩) hS.2.2 d_Chk_leastUnsetWire_40
set_option maxHeartbeats 4000000 in
set_option maxRecDepth 100000 in
theorem c_Chk_findRestsAtOnce (l : Launch) (dC : Nat → ClassId) (dI : Nat → Nat → Nat) (cI cZ : ClassId) (a_chk a_rao a_sig a_stm a_ron a_aro a_sip a_sif a_kind a_width a_rword a_sop a_sa a_sb a_sc a_sort a_subject a_source a_elseSeen : Nat) (tt sz : Nat) (n : Nat) (Kd : Nat → Nat) (Op : Nat → Nat) (Aa : Nat → Int32) (Ab : Nat → Int32) (Ac : Nat → Int32) (ms : Nat) (ow : Nat) (So : Nat → Nat) (Su : Nat → Nat) (Sr : Nat → Nat) (RA : Nat → Nat) (AR : Nat → Nat) (b_n : n ≤ 14) (b_Kd : ∀ j, Kd j < 4) (b_Op : ∀ j, Op j < 12) (b_ms : ms ≤ 20) (b_ow : ow ≤ 4) (b_So : ∀ j, So j < 4) (b_Su : ∀ j, Su j < 14) (b_Sr : ∀ j, Sr j < 14) (b_RA : ∀ j, RA j < 16384) (b_AR : ∀ j, AR j < 16384) (hLG : LG So ms) (ha1 : ∀ z, z < n → Kd z = 3 → (1 ≤ tab (Op z) → ∃ X, X < 14 ∧ Aa z = nI X) ∧ (2 ≤ tab (Op z) → ∃ X, X < 14 ∧ Ab z = nI X) ∧ (3 ≤ tab (Op z) → ∃ X, X < 14 ∧ Ac z = nI X)) : Met l y_Chk_findRestsAtOnce w_Chk_findRestsAtOnce ({ frames := 1, cells := 0, slots := 0, locals := 23 }) (va_Pc [.ref a_chk] (PW (dC, dI) classes [(cI, .int), (cZ, .boolean)] tt [(a_chk, .inr (3, [.ref a_rao, .ref a_sig, .ref a_stm, .ref a_ron, .ref a_aro, .ref a_sip, .ref a_sif])), (a_sig, .inr (1, [.ref a_kind, .ref a_width, .ref a_rword, .ref a_sop, .ref a_sa, .ref a_sb, .ref a_sc, .int (nI n)])), (a_kind, .inl (cI, 14, .inl (nF Kd))), (a_sop, .inl (cI, 14, .inl (nF Op))), (a_sa, .inl (cI, 14, .inl Aa)), (a_sb, .inl (cI, 14, .inl Ab)), (a_sc, .inl (cI, 14, .inl Ac)), (a_stm, .inr (2, [.ref a_sort, .ref a_subject, .ref a_source, .int (nI ms), .int (nI ow), .ref a_elseSeen])), (a_sort, .inl (cI, 20, .inl (nF So))), (a_subject, .inl (cI, 20, .inl (nF Su))), (a_source, .inl (cI, 20, .inl (nF Sr))), (a_rao, .inl (cI, 14, .inl (nF RA))), (a_aro, .inl (cI, 5, .inl (nF AR)))] sz)) (va_Qv (fun (u : (Nat → Nat) × (Nat → Nat)) => (∀ j, u.1 j < 16384) ∧ (∀ j, u.2 j < 16384) ∧ (∀ z, z < n → u.1 z = raM (raB Kd Op Aa Ab Ac) Kd So Su Sr ms z)) (AT (dC, dI) classes [(cI, .int), (cZ, .boolean)] (va_A [(a_chk, .inr (3, [.ref a_rao, .ref a_sig, .ref a_stm, .ref a_ron, .ref a_aro, .ref a_sip, .ref a_sif])), (a_sig, .inr (1, [.ref a_kind, .ref a_width, .ref a_rword, .ref a_sop, .ref a_sa, .ref a_sb, .ref a_sc, .int (nI n)])), (a_kind, .inl (cI, 14, .inl (nF Kd))), (a_sop, .inl (cI, 14, .inl (nF Op))), (a_sa, .inl (cI, 14, .inl Aa)), (a_sb, .inl (cI, 14, .inl Ab)), (a_sc, .inl (cI, 14, .inl Ac)), (a_stm, .inr (2, [.ref a_sort, .ref a_subject, .ref a_source, .int (nI ms), .int (nI ow), .ref a_elseSeen])), (a_sort, .inl (cI, 20, .inl (nF So))), (a_subject, .inl (cI, 20, .inl (nF Su))), (a_source, .inl (cI, 20, .inl (nF Sr))), (a_rao, .inl (cI, 14, .inl (nF RA))), (a_aro, .inl (cI, 5, .inl (nF AR)))] sz) (fun (u : (Nat → Nat) × (Nat → Nat)) => [(a_chk, .inr (3, [.ref a_rao, .ref a_sig, .ref a_stm, .ref a_ron, .ref a_aro, .ref a_sip, .ref a_sif])), (a_sig, .inr (1, [.ref a_kind, .ref a_width, .ref a_rword, .ref a_sop, .ref a_sa, .ref a_sb, .ref a_sc, .int (nI n)])), (a_kind, .inl (cI, 14, .inl (nF Kd))), (a_sop, .inl (cI, 14, .inl (nF Op))), (a_sa, .inl (cI, 14, .inl Aa)), (a_sb, .inl (cI, 14, .inl Ab)), (a_sc, .inl (cI, 14, .inl Ac)), (a_stm, .inr (2, [.ref a_sort, .ref a_subject, .ref a_source, .int (nI ms), .int (nI ow), .ref a_elseSeen])), (a_sort, .inl (cI, 20, .inl (nF So))), (a_subject, .inl (cI, 20, .inl (nF Su))), (a_source, .inl (cI, 20, .inl (nF Sr))), (a_rao, .inl (cI, 14, .inl (nF u.1))), (a_aro, .inl (cI, 5, .inl (nF u.2)))])) (va_A [(a_chk, .inr (3, [.ref a_rao, .ref a_sig, .ref a_stm, .ref a_ron, .ref a_aro, .ref a_sip, .ref a_sif])), (a_sig, .inr (1, [.ref a_kind, .ref a_width, .ref a_rword, .ref a_sop, .ref a_sa, .ref a_sb, .ref a_sc, .int (nI n)])), (a_kind, .inl (cI, 14, .inl (nF Kd))), (a_sop, .inl (cI, 14, .inl (nF Op))), (a_sa, .inl (cI, 14, .inl Aa)), (a_sb, .inl (cI, 14, .inl Ab)), (a_sc, .inl (cI, 14, .inl Ac)), (a_stm, .inr (2, [.ref a_sort, .ref a_subject, .ref a_source, .int (nI ms), .int (nI ow), .ref a_elseSeen])), (a_sort, .inl (cI, 20, .inl (nF So))), (a_subject, .inl (cI, 20, .inl (nF Su))), (a_source, .inl (cI, 20, .inl (nF Sr))), (a_rao, .inl (cI, 14, .inl (nF RA))), (a_aro, .inl (cI, 5, .inl (nF AR)))] sz)) 0 0 (va_A [(a_chk, .inr (3, [.ref a_rao, .ref a_sig, .ref a_stm, .ref a_ron, .ref a_aro, .ref a_sip, .ref a_sif])), (a_sig, .inr (1, [.ref a_kind, .ref a_width, .ref a_rword, .ref a_sop, .ref a_sa, .ref a_sb, .ref a_sc, .int (nI n)])), (a_kind, .inl (cI, 14, .inl (nF Kd))), (a_sop, .inl (cI, 14, .inl (nF Op))), (a_sa, .inl (cI, 14, .inl Aa)), (a_sb, .inl (cI, 14, .inl Ab)), (a_sc, .inl (cI, 14, .inl Ac)), (a_stm, .inr (2, [.ref a_sort, .ref a_subject, .ref a_source, .int (nI ms), .int (nI ow), .ref a_elseSeen])), (a_sort, .inl (cI, 20, .inl (nF So))), (a_subject, .inl (cI, 20, .inl (nF Su))), (a_source, .inl (cI, 20, .inl (nF Sr))), (a_rao, .inl (cI, 14, .inl (nF RA))), (a_aro, .inl (cI, 5, .inl (nF AR)))] sz) := by
  refine Met.ofW (cc := b_Chk_findRestsAtOnce) (maxL := 5) (ret := none) (by decide) rfl ?_
  intro p e s m args below meth c s₁ B hml hv
  obtain ⟨rfl, hsz, hP, hK, hD0, hE⟩ := hv
  have hx := B.exec
  have hb := B.bytes
  have hr := B.returns
  have hts := atoms_spec (ws := w_Chk_findRestsAtOnce) B.pre
  have hown : s.vm.findClass R_Chk = some m.cls := findClass_of_methodNamed B.named
  have hlocks := B.notSynchronized
  subst hsz
  have hD := hD0.self (sz := s.heap.size)
  generalize hAe : va_A [(a_chk, .inr (3, [.ref a_rao, .ref a_sig, .ref a_stm, .ref a_ron, .ref a_aro, .ref a_sip, .ref a_sif])), (a_sig, .inr (1, [.ref a_kind, .ref a_width, .ref a_rword, .ref a_sop, .ref a_sa, .ref a_sb, .ref a_sc, .int (nI n)])), (a_kind, .inl (cI, 14, .inl (nF Kd))), (a_sop, .inl (cI, 14, .inl (nF Op))), (a_sa, .inl (cI, 14, .inl Aa)), (a_sb, .inl (cI, 14, .inl Ab)), (a_sc, .inl (cI, 14, .inl Ac)), (a_stm, .inr (2, [.ref a_sort, .ref a_subject, .ref a_source, .int (nI ms), .int (nI ow), .ref a_elseSeen])), (a_sort, .inl (cI, 20, .inl (nF So))), (a_subject, .inl (cI, 20, .inl (nF Su))), (a_source, .inl (cI, 20, .inl (nF Sr))), (a_rao, .inl (cI, 14, .inl (nF RA))), (a_aro, .inl (cI, 5, .inl (nF AR)))] s.heap.size = A at hD hE ⊢
  have hA : ∀ q : Nat, s.heap.size ≤ q → A q := fun q h => by rw [← hAe]; exact Or.inr h
  have hS : va_S A s.heap s.heap [] := va_S.rf
  have hP : va_P (dC, dI) classes [(a_chk, .inr (3, [.ref a_rao, .ref a_sig, .ref a_stm, .ref a_ron, .ref a_aro, .ref a_sip, .ref a_sif])), (a_sig, .inr (1, [.ref a_kind, .ref a_width, .ref a_rword, .ref a_sop, .ref a_sa, .ref a_sb, .ref a_sc, .int (nI n)])), (a_kind, .inl (cI, 14, .inl (nF Kd))), (a_sop, .inl (cI, 14, .inl (nF Op))), (a_sa, .inl (cI, 14, .inl Aa)), (a_sb, .inl (cI, 14, .inl Ab)), (a_sc, .inl (cI, 14, .inl Ac)), (a_stm, .inr (2, [.ref a_sort, .ref a_subject, .ref a_source, .int (nI ms), .int (nI ow), .ref a_elseSeen])), (a_sort, .inl (cI, 20, .inl (nF So))), (a_subject, .inl (cI, 20, .inl (nF Su))), (a_source, .inl (cI, 20, .inl (nF Sr))), (a_rao, .inl (cI, 14, .inl (nF RA))), (a_aro, .inl (cI, 5, .inl (nF AR)))] s.heap := hP
  have hl := lv_entry ([.ref a_chk]) (n := 5) (Nat.le_of_ble_eq_true rfl)
  rw [lg_entry_eq]
  generalize (lg_sl ([.ref a_chk]) ++ List.replicate (5 - (lg_sl ([.ref a_chk])).length) Slot.unset).toArray = ls at hl ⊢
  have hl : lv_has ls 5 [(0, .ref a_chk)] := hl
  refine lv_iconst (v := nI 0) hx hb d_Chk_findRestsAtOnce_0 rfl ?_
  refine lv_istore_n (lv' := [(1, .int (nI 0)), (0, .ref a_chk)]) hx hb d_Chk_findRestsAtOnce_1 rfl hl (by decide) rfl (fun ls hl => ?_)
  have hI_1 : (∀ j, RA j < 16384) ∧ (∀ z, z < 0 → RA z = raB Kd Op Aa Ab Ac z) ∧ (0 ≤ n) := ⟨b_RA, (fun z h => absurd h (by omega)), (by omega)⟩
  refine k_loop (σ := Nat × (Nat → Nat)) (D := (dC, dI)) (cl := classes) (A := A) (H0 := s.heap) (fun x => [(a_chk, .inr (3, [.ref a_rao, .ref a_sig, .ref a_stm, .ref a_ron, .ref a_aro, .ref a_sip, .ref a_sif])), (a_sig, .inr (1, [.ref a_kind, .ref a_width, .ref a_rword, .ref a_sop, .ref a_sa, .ref a_sb, .ref a_sc, .int (nI n)])), (a_kind, .inl (cI, 14, .inl (nF Kd))), (a_sop, .inl (cI, 14, .inl (nF Op))), (a_sa, .inl (cI, 14, .inl Aa)), (a_sb, .inl (cI, 14, .inl Ab)), (a_sc, .inl (cI, 14, .inl Ac)), (a_stm, .inr (2, [.ref a_sort, .ref a_subject, .ref a_source, .int (nI ms), .int (nI ow), .ref a_elseSeen])), (a_sort, .inl (cI, 20, .inl (nF So))), (a_subject, .inl (cI, 20, .inl (nF Su))), (a_source, .inl (cI, 20, .inl (nF Sr))), (a_rao, .inl (cI, 14, .inl (nF x.2))), (a_aro, .inl (cI, 5, .inl (nF AR)))]) (fun x => [(1, .int (nI x.1)), (0, .ref a_chk)]) (fun x => (∀ j, x.2 j < 16384) ∧ (∀ z, z < x.1 → x.2 z = raB Kd Op Aa Ab Ac z) ∧ (x.1 ≤ n)) (fun x => n - x.1) ?_ (0, RA) hI_1 hP hD hS (lv_sub hl [0, 1] rfl)
  rintro ⟨i, R1⟩ hI ih_2 H locs ls hP hD hS hl
  obtain ⟨b_R1, hi, hin⟩ : (∀ j, R1 j < 16384) ∧ (∀ z, z < i → R1 z = raB Kd Op Aa Ab Ac z) ∧ (i ≤ n) := hI
  have hP : va_P (dC, dI) classes [(a_chk, .inr (3, [.ref a_rao, .ref a_sig, .ref a_stm, .ref a_ron, .ref a_aro, .ref a_sip, .ref a_sif])), (a_sig, .inr (1, [.ref a_kind, .ref a_width, .ref a_rword, .ref a_sop, .ref a_sa, .ref a_sb, .ref a_sc, .int (nI n)])), (a_kind, .inl (cI, 14, .inl (nF Kd))), (a_sop, .inl (cI, 14, .inl (nF Op))), (a_sa, .inl (cI, 14, .inl Aa)), (a_sb, .inl (cI, 14, .inl Ab)), (a_sc, .inl (cI, 14, .inl Ac)), (a_stm, .inr (2, [.ref a_sort, .ref a_subject, .ref a_source, .int (nI ms), .int (nI ow), .ref a_elseSeen])), (a_sort, .inl (cI, 20, .inl (nF So))), (a_subject, .inl (cI, 20, .inl (nF Su))), (a_source, .inl (cI, 20, .inl (nF Sr))), (a_rao, .inl (cI, 14, .inl (nF R1))), (a_aro, .inl (cI, 5, .inl (nF AR)))] H := hP
  have hD : va_D A [(a_chk, .inr (3, [.ref a_rao, .ref a_sig, .ref a_stm, .ref a_ron, .ref a_aro, .ref a_sip, .ref a_sif])), (a_sig, .inr (1, [.ref a_kind, .ref a_width, .ref a_rword, .ref a_sop, .ref a_sa, .ref a_sb, .ref a_sc, .int (nI n)])), (a_kind, .inl (cI, 14, .inl (nF Kd))), (a_sop, .inl (cI, 14, .inl (nF Op))), (a_sa, .inl (cI, 14, .inl Aa)), (a_sb, .inl (cI, 14, .inl Ab)), (a_sc, .inl (cI, 14, .inl Ac)), (a_stm, .inr (2, [.ref a_sort, .ref a_subject, .ref a_source, .int (nI ms), .int (nI ow), .ref a_elseSeen])), (a_sort, .inl (cI, 20, .inl (nF So))), (a_subject, .inl (cI, 20, .inl (nF Su))), (a_source, .inl (cI, 20, .inl (nF Sr))), (a_rao, .inl (cI, 14, .inl (nF R1))), (a_aro, .inl (cI, 5, .inl (nF AR)))] := hD
  have hl : lv_has ls 5 [(1, .int (nI i)), (0, .ref a_chk)] := hl
  refine lv_iload_n hx hb d_Chk_findRestsAtOnce_2 rfl (lv_at hl 0 rfl) ?_
  refine lv_aload_n hx hb d_Chk_findRestsAtOnce_3 rfl (lv_at hl 1 rfl) ?_
  refine va_get (D := (dC, dI)) (ci := 3) (v := .ref a_sig) (C := R_Chk) (T := F_Chk) (N := 7) hx hb hts (wi i_Chk) hown hK hP 0 rfl rfl 1 (by decide) (hts _ (mt 149 rfl rfl)) (fun _ h9 => h9) rfl d_Chk_findRestsAtOnce_4 ?_
  refine va_get (D := (dC, dI)) (ci := 1) (v := .int (nI n)) (C := R_Sig) (T := F_Sig) (N := 8) hx hb hts (wi i_Sig) hown hK hP 1 rfl rfl 7 (by decide) (hts _ (mt 84 rfl rfl)) (fun _ h9 => h9) rfl d_Chk_findRestsAtOnce_7 ?_
  refine lv_icmp_ge (tgt := 50) hx hb d_Chk_findRestsAtOnce_10 (by decide) (fun c10 => ?_) (fun c10 => ?_)
  · skip
    have c10 : n ≤ i := (nI_leI (by omega) (by omega)).mp c10
    refine lv_iconst (v := nI 0) hx hb d_Chk_findRestsAtOnce_50 rfl ?_
    refine lv_istore_n (lv' := [(1, .int (nI 0)), (0, .ref a_chk)]) hx hb d_Chk_findRestsAtOnce_51 rfl hl (by decide) rfl (fun ls hl => ?_)
    refine lv_aload_n hx hb d_Chk_findRestsAtOnce_52 rfl (lv_at hl 1 rfl) ?_
    refine va_get (D := (dC, dI)) (ci := 3) (v := .ref a_aro) (C := R_Chk) (T := F_Chk) (N := 7) hx hb hts (wi i_Chk) hown hK hP 0 rfl rfl 4 (by decide) (hts _ (mt 152 rfl rfl)) (fun _ h9 => h9) rfl d_Chk_findRestsAtOnce_53 ?_
    refine lv_iconst (v := nI 0) hx hb d_Chk_findRestsAtOnce_56 rfl ?_
    refine lv_iconst (v := nI 0) hx hb d_Chk_findRestsAtOnce_57 rfl ?_
    refine k_ist hx hb hK hP hD hS 12 0 rfl rfl (by omega) (by decide) d_Chk_findRestsAtOnce_58 (fun H locs hP hD hS => ?_)
    have bb_3 : ∀ j, upN AR 0 0 j < 16384 := upN_lt b_AR (by omega)
    have hP : va_P (dC, dI) classes [(a_chk, .inr (3, [.ref a_rao, .ref a_sig, .ref a_stm, .ref a_ron, .ref a_aro, .ref a_sip, .ref a_sif])), (a_sig, .inr (1, [.ref a_kind, .ref a_width, .ref a_rword, .ref a_sop, .ref a_sa, .ref a_sb, .ref a_sc, .int (nI n)])), (a_kind, .inl (cI, 14, .inl (nF Kd))), (a_sop, .inl (cI, 14, .inl (nF Op))), (a_sa, .inl (cI, 14, .inl Aa)), (a_sb, .inl (cI, 14, .inl Ab)), (a_sc, .inl (cI, 14, .inl Ac)), (a_stm, .inr (2, [.ref a_sort, .ref a_subject, .ref a_source, .int (nI ms), .int (nI ow), .ref a_elseSeen])), (a_sort, .inl (cI, 20, .inl (nF So))), (a_subject, .inl (cI, 20, .inl (nF Su))), (a_source, .inl (cI, 20, .inl (nF Sr))), (a_rao, .inl (cI, 14, .inl (nF R1))), (a_aro, .inl (cI, 5, .inl (nF (upN AR 0 0))))] H := hP
    have hD : va_D A [(a_chk, .inr (3, [.ref a_rao, .ref a_sig, .ref a_stm, .ref a_ron, .ref a_aro, .ref a_sip, .ref a_sif])), (a_sig, .inr (1, [.ref a_kind, .ref a_width, .ref a_rword, .ref a_sop, .ref a_sa, .ref a_sb, .ref a_sc, .int (nI n)])), (a_kind, .inl (cI, 14, .inl (nF Kd))), (a_sop, .inl (cI, 14, .inl (nF Op))), (a_sa, .inl (cI, 14, .inl Aa)), (a_sb, .inl (cI, 14, .inl Ab)), (a_sc, .inl (cI, 14, .inl Ac)), (a_stm, .inr (2, [.ref a_sort, .ref a_subject, .ref a_source, .int (nI ms), .int (nI ow), .ref a_elseSeen])), (a_sort, .inl (cI, 20, .inl (nF So))), (a_subject, .inl (cI, 20, .inl (nF Su))), (a_source, .inl (cI, 20, .inl (nF Sr))), (a_rao, .inl (cI, 14, .inl (nF R1))), (a_aro, .inl (cI, 5, .inl (nF (upN AR 0 0))))] := hD
    refine lv_iconst (v := nI 0) hx hb d_Chk_findRestsAtOnce_59 rfl ?_
    refine lv_istore_n (lv' := [(2, .int (nI 0)), (1, .int (nI 0)), (0, .ref a_chk)]) hx hb d_Chk_findRestsAtOnce_60 rfl hl (by decide) rfl (fun ls hl => ?_)
    have hI_4 : (∀ j, R1 j < 16384) ∧ (∀ j, (upN AR 0 0) j < 16384) ∧ (0 = dp So 0) ∧ (∀ z, z ≤ dp So 0 → (upN AR 0 0) z = arM So Su 0 z) ∧ (∀ z, z < n → R1 z = raM (raB Kd Op Aa Ab Ac) Kd So Su Sr 0 z) ∧ (0 ≤ ms) := ⟨b_R1, bb_3, rfl, (fun z hz => by
    have hz : z ≤ 0 := hz
    obtain rfl : z = 0 := by omega
    exact upN_self _ _ _), (fun z hz => hi z (by omega)), (by omega)⟩
    refine k_loop (σ := Nat × Nat × (Nat → Nat) × (Nat → Nat)) (D := (dC, dI)) (cl := classes) (A := A) (H0 := s.heap) (fun x => [(a_chk, .inr (3, [.ref a_rao, .ref a_sig, .ref a_stm, .ref a_ron, .ref a_aro, .ref a_sip, .ref a_sif])), (a_sig, .inr (1, [.ref a_kind, .ref a_width, .ref a_rword, .ref a_sop, .ref a_sa, .ref a_sb, .ref a_sc, .int (nI n)])), (a_kind, .inl (cI, 14, .inl (nF Kd))), (a_sop, .inl (cI, 14, .inl (nF Op))), (a_sa, .inl (cI, 14, .inl Aa)), (a_sb, .inl (cI, 14, .inl Ab)), (a_sc, .inl (cI, 14, .inl Ac)), (a_stm, .inr (2, [.ref a_sort, .ref a_subject, .ref a_source, .int (nI ms), .int (nI ow), .ref a_elseSeen])), (a_sort, .inl (cI, 20, .inl (nF So))), (a_subject, .inl (cI, 20, .inl (nF Su))), (a_source, .inl (cI, 20, .inl (nF Sr))), (a_rao, .inl (cI, 14, .inl (nF x.2.2.1))), (a_aro, .inl (cI, 5, .inl (nF x.2.2.2)))]) (fun x => [(2, .int (nI x.2.1)), (1, .int (nI x.1)), (0, .ref a_chk)]) (fun x => (∀ j, x.2.2.1 j < 16384) ∧ (∀ j, x.2.2.2 j < 16384) ∧ (x.1 = dp So x.2.1) ∧ (∀ z, z ≤ dp So x.2.1 → x.2.2.2 z = arM So Su x.2.1 z) ∧ (∀ z, z < n → x.2.2.1 z = raM (raB Kd Op Aa Ab Ac) Kd So Su Sr x.2.1 z) ∧ (x.2.1 ≤ ms)) (fun x => ms - x.2.1) ?_ (0, 0, R1, upN AR 0 0) hI_4 hP hD hS (lv_sub hl [0, 1, 2] rfl)
    rintro ⟨d, k, R2, A2⟩ hI ih_5 H locs ls hP hD hS hl
    obtain ⟨b_R2, b_A2, hd, hA2, hR2, hk⟩ : (∀ j, R2 j < 16384) ∧ (∀ j, A2 j < 16384) ∧ (d = dp So k) ∧ (∀ z, z ≤ dp So k → A2 z = arM So Su k z) ∧ (∀ z, z < n → R2 z = raM (raB Kd Op Aa Ab Ac) Kd So Su Sr k z) ∧ (k ≤ ms) := hI
    have hP : va_P (dC, dI) classes [(a_chk, .inr (3, [.ref a_rao, .ref a_sig, .ref a_stm, .ref a_ron, .ref a_aro, .ref a_sip, .ref a_sif])), (a_sig, .inr (1, [.ref a_kind, .ref a_width, .ref a_rword, .ref a_sop, .ref a_sa, .ref a_sb, .ref a_sc, .int (nI n)])), (a_kind, .inl (cI, 14, .inl (nF Kd))), (a_sop, .inl (cI, 14, .inl (nF Op))), (a_sa, .inl (cI, 14, .inl Aa)), (a_sb, .inl (cI, 14, .inl Ab)), (a_sc, .inl (cI, 14, .inl Ac)), (a_stm, .inr (2, [.ref a_sort, .ref a_subject, .ref a_source, .int (nI ms), .int (nI ow), .ref a_elseSeen])), (a_sort, .inl (cI, 20, .inl (nF So))), (a_subject, .inl (cI, 20, .inl (nF Su))), (a_source, .inl (cI, 20, .inl (nF Sr))), (a_rao, .inl (cI, 14, .inl (nF R2))), (a_aro, .inl (cI, 5, .inl (nF A2)))] H := hP
    have hD : va_D A [(a_chk, .inr (3, [.ref a_rao, .ref a_sig, .ref a_stm, .ref a_ron, .ref a_aro, .ref a_sip, .ref a_sif])), (a_sig, .inr (1, [.ref a_kind, .ref a_width, .ref a_rword, .ref a_sop, .ref a_sa, .ref a_sb, .ref a_sc, .int (nI n)])), (a_kind, .inl (cI, 14, .inl (nF Kd))), (a_sop, .inl (cI, 14, .inl (nF Op))), (a_sa, .inl (cI, 14, .inl Aa)), (a_sb, .inl (cI, 14, .inl Ab)), (a_sc, .inl (cI, 14, .inl Ac)), (a_stm, .inr (2, [.ref a_sort, .ref a_subject, .ref a_source, .int (nI ms), .int (nI ow), .ref a_elseSeen])), (a_sort, .inl (cI, 20, .inl (nF So))), (a_subject, .inl (cI, 20, .inl (nF Su))), (a_source, .inl (cI, 20, .inl (nF Sr))), (a_rao, .inl (cI, 14, .inl (nF R2))), (a_aro, .inl (cI, 5, .inl (nF A2)))] := hD
    have hl : lv_has ls 5 [(2, .int (nI k)), (1, .int (nI d)), (0, .ref a_chk)] := hl
    refine lv_iload_n hx hb d_Chk_findRestsAtOnce_61 rfl (lv_at hl 0 rfl) ?_
    refine lv_aload_n hx hb d_Chk_findRestsAtOnce_62 rfl (lv_at hl 2 rfl) ?_
    refine va_get (D := (dC, dI)) (ci := 3) (v := .ref a_stm) (C := R_Chk) (T := F_Chk) (N := 7) hx hb hts (wi i_Chk) hown hK hP 0 rfl rfl 2 (by decide) (hts _ (mt 150 rfl rfl)) (fun _ h9 => h9) rfl d_Chk_findRestsAtOnce_63 ?_
    refine va_get (D := (dC, dI)) (ci := 2) (v := .int (nI ms)) (C := R_Stm) (T := F_Stm) (N := 6) hx hb hts (wi i_Stm) hown hK hP 7 rfl rfl 3 (by decide) (hts _ (mt 120 rfl rfl)) (fun _ h9 => h9) rfl d_Chk_findRestsAtOnce_66 ?_
    refine lv_icmp_ge (tgt := 186) hx hb d_Chk_findRestsAtOnce_69 (by decide) (fun c69 => ?_) (fun c69 => ?_)
    · skip
      have c69 : ms ≤ k := (nI_leI (by omega) (by omega)).mp c69
      exact W.vret hx hb hr (fun t ht hW => ⟨⟨(R2, A2), rfl, ⟨b_R2, b_A2, (show ∀ z, z < n → R2 z = raM (raB Kd Op Aa Ab Ac) Kd So Su Sr ms z from (by rw [show ms = k by omega]; exact hR2))⟩, by rw [ht]; exact hP, va_K.moved hW.alike hK, hD⟩, hS.F ht⟩) hS.2.2 d_Chk_findRestsAtOnce_186
    · skip
      have c69 : ¬ (ms ≤ k) := fun h => c69 ((nI_leI (by omega) (by omega)).mpr h)
      refine lv_aload_n hx hb d_Chk_findRestsAtOnce_72 rfl (lv_at hl 2 rfl) ?_
      refine va_get (D := (dC, dI)) (ci := 3) (v := .ref a_stm) (C := R_Chk) (T := F_Chk) (N := 7) hx hb hts (wi i_Chk) hown hK hP 0 rfl rfl 2 (by decide) (hts _ (mt 150 rfl rfl)) (fun _ h9 => h9) rfl d_Chk_findRestsAtOnce_73 ?_
      refine va_get (D := (dC, dI)) (ci := 2) (v := .ref a_subject) (C := R_Stm) (T := F_Stm) (N := 6) hx hb hts (wi i_Stm) hown hK hP 7 rfl rfl 1 (by decide) (hts _ (mt 115 rfl rfl)) (fun _ h9 => h9) rfl d_Chk_findRestsAtOnce_76 ?_
      refine lv_iload_n hx hb d_Chk_findRestsAtOnce_79 rfl (lv_at hl 0 rfl) ?_
      refine k_ild hx hb hK hP 9 0 rfl rfl (by omega) (by decide) d_Chk_findRestsAtOnce_80 ?_
      have hb_6 := b_Su k
      have g1 := hLG k (by omega)
      have g4 := dp_le hLG k (by omega)
      refine lv_istore_n (lv' := [(3, .int (nI (Su k))), (2, .int (nI k)), (1, .int (nI d)), (0, .ref a_chk)]) hx hb d_Chk_findRestsAtOnce_81 rfl hl (by decide) rfl (fun ls hl => ?_)
      refine lv_aload_n hx hb d_Chk_findRestsAtOnce_82 rfl (lv_at hl 3 rfl) ?_
      refine va_get (D := (dC, dI)) (ci := 3) (v := .ref a_stm) (C := R_Chk) (T := F_Chk) (N := 7) hx hb hts (wi i_Chk) hown hK hP 0 rfl rfl 2 (by decide) (hts _ (mt 150 rfl rfl)) (fun _ h9 => h9) rfl d_Chk_findRestsAtOnce_83 ?_
      refine va_get (D := (dC, dI)) (ci := 2) (v := .ref a_sort) (C := R_Stm) (T := F_Stm) (N := 6) hx hb hts (wi i_Stm) hown hK hP 7 rfl rfl 0 (by decide) (hts _ (mt 112 rfl rfl)) (fun _ h9 => h9) rfl d_Chk_findRestsAtOnce_86 ?_
      refine lv_iload_n hx hb d_Chk_findRestsAtOnce_89 rfl (lv_at hl 1 rfl) ?_
      refine k_ild hx hb hK hP 8 0 rfl rfl (by omega) (by decide) d_Chk_findRestsAtOnce_90 ?_
      have hb_7 := b_So k
      refine lv_istore (lv' := [(4, .int (nI (So k))), (3, .int (nI (Su k))), (2, .int (nI k)), (1, .int (nI d)), (0, .ref a_chk)]) hx hb d_Chk_findRestsAtOnce_91 hl (by decide) rfl (fun ls hl => ?_)
      refine lv_iload hx hb d_Chk_findRestsAtOnce_93 (lv_at hl 0 rfl) ?_
      refine lv_iconst (v := nI 1) hx hb d_Chk_findRestsAtOnce_95 rfl ?_
      refine lv_icmp_ne (tgt := 123) hx hb d_Chk_findRestsAtOnce_96 (by decide) (fun c96 => ?_) (fun c96 => ?_)
      · skip
        have c96 : ¬ ((So k) = 1) := fun h => c96 ((nI_eq (by omega) (by omega)).mpr h)
        refine lv_iload hx hb d_Chk_findRestsAtOnce_123 (lv_at hl 0 rfl) ?_
        refine lv_iconst (v := nI 3) hx hb d_Chk_findRestsAtOnce_125 rfl ?_
        refine lv_icmp_ne (tgt := 135) hx hb d_Chk_findRestsAtOnce_126 (by decide) (fun c126 => ?_) (fun c126 => ?_)
        · skip
          have c126 : ¬ ((So k) = 3) := fun h => c126 ((nI_eq (by omega) (by omega)).mpr h)
          refine lv_iload hx hb d_Chk_findRestsAtOnce_135 (lv_at hl 0 rfl) ?_
          refine lv_if_ne (tgt := 180) hx hb d_Chk_findRestsAtOnce_137 (by decide) (fun c137 => ?_) (fun c137 => ?_)
          · skip
            have c137 : ¬ ((So k) = 0) := fun h => c137 ((nI_eq0 (by omega)).mpr h)
            refine lv_iinc (v := nI (k + 1)) (lv' := [(2, .int (nI (k + 1))), (4, .int (nI (So k))), (3, .int (nI (Su k))), (1, .int (nI d)), (0, .ref a_chk)]) hx hb d_Chk_findRestsAtOnce_180 hl (k := 2) rfl (k_inc _ 1) (by decide) rfl (fun ls hl => ?_)
            refine lv_goto (tgt := 61) hx hb d_Chk_findRestsAtOnce_183 (by decide) ?_
            have hI_8 : (∀ j, R2 j < 16384) ∧ (∀ j, A2 j < 16384) ∧ (d = dp So (k + 1)) ∧ (∀ z, z ≤ dp So (k + 1) → A2 z = arM So Su (k + 1) z) ∧ (∀ z, z < n → R2 z = raM (raB Kd Op Aa Ab Ac) Kd So Su Sr (k + 1) z) ∧ ((k + 1) ≤ ms) := ⟨b_R2, b_A2, (by rw [hd]; exact (dp_o c96 c126).symm), (aS_0 hA2 c96 c126), (rS_n hR2 (by omega)), (by omega)⟩
            exact ih_5 (d, k + 1, R2, A2) hI_8 (show ms - (k + 1) < ms - k from by omega) _ _ _ hP hD hS (lv_sub hl [0, 3, 4] rfl)
          · skip
            have c137 : (So k) = 0 := (nI_eq0 (by omega)).mp c137
            refine lv_aload_n hx hb d_Chk_findRestsAtOnce_140 rfl (lv_at hl 4 rfl) ?_
            refine va_get (D := (dC, dI)) (ci := 3) (v := .ref a_sig) (C := R_Chk) (T := F_Chk) (N := 7) hx hb hts (wi i_Chk) hown hK hP 0 rfl rfl 1 (by decide) (hts _ (mt 149 rfl rfl)) (fun _ h9 => h9) rfl d_Chk_findRestsAtOnce_141 ?_
            refine va_get (D := (dC, dI)) (ci := 1) (v := .ref a_kind) (C := R_Sig) (T := F_Sig) (N := 8) hx hb hts (wi i_Sig) hown hK hP 1 rfl rfl 0 (by decide) (hts _ (mt 66 rfl rfl)) (fun _ h9 => h9) rfl d_Chk_findRestsAtOnce_144 ?_
            refine lv_iload_n hx hb d_Chk_findRestsAtOnce_147 rfl (lv_at hl 1 rfl) ?_
            refine k_ild hx hb hK hP 2 0 rfl rfl (by omega) (by decide) d_Chk_findRestsAtOnce_148 ?_
            have hb_9 := b_Kd (Su k)
            refine lv_iconst (v := nI 1) hx hb d_Chk_findRestsAtOnce_149 rfl ?_
            refine lv_icmp_ne (tgt := 180) hx hb d_Chk_findRestsAtOnce_150 (by decide) (fun c150 => ?_) (fun c150 => ?_)
            · skip
              have c150 : ¬ ((Kd (Su k)) = 1) := fun h => c150 ((nI_eq (by omega) (by omega)).mpr h)
              refine lv_iinc (v := nI (k + 1)) (lv' := [(2, .int (nI (k + 1))), (4, .int (nI (So k))), (3, .int (nI (Su k))), (1, .int (nI d)), (0, .ref a_chk)]) hx hb d_Chk_findRestsAtOnce_180 hl (k := 2) rfl (k_inc _ 1) (by decide) rfl (fun ls hl => ?_)
              refine lv_goto (tgt := 61) hx hb d_Chk_findRestsAtOnce_183 (by decide) ?_
              have hI_10 : (∀ j, R2 j < 16384) ∧ (∀ j, A2 j < 16384) ∧ (d = dp So (k + 1)) ∧ (∀ z, z ≤ dp So (k + 1) → A2 z = arM So Su (k + 1) z) ∧ (∀ z, z < n → R2 z = raM (raB Kd Op Aa Ab Ac) Kd So Su Sr (k + 1) z) ∧ ((k + 1) ≤ ms) := ⟨b_R2, b_A2, (by rw [hd]; exact (dp_o c96 c126).symm), (aS_0 hA2 c96 c126), (rS_n hR2 (by omega)), (by omega)⟩
              exact ih_5 (d, k + 1, R2, A2) hI_10 (show ms - (k + 1) < ms - k from by omega) _ _ _ hP hD hS (lv_sub hl [0, 3, 4] rfl)
            · skip
              have c150 : (Kd (Su k)) = 1 := (nI_eq (by omega) (by omega)).mp c150
              refine lv_aload_n hx hb d_Chk_findRestsAtOnce_153 rfl (lv_at hl 4 rfl) ?_
              refine va_get (D := (dC, dI)) (ci := 3) (v := .ref a_rao) (C := R_Chk) (T := F_Chk) (N := 7) hx hb hts (wi i_Chk) hown hK hP 0 rfl rfl 0 (by decide) (hts _ (mt 147 rfl rfl)) (fun _ h9 => h9) rfl d_Chk_findRestsAtOnce_154 ?_
              refine lv_iload_n hx hb d_Chk_findRestsAtOnce_157 rfl (lv_at hl 1 rfl) ?_
              refine lv_dup2_11 hx hb d_Chk_findRestsAtOnce_158 rfl rfl ?_
              refine k_ild hx hb hK hP 11 0 rfl rfl (by omega) (by decide) d_Chk_findRestsAtOnce_159 ?_
              have hb_11 := b_R2 (Su k)
              refine lv_aload_n hx hb d_Chk_findRestsAtOnce_160 rfl (lv_at hl 4 rfl) ?_
              refine va_get (D := (dC, dI)) (ci := 3) (v := .ref a_aro) (C := R_Chk) (T := F_Chk) (N := 7) hx hb hts (wi i_Chk) hown hK hP 0 rfl rfl 4 (by decide) (hts _ (mt 152 rfl rfl)) (fun _ h9 => h9) rfl d_Chk_findRestsAtOnce_161 ?_
              refine lv_iload_n hx hb d_Chk_findRestsAtOnce_164 rfl (lv_at hl 3 rfl) ?_
              refine k_ild hx hb hK hP 12 0 rfl rfl (by omega) (by decide) d_Chk_findRestsAtOnce_165 ?_
              have hb_12 := b_A2 d
              refine lv_iconst (v := nI 1) hx hb d_Chk_findRestsAtOnce_166 rfl ?_
              refine lv_aload_n hx hb d_Chk_findRestsAtOnce_167 rfl (lv_at hl 4 rfl) ?_
              refine va_get (D := (dC, dI)) (ci := 3) (v := .ref a_stm) (C := R_Chk) (T := F_Chk) (N := 7) hx hb hts (wi i_Chk) hown hK hP 0 rfl rfl 2 (by decide) (hts _ (mt 150 rfl rfl)) (fun _ h9 => h9) rfl d_Chk_findRestsAtOnce_168 ?_
              refine va_get (D := (dC, dI)) (ci := 2) (v := .ref a_source) (C := R_Stm) (T := F_Stm) (N := 6) hx hb hts (wi i_Stm) hown hK hP 7 rfl rfl 2 (by decide) (hts _ (mt 118 rfl rfl)) (fun _ h9 => h9) rfl d_Chk_findRestsAtOnce_171 ?_
              refine lv_iload_n hx hb d_Chk_findRestsAtOnce_174 rfl (lv_at hl 2 rfl) ?_
              refine k_ild hx hb hK hP 10 0 rfl rfl (by omega) (by decide) d_Chk_findRestsAtOnce_175 ?_
              have hb_13 := b_Sr k
              refine lv_ishl hx hb d_Chk_findRestsAtOnce_176 ?_
              refine k_top (nI_shl _ (by omega)) ?_
              refine lv_ior hx hb d_Chk_findRestsAtOnce_177 ?_
              refine k_top (nI_or _ _) ?_
              refine lv_ior hx hb d_Chk_findRestsAtOnce_178 ?_
              refine k_top (nI_or _ _) ?_
              refine k_ist hx hb hK hP hD hS 11 0 rfl rfl (by omega) (by decide) d_Chk_findRestsAtOnce_179 (fun H locs hP hD hS => ?_)
              have bb_14 : ∀ j, upN R2 (Su k) ((R2 (Su k)) ||| ((A2 d) ||| (1 * 2 ^ (Sr k)))) j < 16384 := upN_lt b_R2 (or14 (b_R2 _) (or14 (b_A2 _) (p14' (b_Sr _))))
              have hP : va_P (dC, dI) classes [(a_chk, .inr (3, [.ref a_rao, .ref a_sig, .ref a_stm, .ref a_ron, .ref a_aro, .ref a_sip, .ref a_sif])), (a_sig, .inr (1, [.ref a_kind, .ref a_width, .ref a_rword, .ref a_sop, .ref a_sa, .ref a_sb, .ref a_sc, .int (nI n)])), (a_kind, .inl (cI, 14, .inl (nF Kd))), (a_sop, .inl (cI, 14, .inl (nF Op))), (a_sa, .inl (cI, 14, .inl Aa)), (a_sb, .inl (cI, 14, .inl Ab)), (a_sc, .inl (cI, 14, .inl Ac)), (a_stm, .inr (2, [.ref a_sort, .ref a_subject, .ref a_source, .int (nI ms), .int (nI ow), .ref a_elseSeen])), (a_sort, .inl (cI, 20, .inl (nF So))), (a_subject, .inl (cI, 20, .inl (nF Su))), (a_source, .inl (cI, 20, .inl (nF Sr))), (a_rao, .inl (cI, 14, .inl (nF (upN R2 (Su k) ((R2 (Su k)) ||| ((A2 d) ||| (1 * 2 ^ (Sr k)))))))), (a_aro, .inl (cI, 5, .inl (nF A2)))] H := hP
              have hD : va_D A [(a_chk, .inr (3, [.ref a_rao, .ref a_sig, .ref a_stm, .ref a_ron, .ref a_aro, .ref a_sip, .ref a_sif])), (a_sig, .inr (1, [.ref a_kind, .ref a_width, .ref a_rword, .ref a_sop, .ref a_sa, .ref a_sb, .ref a_sc, .int (nI n)])), (a_kind, .inl (cI, 14, .inl (nF Kd))), (a_sop, .inl (cI, 14, .inl (nF Op))), (a_sa, .inl (cI, 14, .inl Aa)), (a_sb, .inl (cI, 14, .inl Ab)), (a_sc, .inl (cI, 14, .inl Ac)), (a_stm, .inr (2, [.ref a_sort, .ref a_subject, .ref a_source, .int (nI ms), .int (nI ow), .ref a_elseSeen])), (a_sort, .inl (cI, 20, .inl (nF So))), (a_subject, .inl (cI, 20, .inl (nF Su))), (a_source, .inl (cI, 20, .inl (nF Sr))), (a_rao, .inl (cI, 14, .inl (nF (upN R2 (Su k) ((R2 (Su k)) ||| ((A2 d) ||| (1 * 2 ^ (Sr k)))))))), (a_aro, .inl (cI, 5, .inl (nF A2)))] := hD
              refine lv_iinc (v := nI (k + 1)) (lv' := [(2, .int (nI (k + 1))), (4, .int (nI (So k))), (3, .int (nI (Su k))), (1, .int (nI d)), (0, .ref a_chk)]) hx hb d_Chk_findRestsAtOnce_180 hl (k := 2) rfl (k_inc _ 1) (by decide) rfl (fun ls hl => ?_)
              refine lv_goto (tgt := 61) hx hb d_Chk_findRestsAtOnce_183 (by decide) ?_
              have hI_15 : (∀ j, (upN R2 (Su k) ((R2 (Su k)) ||| ((A2 d) ||| (1 * 2 ^ (Sr k))))) j < 16384) ∧ (∀ j, A2 j < 16384) ∧ (d = dp So (k + 1)) ∧ (∀ z, z ≤ dp So (k + 1) → A2 z = arM So Su (k + 1) z) ∧ (∀ z, z < n → (upN R2 (Su k) ((R2 (Su k)) ||| ((A2 d) ||| (1 * 2 ^ (Sr k))))) z = raM (raB Kd Op Aa Ab Ac) Kd So Su Sr (k + 1) z) ∧ ((k + 1) ≤ ms) := ⟨bb_14, b_A2, (by rw [hd]; exact (dp_o c96 c126).symm), (aS_0 hA2 c96 c126), (rS_y hR2 c137 c150 (hA2 d (by omega)) hd), (by omega)⟩
              exact ih_5 (d, k + 1, upN R2 (Su k) ((R2 (Su k)) ||| ((A2 d) ||| (1 * 2 ^ (Sr k)))), A2) hI_15 (show ms - (k + 1) < ms - k from by omega) _ _ _ hP hD hS (lv_sub hl [0, 3, 4] rfl)
        · skip
          have c126 : (So k) = 3 := (nI_eq (by omega) (by omega)).mp c126
          have g2 := g1.2.1 c126
          refine lv_iinc (v := nI (d - 1)) (lv' := [(1, .int (nI (d - 1))), (4, .int (nI (So k))), (3, .int (nI (Su k))), (2, .int (nI k)), (0, .ref a_chk)]) hx hb d_Chk_findRestsAtOnce_129 hl (k := 3) rfl (k_dec (by omega)) (by decide) rfl (fun ls hl => ?_)
          refine lv_goto (tgt := 180) hx hb d_Chk_findRestsAtOnce_132 (by decide) ?_
          refine lv_iinc (v := nI (k + 1)) (lv' := [(2, .int (nI (k + 1))), (1, .int (nI (d - 1))), (4, .int (nI (So k))), (3, .int (nI (Su k))), (0, .ref a_chk)]) hx hb d_Chk_findRestsAtOnce_180 hl (k := 3) rfl (k_inc _ 1) (by decide) rfl (fun ls hl => ?_)
          refine lv_goto (tgt := 61) hx hb d_Chk_findRestsAtOnce_183 (by decide) ?_
          have hI_16 : (∀ j, R2 j < 16384) ∧ (∀ j, A2 j < 16384) ∧ ((d - 1) = dp So (k + 1)) ∧ (∀ z, z ≤ dp So (k + 1) → A2 z = arM So Su (k + 1) z) ∧ (∀ z, z < n → R2 z = raM (raB Kd Op Aa Ab Ac) Kd So Su Sr (k + 1) z) ∧ ((k + 1) ≤ ms) := ⟨b_R2, b_A2, (by rw [hd]; exact (dp_e c126).symm), (aS_3 hA2 c126), (rS_n hR2 (by omega)), (by omega)⟩
          exact ih_5 (d - 1, k + 1, R2, A2) hI_16 (show ms - (k + 1) < ms - k from by omega) _ _ _ hP hD hS (lv_sub hl [0, 1, 4] rfl)
      · skip
        have c96 : (So k) = 1 := (nI_eq (by omega) (by omega)).mp c96
        have g2 := g1.1 c96
        refine lv_iinc (v := nI (d + 1)) (lv' := [(1, .int (nI (d + 1))), (4, .int (nI (So k))), (3, .int (nI (Su k))), (2, .int (nI k)), (0, .ref a_chk)]) hx hb d_Chk_findRestsAtOnce_99 hl (k := 3) rfl (k_inc _ 1) (by decide) rfl (fun ls hl => ?_)
        refine lv_aload_n hx hb d_Chk_findRestsAtOnce_102 rfl (lv_at hl 4 rfl) ?_
        refine va_get (D := (dC, dI)) (ci := 3) (v := .ref a_aro) (C := R_Chk) (T := F_Chk) (N := 7) hx hb hts (wi i_Chk) hown hK hP 0 rfl rfl 4 (by decide) (hts _ (mt 152 rfl rfl)) (fun _ h9 => h9) rfl d_Chk_findRestsAtOnce_103 ?_
        refine lv_iload_n hx hb d_Chk_findRestsAtOnce_106 rfl (lv_at hl 0 rfl) ?_
        refine lv_aload_n hx hb d_Chk_findRestsAtOnce_107 rfl (lv_at hl 4 rfl) ?_
        refine va_get (D := (dC, dI)) (ci := 3) (v := .ref a_aro) (C := R_Chk) (T := F_Chk) (N := 7) hx hb hts (wi i_Chk) hown hK hP 0 rfl rfl 4 (by decide) (hts _ (mt 152 rfl rfl)) (fun _ h9 => h9) rfl d_Chk_findRestsAtOnce_108 ?_
        refine lv_iload_n hx hb d_Chk_findRestsAtOnce_111 rfl (lv_at hl 0 rfl) ?_
        refine lv_iconst (v := nI 1) hx hb d_Chk_findRestsAtOnce_112 rfl ?_
        refine lv_isub hx hb d_Chk_findRestsAtOnce_113 ?_
        refine k_top (pk_sub (by omega)) ?_
        refine k_ild hx hb hK hP 12 0 rfl rfl (by omega) (by decide) d_Chk_findRestsAtOnce_114 ?_
        have hb_17 := b_A2 ((d + 1) - 1)
        refine lv_iconst (v := nI 1) hx hb d_Chk_findRestsAtOnce_115 rfl ?_
        refine lv_iload_n hx hb d_Chk_findRestsAtOnce_116 rfl (lv_at hl 2 rfl) ?_
        refine lv_ishl hx hb d_Chk_findRestsAtOnce_117 ?_
        refine k_top (nI_shl _ (by omega)) ?_
        refine lv_ior hx hb d_Chk_findRestsAtOnce_118 ?_
        refine k_top (nI_or _ _) ?_
        refine k_ist hx hb hK hP hD hS 12 0 rfl rfl (by omega) (by decide) d_Chk_findRestsAtOnce_119 (fun H locs hP hD hS => ?_)
        have bb_18 : ∀ j, upN A2 (d + 1) ((A2 ((d + 1) - 1)) ||| (1 * 2 ^ (Su k))) j < 16384 := upN_lt b_A2 (or14 (b_A2 _) (p14' (b_Su _)))
        have hP : va_P (dC, dI) classes [(a_chk, .inr (3, [.ref a_rao, .ref a_sig, .ref a_stm, .ref a_ron, .ref a_aro, .ref a_sip, .ref a_sif])), (a_sig, .inr (1, [.ref a_kind, .ref a_width, .ref a_rword, .ref a_sop, .ref a_sa, .ref a_sb, .ref a_sc, .int (nI n)])), (a_kind, .inl (cI, 14, .inl (nF Kd))), (a_sop, .inl (cI, 14, .inl (nF Op))), (a_sa, .inl (cI, 14, .inl Aa)), (a_sb, .inl (cI, 14, .inl Ab)), (a_sc, .inl (cI, 14, .inl Ac)), (a_stm, .inr (2, [.ref a_sort, .ref a_subject, .ref a_source, .int (nI ms), .int (nI ow), .ref a_elseSeen])), (a_sort, .inl (cI, 20, .inl (nF So))), (a_subject, .inl (cI, 20, .inl (nF Su))), (a_source, .inl (cI, 20, .inl (nF Sr))), (a_rao, .inl (cI, 14, .inl (nF R2))), (a_aro, .inl (cI, 5, .inl (nF (upN A2 (d + 1) ((A2 ((d + 1) - 1)) ||| (1 * 2 ^ (Su k)))))))] H := hP
        have hD : va_D A [(a_chk, .inr (3, [.ref a_rao, .ref a_sig, .ref a_stm, .ref a_ron, .ref a_aro, .ref a_sip, .ref a_sif])), (a_sig, .inr (1, [.ref a_kind, .ref a_width, .ref a_rword, .ref a_sop, .ref a_sa, .ref a_sb, .ref a_sc, .int (nI n)])), (a_kind, .inl (cI, 14, .inl (nF Kd))), (a_sop, .inl (cI, 14, .inl (nF Op))), (a_sa, .inl (cI, 14, .inl Aa)), (a_sb, .inl (cI, 14, .inl Ab)), (a_sc, .inl (cI, 14, .inl Ac)), (a_stm, .inr (2, [.ref a_sort, .ref a_subject, .ref a_source, .int (nI ms), .int (nI ow), .ref a_elseSeen])), (a_sort, .inl (cI, 20, .inl (nF So))), (a_subject, .inl (cI, 20, .inl (nF Su))), (a_source, .inl (cI, 20, .inl (nF Sr))), (a_rao, .inl (cI, 14, .inl (nF R2))), (a_aro, .inl (cI, 5, .inl (nF (upN A2 (d + 1) ((A2 ((d + 1) - 1)) ||| (1 * 2 ^ (Su k)))))))] := hD
        refine lv_goto (tgt := 180) hx hb d_Chk_findRestsAtOnce_120 (by decide) ?_
        refine lv_iinc (v := nI (k + 1)) (lv' := [(2, .int (nI (k + 1))), (1, .int (nI (d + 1))), (4, .int (nI (So k))), (3, .int (nI (Su k))), (0, .ref a_chk)]) hx hb d_Chk_findRestsAtOnce_180 hl (k := 3) rfl (k_inc _ 1) (by decide) rfl (fun ls hl => ?_)
        refine lv_goto (tgt := 61) hx hb d_Chk_findRestsAtOnce_183 (by decide) ?_
        have hI_19 : (∀ j, R2 j < 16384) ∧ (∀ j, (upN A2 (d + 1) ((A2 ((d + 1) - 1)) ||| (1 * 2 ^ (Su k)))) j < 16384) ∧ ((d + 1) = dp So (k + 1)) ∧ (∀ z, z ≤ dp So (k + 1) → (upN A2 (d + 1) ((A2 ((d + 1) - 1)) ||| (1 * 2 ^ (Su k)))) z = arM So Su (k + 1) z) ∧ (∀ z, z < n → R2 z = raM (raB Kd Op Aa Ab Ac) Kd So Su Sr (k + 1) z) ∧ ((k + 1) ≤ ms) := ⟨b_R2, bb_18, (by rw [hd]; exact (dp_w c96).symm), (aS_1 hA2 hd c96), (rS_n hR2 (by omega)), (by omega)⟩
        exact ih_5 (d + 1, k + 1, R2, upN A2 (d + 1) ((A2 ((d + 1) - 1)) ||| (1 * 2 ^ (Su k)))) hI_19 (show ms - (k + 1) < ms - k from by omega) _ _ _ hP hD hS (lv_sub hl [0, 1, 4] rfl)
  · skip
    have c10 : ¬ (n ≤ i) := fun h => c10 ((nI_leI (by omega) (by omega)).mpr h)
    refine lv_aload_n hx hb d_Chk_findRestsAtOnce_13 rfl (lv_at hl 1 rfl) ?_
    refine va_get (D := (dC, dI)) (ci := 3) (v := .ref a_rao) (C := R_Chk) (T := F_Chk) (N := 7) hx hb hts (wi i_Chk) hown hK hP 0 rfl rfl 0 (by decide) (hts _ (mt 147 rfl rfl)) (fun _ h9 => h9) rfl d_Chk_findRestsAtOnce_14 ?_
    refine lv_iload_n hx hb d_Chk_findRestsAtOnce_17 rfl (lv_at hl 0 rfl) ?_
    refine lv_aload_n hx hb d_Chk_findRestsAtOnce_18 rfl (lv_at hl 1 rfl) ?_
    refine va_get (D := (dC, dI)) (ci := 3) (v := .ref a_sig) (C := R_Chk) (T := F_Chk) (N := 7) hx hb hts (wi i_Chk) hown hK hP 0 rfl rfl 1 (by decide) (hts _ (mt 149 rfl rfl)) (fun _ h9 => h9) rfl d_Chk_findRestsAtOnce_19 ?_
    refine va_get (D := (dC, dI)) (ci := 1) (v := .ref a_kind) (C := R_Sig) (T := F_Sig) (N := 8) hx hb hts (wi i_Sig) hown hK hP 1 rfl rfl 0 (by decide) (hts _ (mt 66 rfl rfl)) (fun _ h9 => h9) rfl d_Chk_findRestsAtOnce_22 ?_
    refine lv_iload_n hx hb d_Chk_findRestsAtOnce_25 rfl (lv_at hl 0 rfl) ?_
    refine k_ild hx hb hK hP 2 0 rfl rfl (by omega) (by decide) d_Chk_findRestsAtOnce_26 ?_
    have hb_20 := b_Kd i
    refine lv_iconst (v := nI 3) hx hb d_Chk_findRestsAtOnce_27 rfl ?_
    refine lv_icmp_ne (tgt := 42) hx hb d_Chk_findRestsAtOnce_28 (by decide) (fun c28 => ?_) (fun c28 => ?_)
    · skip
      have c28 : ¬ ((Kd i) = 3) := fun h => c28 ((nI_eq (by omega) (by omega)).mpr h)
      refine lv_iconst (v := nI 0) hx hb d_Chk_findRestsAtOnce_42 rfl ?_
      refine k_ist hx hb hK hP hD hS 11 0 rfl rfl (by omega) (by decide) d_Chk_findRestsAtOnce_43 (fun H locs hP hD hS => ?_)
      have bb_21 : ∀ j, upN R1 i 0 j < 16384 := upN_lt b_R1 (by decide)
      have hP : va_P (dC, dI) classes [(a_chk, .inr (3, [.ref a_rao, .ref a_sig, .ref a_stm, .ref a_ron, .ref a_aro, .ref a_sip, .ref a_sif])), (a_sig, .inr (1, [.ref a_kind, .ref a_width, .ref a_rword, .ref a_sop, .ref a_sa, .ref a_sb, .ref a_sc, .int (nI n)])), (a_kind, .inl (cI, 14, .inl (nF Kd))), (a_sop, .inl (cI, 14, .inl (nF Op))), (a_sa, .inl (cI, 14, .inl Aa)), (a_sb, .inl (cI, 14, .inl Ab)), (a_sc, .inl (cI, 14, .inl Ac)), (a_stm, .inr (2, [.ref a_sort, .ref a_subject, .ref a_source, .int (nI ms), .int (nI ow), .ref a_elseSeen])), (a_sort, .inl (cI, 20, .inl (nF So))), (a_subject, .inl (cI, 20, .inl (nF Su))), (a_source, .inl (cI, 20, .inl (nF Sr))), (a_rao, .inl (cI, 14, .inl (nF (upN R1 i 0)))), (a_aro, .inl (cI, 5, .inl (nF AR)))] H := hP
      have hD : va_D A [(a_chk, .inr (3, [.ref a_rao, .ref a_sig, .ref a_stm, .ref a_ron, .ref a_aro, .ref a_sip, .ref a_sif])), (a_sig, .inr (1, [.ref a_kind, .ref a_width, .ref a_rword, .ref a_sop, .ref a_sa, .ref a_sb, .ref a_sc, .int (nI n)])), (a_kind, .inl (cI, 14, .inl (nF Kd))), (a_sop, .inl (cI, 14, .inl (nF Op))), (a_sa, .inl (cI, 14, .inl Aa)), (a_sb, .inl (cI, 14, .inl Ab)), (a_sc, .inl (cI, 14, .inl Ac)), (a_stm, .inr (2, [.ref a_sort, .ref a_subject, .ref a_source, .int (nI ms), .int (nI ow), .ref a_elseSeen])), (a_sort, .inl (cI, 20, .inl (nF So))), (a_subject, .inl (cI, 20, .inl (nF Su))), (a_source, .inl (cI, 20, .inl (nF Sr))), (a_rao, .inl (cI, 14, .inl (nF (upN R1 i 0)))), (a_aro, .inl (cI, 5, .inl (nF AR)))] := hD
      refine lv_iinc (v := nI (i + 1)) (lv' := [(1, .int (nI (i + 1))), (0, .ref a_chk)]) hx hb d_Chk_findRestsAtOnce_44 hl (k := 0) rfl (k_inc _ 1) (by decide) rfl (fun ls hl => ?_)
      refine lv_goto (tgt := 2) hx hb d_Chk_findRestsAtOnce_47 (by decide) ?_
      have hI_22 : (∀ j, (upN R1 i 0) j < 16384) ∧ (∀ z, z < (i + 1) → (upN R1 i 0) z = raB Kd Op Aa Ab Ac z) ∧ ((i + 1) ≤ n) := ⟨bb_21, (fun z hz => by
      by_cases e : z = i
      · subst e; rw [upN_self]; unfold raB; rw [if_neg c28]
      · rw [upN_ne _ _ e]; exact hi z (by omega)), (by omega)⟩
      exact ih_2 (i + 1, upN R1 i 0) hI_22 (show n - (i + 1) < n - i from by omega) _ _ _ hP hD hS (lv_sub hl [0, 1] rfl)
    · skip
      have c28 : (Kd i) = 3 := (nI_eq (by omega) (by omega)).mp c28
      refine lv_aload_n hx hb d_Chk_findRestsAtOnce_31 rfl (lv_at hl 1 rfl) ?_
      refine va_get (D := (dC, dI)) (ci := 3) (v := .ref a_sig) (C := R_Chk) (T := F_Chk) (N := 7) hx hb hts (wi i_Chk) hown hK hP 0 rfl rfl 1 (by decide) (hts _ (mt 149 rfl rfl)) (fun _ h9 => h9) rfl d_Chk_findRestsAtOnce_32 ?_
      refine lv_iload_n hx hb d_Chk_findRestsAtOnce_35 rfl (lv_at hl 0 rfl) ?_
      have ha2 := ha1 i (by omega) c28
      refine k_i (wr := [(a_chk, .inr (3, [.ref a_rao, .ref a_sig, .ref a_stm, .ref a_ron, .ref a_aro, .ref a_sip, .ref a_sif])), (a_kind, .inl (cI, 14, .inl (nF Kd))), (a_stm, .inr (2, [.ref a_sort, .ref a_subject, .ref a_source, .int (nI ms), .int (nI ow), .ref a_elseSeen])), (a_sort, .inl (cI, 20, .inl (nF So))), (a_subject, .inl (cI, 20, .inl (nF Su))), (a_source, .inl (cI, 20, .inl (nF Sr))), (a_rao, .inl (cI, 14, .inl (nF R1))), (a_aro, .inl (cI, 5, .inl (nF AR)))]) (w2 := fun (u : Unit) => [(a_chk, .inr (3, [.ref a_rao, .ref a_sig, .ref a_stm, .ref a_ron, .ref a_aro, .ref a_sip, .ref a_sif])), (a_sig, .inr (1, [.ref a_kind, .ref a_width, .ref a_rword, .ref a_sop, .ref a_sa, .ref a_sb, .ref a_sc, .int (nI n)])), (a_kind, .inl (cI, 14, .inl (nF Kd))), (a_sop, .inl (cI, 14, .inl (nF Op))), (a_sa, .inl (cI, 14, .inl Aa)), (a_sb, .inl (cI, 14, .inl Ab)), (a_sc, .inl (cI, 14, .inl Ac)), (a_stm, .inr (2, [.ref a_sort, .ref a_subject, .ref a_source, .int (nI ms), .int (nI ow), .ref a_elseSeen])), (a_sort, .inl (cI, 20, .inl (nF So))), (a_subject, .inl (cI, 20, .inl (nF Su))), (a_source, .inl (cI, 20, .inl (nF Sr))), (a_rao, .inl (cI, 14, .inl (nF R1))), (a_aro, .inl (cI, 5, .inl (nF AR)))]) (va_runV (As := [.int (nI i)]) (rest := [.int (nI i), .ref a_rao]) ⟨hx, hb, hml, hown, hts⟩ (c_Sig_argumentsOf l dC dI cI cZ a_sig a_kind a_width a_rword a_sop a_sa a_sb a_sc tt H.size n Op Aa Ab Ac i (by omega) b_Op (by omega) ha2.1 ha2.2.1 ha2.2.2) (cwV 1 hts (gd_V in_tl (mw 375 rfl rfl) (mw 376 rfl rfl) (mw 377 rfl rfl) (mw 42 rfl rfl) (mw 378 rfl rfl)) rfl rfl rfl (by decide +kernel) ⟨Nat.le_of_ble_eq_true rfl, Nat.le_of_ble_eq_true rfl⟩) (k_preV hK hP hD hS hA hE [1, 3, 4, 5, 6] (by decide) rfl 1 1 rfl rfl) rfl rfl hl.1 rfl (lv_room (Nat.le_of_ble_eq_true rfl)) d_Chk_findRestsAtOnce_36 ⟨Nat.zero_le _, Nat.zero_le _⟩) hP hD hS hA [1, 3, 4, 5, 6] [0, 2, 7, 8, 9, 10, 11, 12] [0, 8, 1, 9, 10, 11, 12, 2, 3, 4, 5, 6, 7] rfl rfl (by decide) (by decide) (by decide) (fun _ => rfl) (fun r_23 u H locs hw hP hD hS => ?_)
      obtain rfl : (r_23 = nI (amk (tab (Op i)) (ix (Aa i)) (ix (Ab i)) (ix (Ac i)))) := hw
      have hP : va_P (dC, dI) classes [(a_chk, .inr (3, [.ref a_rao, .ref a_sig, .ref a_stm, .ref a_ron, .ref a_aro, .ref a_sip, .ref a_sif])), (a_sig, .inr (1, [.ref a_kind, .ref a_width, .ref a_rword, .ref a_sop, .ref a_sa, .ref a_sb, .ref a_sc, .int (nI n)])), (a_kind, .inl (cI, 14, .inl (nF Kd))), (a_sop, .inl (cI, 14, .inl (nF Op))), (a_sa, .inl (cI, 14, .inl Aa)), (a_sb, .inl (cI, 14, .inl Ab)), (a_sc, .inl (cI, 14, .inl Ac)), (a_stm, .inr (2, [.ref a_sort, .ref a_subject, .ref a_source, .int (nI ms), .int (nI ow), .ref a_elseSeen])), (a_sort, .inl (cI, 20, .inl (nF So))), (a_subject, .inl (cI, 20, .inl (nF Su))), (a_source, .inl (cI, 20, .inl (nF Sr))), (a_rao, .inl (cI, 14, .inl (nF R1))), (a_aro, .inl (cI, 5, .inl (nF AR)))] H := hP
      have hD : va_D A [(a_chk, .inr (3, [.ref a_rao, .ref a_sig, .ref a_stm, .ref a_ron, .ref a_aro, .ref a_sip, .ref a_sif])), (a_sig, .inr (1, [.ref a_kind, .ref a_width, .ref a_rword, .ref a_sop, .ref a_sa, .ref a_sb, .ref a_sc, .int (nI n)])), (a_kind, .inl (cI, 14, .inl (nF Kd))), (a_sop, .inl (cI, 14, .inl (nF Op))), (a_sa, .inl (cI, 14, .inl Aa)), (a_sb, .inl (cI, 14, .inl Ab)), (a_sc, .inl (cI, 14, .inl Ac)), (a_stm, .inr (2, [.ref a_sort, .ref a_subject, .ref a_source, .int (nI ms), .int (nI ow), .ref a_elseSeen])), (a_sort, .inl (cI, 20, .inl (nF So))), (a_subject, .inl (cI, 20, .inl (nF Su))), (a_source, .inl (cI, 20, .inl (nF Sr))), (a_rao, .inl (cI, 14, .inl (nF R1))), (a_aro, .inl (cI, 5, .inl (nF AR)))] := hD
      refine lv_goto (tgt := 43) hx hb d_Chk_findRestsAtOnce_39 (by decide) ?_
      refine k_ist hx hb hK hP hD hS 11 0 rfl rfl (by omega) (by decide) d_Chk_findRestsAtOnce_43 (fun H locs hP hD hS => ?_)
      have bb_24 : ∀ j, upN R1 i (amk (tab (Op i)) (ix (Aa i)) (ix (Ab i)) (ix (Ac i))) j < 16384 := upN_lt b_R1 (amk_lt (fun h => ix_lt (ha2.1 h)) (fun h => ix_lt (ha2.2.1 h)) (fun h => ix_lt (ha2.2.2 h)))
      have hP : va_P (dC, dI) classes [(a_chk, .inr (3, [.ref a_rao, .ref a_sig, .ref a_stm, .ref a_ron, .ref a_aro, .ref a_sip, .ref a_sif])), (a_sig, .inr (1, [.ref a_kind, .ref a_width, .ref a_rword, .ref a_sop, .ref a_sa, .ref a_sb, .ref a_sc, .int (nI n)])), (a_kind, .inl (cI, 14, .inl (nF Kd))), (a_sop, .inl (cI, 14, .inl (nF Op))), (a_sa, .inl (cI, 14, .inl Aa)), (a_sb, .inl (cI, 14, .inl Ab)), (a_sc, .inl (cI, 14, .inl Ac)), (a_stm, .inr (2, [.ref a_sort, .ref a_subject, .ref a_source, .int (nI ms), .int (nI ow), .ref a_elseSeen])), (a_sort, .inl (cI, 20, .inl (nF So))), (a_subject, .inl (cI, 20, .inl (nF Su))), (a_source, .inl (cI, 20, .inl (nF Sr))), (a_rao, .inl (cI, 14, .inl (nF (upN R1 i (amk (tab (Op i)) (ix (Aa i)) (ix (Ab i)) (ix (Ac i))))))), (a_aro, .inl (cI, 5, .inl (nF AR)))] H := hP
      have hD : va_D A [(a_chk, .inr (3, [.ref a_rao, .ref a_sig, .ref a_stm, .ref a_ron, .ref a_aro, .ref a_sip, .ref a_sif])), (a_sig, .inr (1, [.ref a_kind, .ref a_width, .ref a_rword, .ref a_sop, .ref a_sa, .ref a_sb, .ref a_sc, .int (nI n)])), (a_kind, .inl (cI, 14, .inl (nF Kd))), (a_sop, .inl (cI, 14, .inl (nF Op))), (a_sa, .inl (cI, 14, .inl Aa)), (a_sb, .inl (cI, 14, .inl Ab)), (a_sc, .inl (cI, 14, .inl Ac)), (a_stm, .inr (2, [.ref a_sort, .ref a_subject, .ref a_source, .int (nI ms), .int (nI ow), .ref a_elseSeen])), (a_sort, .inl (cI, 20, .inl (nF So))), (a_subject, .inl (cI, 20, .inl (nF Su))), (a_source, .inl (cI, 20, .inl (nF Sr))), (a_rao, .inl (cI, 14, .inl (nF (upN R1 i (amk (tab (Op i)) (ix (Aa i)) (ix (Ab i)) (ix (Ac i))))))), (a_aro, .inl (cI, 5, .inl (nF AR)))] := hD
      refine lv_iinc (v := nI (i + 1)) (lv' := [(1, .int (nI (i + 1))), (0, .ref a_chk)]) hx hb d_Chk_findRestsAtOnce_44 hl (k := 0) rfl (k_inc _ 1) (by decide) rfl (fun ls hl => ?_)
      refine lv_goto (tgt := 2) hx hb d_Chk_findRestsAtOnce_47 (by decide) ?_
      have hI_25 : (∀ j, (upN R1 i (amk (tab (Op i)) (ix (Aa i)) (ix (Ab i)) (ix (Ac i)))) j < 16384) ∧ (∀ z, z < (i + 1) → (upN R1 i (amk (tab (Op i)) (ix (Aa i)) (ix (Ab i)) (ix (Ac i)))) z = raB Kd Op Aa Ab Ac z) ∧ ((i + 1) ≤ n) := ⟨bb_24, (fun z hz => by
      by_cases e : z = i
      · subst e; rw [upN_self]; unfold raB; rw [if_pos c28]
      · rw [upN_ne _ _ e]; exact hi z (by omega)), (by omega)⟩
      exact ih_2 (i + 1, upN R1 i (amk (tab (Op i)) (ix (Aa i)) (ix (Ab i)) (ix (Ac i)))) hI_25 (show n - (i + 1) < n - i from by omega) _ _ _ hP hD hS (lv_sub hl [0, 1] rfl)
