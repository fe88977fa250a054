abbrev b_Desk_state : ByteArray := prog_1_method_4_code
def y_Desk_state : MethodName := ⟨"CircuitDesk", "state", "(III)I"⟩
def w_Desk_state : List Cond := .code y_Desk_state b_Desk_state 5 (some .int) :: lw_gw
theorem d_Desk_state_0 : decode b_Desk_state 0 = .ok (.iload_n 1, 1) := by decide +kernel
theorem d_Desk_state_1 : decode b_Desk_state 1 = .ok (.ifCond .ne 43, 3) := by decide +kernel
theorem d_Desk_state_4 : decode b_Desk_state 4 = .ok (.aload_n 0, 1) := by decide +kernel
theorem d_Desk_state_5 : decode b_Desk_state 5 = .ok (.getfield 10, 3) := by decide +kernel
theorem d_Desk_state_8 : decode b_Desk_state 8 = .ok (.iload_n 2, 1) := by decide +kernel
theorem d_Desk_state_9 : decode b_Desk_state 9 = .ok (.invokevirtual 82, 3) := by decide +kernel
theorem d_Desk_state_12 : decode b_Desk_state 12 = .ok (.ifCond .eq 26, 3) := by decide +kernel
theorem d_Desk_state_15 : decode b_Desk_state 15 = .ok (.aload_n 0, 1) := by decide +kernel
theorem d_Desk_state_16 : decode b_Desk_state 16 = .ok (.getfield 10, 3) := by decide +kernel
theorem d_Desk_state_19 : decode b_Desk_state 19 = .ok (.iload_n 3, 1) := by decide +kernel
theorem d_Desk_state_20 : decode b_Desk_state 20 = .ok (.invokevirtual 86, 3) := by decide +kernel
theorem d_Desk_state_23 : decode b_Desk_state 23 = .ok (.ifCond .eq 15, 3) := by decide +kernel
theorem d_Desk_state_26 : decode b_Desk_state 26 = .ok (.aload_n 0, 1) := by decide +kernel
theorem d_Desk_state_27 : decode b_Desk_state 27 = .ok (.getfield 19, 3) := by decide +kernel
theorem d_Desk_state_30 : decode b_Desk_state 30 = .ok (.iload_n 2, 1) := by decide +kernel
theorem d_Desk_state_31 : decode b_Desk_state 31 = .ok (.iload_n 3, 1) := by decide +kernel
theorem d_Desk_state_32 : decode b_Desk_state 32 = .ok (.invokevirtual 89, 3) := by decide +kernel
theorem d_Desk_state_35 : decode b_Desk_state 35 = .ok (.goto 4, 3) := by decide +kernel
theorem d_Desk_state_38 : decode b_Desk_state 38 = .ok (.iconst (-1), 1) := by decide +kernel
theorem d_Desk_state_39 : decode b_Desk_state 39 = .ok (.istore 4, 2) := by decide +kernel
theorem d_Desk_state_41 : decode b_Desk_state 41 = .ok (.goto 86, 3) := by decide +kernel
theorem d_Desk_state_44 : decode b_Desk_state 44 = .ok (.iload_n 1, 1) := by decide +kernel
theorem d_Desk_state_45 : decode b_Desk_state 45 = .ok (.iconst 1, 1) := by decide +kernel
theorem d_Desk_state_46 : decode b_Desk_state 46 = .ok (.if_icmp .ne 44, 3) := by decide +kernel
theorem d_Desk_state_49 : decode b_Desk_state 49 = .ok (.aload_n 0, 1) := by decide +kernel
theorem d_Desk_state_50 : decode b_Desk_state 50 = .ok (.getfield 10, 3) := by decide +kernel
theorem d_Desk_state_53 : decode b_Desk_state 53 = .ok (.iload_n 2, 1) := by decide +kernel
theorem d_Desk_state_54 : decode b_Desk_state 54 = .ok (.invokevirtual 86, 3) := by decide +kernel
theorem d_Desk_state_57 : decode b_Desk_state 57 = .ok (.ifCond .eq 27, 3) := by decide +kernel
theorem d_Desk_state_60 : decode b_Desk_state 60 = .ok (.aload_n 0, 1) := by decide +kernel
theorem d_Desk_state_61 : decode b_Desk_state 61 = .ok (.getfield 10, 3) := by decide +kernel
theorem d_Desk_state_64 : decode b_Desk_state 64 = .ok (.getfield 93, 3) := by decide +kernel
theorem d_Desk_state_67 : decode b_Desk_state 67 = .ok (.iload_n 2, 1) := by decide +kernel
theorem d_Desk_state_68 : decode b_Desk_state 68 = .ok (.iaload, 1) := by decide +kernel
theorem d_Desk_state_69 : decode b_Desk_state 69 = .ok (.iconst 1, 1) := by decide +kernel
theorem d_Desk_state_70 : decode b_Desk_state 70 = .ok (.if_icmp .ne 14, 3) := by decide +kernel
theorem d_Desk_state_73 : decode b_Desk_state 73 = .ok (.aload_n 0, 1) := by decide +kernel
theorem d_Desk_state_74 : decode b_Desk_state 74 = .ok (.getfield 19, 3) := by decide +kernel
theorem d_Desk_state_77 : decode b_Desk_state 77 = .ok (.iload_n 2, 1) := by decide +kernel
theorem d_Desk_state_78 : decode b_Desk_state 78 = .ok (.invokevirtual 96, 3) := by decide +kernel
theorem d_Desk_state_81 : decode b_Desk_state 81 = .ok (.goto 4, 3) := by decide +kernel
theorem d_Desk_state_84 : decode b_Desk_state 84 = .ok (.iconst (-1), 1) := by decide +kernel
theorem d_Desk_state_85 : decode b_Desk_state 85 = .ok (.istore 4, 2) := by decide +kernel
theorem d_Desk_state_87 : decode b_Desk_state 87 = .ok (.goto 40, 3) := by decide +kernel
theorem d_Desk_state_90 : decode b_Desk_state 90 = .ok (.iload_n 1, 1) := by decide +kernel
theorem d_Desk_state_91 : decode b_Desk_state 91 = .ok (.iconst 2, 1) := by decide +kernel
theorem d_Desk_state_92 : decode b_Desk_state 92 = .ok (.if_icmp .ne 15, 3) := by decide +kernel
theorem d_Desk_state_95 : decode b_Desk_state 95 = .ok (.aload_n 0, 1) := by decide +kernel
theorem d_Desk_state_96 : decode b_Desk_state 96 = .ok (.getfield 19, 3) := by decide +kernel
theorem d_Desk_state_99 : decode b_Desk_state 99 = .ok (.invokevirtual 100, 3) := by decide +kernel
theorem d_Desk_state_102 : decode b_Desk_state 102 = .ok (.istore 4, 2) := by decide +kernel
theorem d_Desk_state_104 : decode b_Desk_state 104 = .ok (.goto 23, 3) := by decide +kernel
theorem d_Desk_state_107 : decode b_Desk_state 107 = .ok (.iload_n 1, 1) := by decide +kernel
theorem d_Desk_state_108 : decode b_Desk_state 108 = .ok (.iconst 3, 1) := by decide +kernel
theorem d_Desk_state_109 : decode b_Desk_state 109 = .ok (.if_icmp .ne 15, 3) := by decide +kernel
theorem d_Desk_state_112 : decode b_Desk_state 112 = .ok (.aload_n 0, 1) := by decide +kernel
theorem d_Desk_state_113 : decode b_Desk_state 113 = .ok (.getfield 19, 3) := by decide +kernel
theorem d_Desk_state_116 : decode b_Desk_state 116 = .ok (.invokevirtual 104, 3) := by decide +kernel
theorem d_Desk_state_119 : decode b_Desk_state 119 = .ok (.istore 4, 2) := by decide +kernel
theorem d_Desk_state_121 : decode b_Desk_state 121 = .ok (.goto 6, 3) := by decide +kernel
theorem d_Desk_state_124 : decode b_Desk_state 124 = .ok (.iconst (-1), 1) := by decide +kernel
theorem d_Desk_state_125 : decode b_Desk_state 125 = .ok (.istore 4, 2) := by decide +kernel
theorem d_Desk_state_127 : decode b_Desk_state 127 = .ok (.iload 4, 2) := by decide +kernel
theorem d_Desk_state_129 : decode b_Desk_state 129 = .ok (.ifCond .lt 8, 3) := by decide +kernel
theorem d_Desk_state_132 : decode b_Desk_state 132 = .ok (.aload_n 0, 1) := by decide +kernel
theorem d_Desk_state_133 : decode b_Desk_state 133 = .ok (.iconst 0, 1) := by decide +kernel
theorem d_Desk_state_134 : decode b_Desk_state 134 = .ok (.putfield 59, 3) := by decide +kernel
theorem d_Desk_state_137 : decode b_Desk_state 137 = .ok (.iload 4, 2) := by decide +kernel
theorem d_Desk_state_139 : decode b_Desk_state 139 = .ok (.ireturn, 1) := by decide +kernel
abbrev b_Desk_clear : ByteArray := prog_1_method_5_code
def y_Desk_clear : MethodName := ⟨"CircuitDesk", "clear", "(I)I"⟩
def w_Desk_clear : List Cond := .code y_Desk_clear b_Desk_clear 3 (some .int) :: lw_gw
theorem d_Desk_clear_0 : decode b_Desk_clear 0 = .ok (.iload_n 1, 1) := by decide +kernel
theorem d_Desk_clear_1 : decode b_Desk_clear 1 = .ok (.ifCond .eq 10, 3) := by decide +kernel
theorem d_Desk_clear_4 : decode b_Desk_clear 4 = .ok (.iload_n 1, 1) := by decide +kernel
theorem d_Desk_clear_5 : decode b_Desk_clear 5 = .ok (.iconst 1, 1) := by decide +kernel
theorem d_Desk_clear_6 : decode b_Desk_clear 6 = .ok (.if_icmp .eq 5, 3) := by decide +kernel
theorem d_Desk_clear_9 : decode b_Desk_clear 9 = .ok (.iconst (-1), 1) := by decide +kernel
theorem d_Desk_clear_10 : decode b_Desk_clear 10 = .ok (.ireturn, 1) := by decide +kernel
theorem d_Desk_clear_11 : decode b_Desk_clear 11 = .ok (.aload_n 0, 1) := by decide +kernel
theorem d_Desk_clear_12 : decode b_Desk_clear 12 = .ok (.getfield 19, 3) := by decide +kernel
theorem d_Desk_clear_15 : decode b_Desk_clear 15 = .ok (.getfield 107, 3) := by decide +kernel
theorem d_Desk_clear_18 : decode b_Desk_clear 18 = .ok (.istore_n 2, 1) := by decide +kernel
theorem d_Desk_clear_19 : decode b_Desk_clear 19 = .ok (.aload_n 0, 1) := by decide +kernel
theorem d_Desk_clear_20 : decode b_Desk_clear 20 = .ok (.getfield 19, 3) := by decide +kernel
theorem d_Desk_clear_23 : decode b_Desk_clear 23 = .ok (.invokevirtual 108, 3) := by decide +kernel
theorem d_Desk_clear_26 : decode b_Desk_clear 26 = .ok (.iload_n 1, 1) := by decide +kernel
theorem d_Desk_clear_27 : decode b_Desk_clear 27 = .ok (.iconst 1, 1) := by decide +kernel
theorem d_Desk_clear_28 : decode b_Desk_clear 28 = .ok (.if_icmp .ne 11, 3) := by decide +kernel
theorem d_Desk_clear_31 : decode b_Desk_clear 31 = .ok (.aload_n 0, 1) := by decide +kernel
theorem d_Desk_clear_32 : decode b_Desk_clear 32 = .ok (.getfield 10, 3) := by decide +kernel
theorem d_Desk_clear_35 : decode b_Desk_clear 35 = .ok (.iconst 0, 1) := by decide +kernel
theorem d_Desk_clear_36 : decode b_Desk_clear 36 = .ok (.putfield 56, 3) := by decide +kernel
theorem d_Desk_clear_39 : decode b_Desk_clear 39 = .ok (.aload_n 0, 1) := by decide +kernel
theorem d_Desk_clear_40 : decode b_Desk_clear 40 = .ok (.iconst 0, 1) := by decide +kernel
theorem d_Desk_clear_41 : decode b_Desk_clear 41 = .ok (.putfield 59, 3) := by decide +kernel
theorem d_Desk_clear_44 : decode b_Desk_clear 44 = .ok (.iload_n 2, 1) := by decide +kernel
theorem d_Desk_clear_45 : decode b_Desk_clear 45 = .ok (.ireturn, 1) := by decide +kernel
abbrev b_Desk_where : ByteArray := prog_1_method_7_code
def y_Desk_where : MethodName := ⟨"CircuitDesk", "where", "()I"⟩
def w_Desk_where : List Cond := .code y_Desk_where b_Desk_where 1 (some .int) :: lw_gw
theorem d_Desk_where_0 : decode b_Desk_where 0 = .ok (.aload_n 0, 1) := by decide +kernel
theorem d_Desk_where_1 : decode b_Desk_where 1 = .ok (.getfield 52, 3) := by decide +kernel
theorem d_Desk_where_4 : decode b_Desk_where 4 = .ok (.ireturn, 1) := by decide +kernel
abbrev b_Desk_input : ByteArray := prog_1_method_8_code
def y_Desk_input : MethodName := ⟨"CircuitDesk", "input", "(II)I"⟩
def w_Desk_input : List Cond := .code y_Desk_input b_Desk_input 4 (some .int) :: lw_gw
theorem d_Desk_input_0 : decode b_Desk_input 0 = .ok (.aload_n 0, 1) := by decide +kernel
theorem d_Desk_input_1 : decode b_Desk_input 1 = .ok (.getfield 59, 3) := by decide +kernel
theorem d_Desk_input_4 : decode b_Desk_input 4 = .ok (.ifCond .eq 26, 3) := by decide +kernel
theorem d_Desk_input_7 : decode b_Desk_input 7 = .ok (.aload_n 0, 1) := by decide +kernel
theorem d_Desk_input_8 : decode b_Desk_input 8 = .ok (.getfield 10, 3) := by decide +kernel
theorem d_Desk_input_11 : decode b_Desk_input 11 = .ok (.iload_n 1, 1) := by decide +kernel
theorem d_Desk_input_12 : decode b_Desk_input 12 = .ok (.invokevirtual 86, 3) := by decide +kernel
theorem d_Desk_input_15 : decode b_Desk_input 15 = .ok (.ifCond .eq 15, 3) := by decide +kernel
theorem d_Desk_input_18 : decode b_Desk_input 18 = .ok (.aload_n 0, 1) := by decide +kernel
theorem d_Desk_input_19 : decode b_Desk_input 19 = .ok (.getfield 10, 3) := by decide +kernel
theorem d_Desk_input_22 : decode b_Desk_input 22 = .ok (.getfield 129, 3) := by decide +kernel
theorem d_Desk_input_25 : decode b_Desk_input 25 = .ok (.iload_n 1, 1) := by decide +kernel
theorem d_Desk_input_26 : decode b_Desk_input 26 = .ok (.iaload, 1) := by decide +kernel
theorem d_Desk_input_27 : decode b_Desk_input 27 = .ok (.ifCond .eq 6, 3) := by decide +kernel
theorem d_Desk_input_30 : decode b_Desk_input 30 = .ok (.bipush (-2), 2) := by decide +kernel
theorem d_Desk_input_32 : decode b_Desk_input 32 = .ok (.ireturn, 1) := by decide +kernel
theorem d_Desk_input_33 : decode b_Desk_input 33 = .ok (.iload_n 2, 1) := by decide +kernel
theorem d_Desk_input_34 : decode b_Desk_input 34 = .ok (.aload_n 0, 1) := by decide +kernel
theorem d_Desk_input_35 : decode b_Desk_input 35 = .ok (.getfield 10, 3) := by decide +kernel
theorem d_Desk_input_38 : decode b_Desk_input 38 = .ok (.getfield 93, 3) := by decide +kernel
theorem d_Desk_input_41 : decode b_Desk_input 41 = .ok (.iload_n 1, 1) := by decide +kernel
theorem d_Desk_input_42 : decode b_Desk_input 42 = .ok (.iaload, 1) := by decide +kernel
theorem d_Desk_input_43 : decode b_Desk_input 43 = .ok (.invokestatic 132, 3) := by decide +kernel
theorem d_Desk_input_46 : decode b_Desk_input 46 = .ok (.iand, 1) := by decide +kernel
theorem d_Desk_input_47 : decode b_Desk_input 47 = .ok (.istore_n 3, 1) := by decide +kernel
theorem d_Desk_input_48 : decode b_Desk_input 48 = .ok (.aload_n 0, 1) := by decide +kernel
theorem d_Desk_input_49 : decode b_Desk_input 49 = .ok (.getfield 35, 3) := by decide +kernel
theorem d_Desk_input_52 : decode b_Desk_input 52 = .ok (.iload_n 1, 1) := by decide +kernel
theorem d_Desk_input_53 : decode b_Desk_input 53 = .ok (.iload_n 3, 1) := by decide +kernel
theorem d_Desk_input_54 : decode b_Desk_input 54 = .ok (.invokevirtual 135, 3) := by decide +kernel
theorem d_Desk_input_57 : decode b_Desk_input 57 = .ok (.iload_n 3, 1) := by decide +kernel
theorem d_Desk_input_58 : decode b_Desk_input 58 = .ok (.ireturn, 1) := by decide +kernel
abbrev b_Desk_startAnew : ByteArray := prog_1_method_14_code
def y_Desk_startAnew : MethodName := ⟨"CircuitDesk", "startAnew", "()V"⟩
def w_Desk_startAnew : List Cond := .code y_Desk_startAnew b_Desk_startAnew 2 none :: lw_gw
theorem d_Desk_startAnew_0 : decode b_Desk_startAnew 0 = .ok (.iconst 0, 1) := by decide +kernel
theorem d_Desk_startAnew_1 : decode b_Desk_startAnew 1 = .ok (.istore_n 1, 1) := by decide +kernel
theorem d_Desk_startAnew_2 : decode b_Desk_startAnew 2 = .ok (.iload_n 1, 1) := by decide +kernel
theorem d_Desk_startAnew_3 : decode b_Desk_startAnew 3 = .ok (.aload_n 0, 1) := by decide +kernel
theorem d_Desk_startAnew_4 : decode b_Desk_startAnew 4 = .ok (.getfield 10, 3) := by decide +kernel
theorem d_Desk_startAnew_7 : decode b_Desk_startAnew 7 = .ok (.getfield 56, 3) := by decide +kernel
theorem d_Desk_startAnew_10 : decode b_Desk_startAnew 10 = .ok (.if_icmp .ge 63, 3) := by decide +kernel
theorem d_Desk_startAnew_13 : decode b_Desk_startAnew 13 = .ok (.aload_n 0, 1) := by decide +kernel
theorem d_Desk_startAnew_14 : decode b_Desk_startAnew 14 = .ok (.getfield 10, 3) := by decide +kernel
theorem d_Desk_startAnew_17 : decode b_Desk_startAnew 17 = .ok (.getfield 129, 3) := by decide +kernel
theorem d_Desk_startAnew_20 : decode b_Desk_startAnew 20 = .ok (.iload_n 1, 1) := by decide +kernel
theorem d_Desk_startAnew_21 : decode b_Desk_startAnew 21 = .ok (.iaload, 1) := by decide +kernel
theorem d_Desk_startAnew_22 : decode b_Desk_startAnew 22 = .ok (.iconst 2, 1) := by decide +kernel
theorem d_Desk_startAnew_23 : decode b_Desk_startAnew 23 = .ok (.if_icmp .ne 23, 3) := by decide +kernel
theorem d_Desk_startAnew_26 : decode b_Desk_startAnew 26 = .ok (.aload_n 0, 1) := by decide +kernel
theorem d_Desk_startAnew_27 : decode b_Desk_startAnew 27 = .ok (.getfield 35, 3) := by decide +kernel
theorem d_Desk_startAnew_30 : decode b_Desk_startAnew 30 = .ok (.iload_n 1, 1) := by decide +kernel
theorem d_Desk_startAnew_31 : decode b_Desk_startAnew 31 = .ok (.aload_n 0, 1) := by decide +kernel
theorem d_Desk_startAnew_32 : decode b_Desk_startAnew 32 = .ok (.getfield 10, 3) := by decide +kernel
theorem d_Desk_startAnew_35 : decode b_Desk_startAnew 35 = .ok (.getfield 173, 3) := by decide +kernel
theorem d_Desk_startAnew_38 : decode b_Desk_startAnew 38 = .ok (.iload_n 1, 1) := by decide +kernel
theorem d_Desk_startAnew_39 : decode b_Desk_startAnew 39 = .ok (.iaload, 1) := by decide +kernel
theorem d_Desk_startAnew_40 : decode b_Desk_startAnew 40 = .ok (.invokevirtual 135, 3) := by decide +kernel
theorem d_Desk_startAnew_43 : decode b_Desk_startAnew 43 = .ok (.goto 24, 3) := by decide +kernel
theorem d_Desk_startAnew_46 : decode b_Desk_startAnew 46 = .ok (.aload_n 0, 1) := by decide +kernel
theorem d_Desk_startAnew_47 : decode b_Desk_startAnew 47 = .ok (.getfield 10, 3) := by decide +kernel
theorem d_Desk_startAnew_50 : decode b_Desk_startAnew 50 = .ok (.getfield 129, 3) := by decide +kernel
theorem d_Desk_startAnew_53 : decode b_Desk_startAnew 53 = .ok (.iload_n 1, 1) := by decide +kernel
theorem d_Desk_startAnew_54 : decode b_Desk_startAnew 54 = .ok (.iaload, 1) := by decide +kernel
theorem d_Desk_startAnew_55 : decode b_Desk_startAnew 55 = .ok (.ifCond .ne 12, 3) := by decide +kernel
theorem d_Desk_startAnew_58 : decode b_Desk_startAnew 58 = .ok (.aload_n 0, 1) := by decide +kernel
theorem d_Desk_startAnew_59 : decode b_Desk_startAnew 59 = .ok (.getfield 35, 3) := by decide +kernel
theorem d_Desk_startAnew_62 : decode b_Desk_startAnew 62 = .ok (.iload_n 1, 1) := by decide +kernel
theorem d_Desk_startAnew_63 : decode b_Desk_startAnew 63 = .ok (.iconst 0, 1) := by decide +kernel
theorem d_Desk_startAnew_64 : decode b_Desk_startAnew 64 = .ok (.invokevirtual 135, 3) := by decide +kernel
theorem d_Desk_startAnew_67 : decode b_Desk_startAnew 67 = .ok (.iinc 1 1, 3) := by decide +kernel
theorem d_Desk_startAnew_70 : decode b_Desk_startAnew 70 = .ok (.goto (-68), 3) := by decide +kernel
theorem d_Desk_startAnew_73 : decode b_Desk_startAnew 73 = .ok (.aload_n 0, 1) := by decide +kernel
theorem d_Desk_startAnew_74 : decode b_Desk_startAnew 74 = .ok (.iconst 0, 1) := by decide +kernel
theorem d_Desk_startAnew_75 : decode b_Desk_startAnew 75 = .ok (.putfield 142, 3) := by decide +kernel
theorem d_Desk_startAnew_78 : decode b_Desk_startAnew 78 = .ok (.return_, 1) := by decide +kernel
set_option maxHeartbeats 4000000 in
set_option maxRecDepth 100000 in
theorem c_Desk_state (l : Launch) (dC : Nat → ClassId) (dI : Nat → Nat → Nat) (cI cZ : ClassId) (a_desk a_sig a_stm a_chk a_net a_mkr a_nwords a_kind a_width a_rword a_sop a_sa a_sb a_sc a_sort a_subject a_source a_elseSeen : Nat) (tt sz : Nat) (rd : Nat) (fw : Int32) (ck : Nat) (n : Nat) (Kd : Nat → Nat) (Wd : Nat → Nat) (ms : Nat) (ow : Nat) (So : Nat → Nat) (Su : Nat → Nat) (Sr : Nat → Nat) (Es : Nat → Nat) (q0 : Int32) (x : Int32) (y : Int32) (b_rd : rd ≤ 1) (b_n : n ≤ 14) (b_Kd : ∀ j, Kd j < 4) (b_Wd : ∀ j, Wd j < 9) (b_ms : ms ≤ 20) (b_ow : ow ≤ 4) (b_So : ∀ j, So j < 4) (b_Su : ∀ j, Su j < 14) (b_Sr : ∀ j, Sr j < 14) (b_Es : ∀ j, Es j < 2) : Met l y_Desk_state w_Desk_state ({ frames := 2, cells := 0, slots := 0, locals := 45 }) (va_Pc [.ref a_desk, .int q0, .int x, .int y] (PW (dC, dI) classes [(cI, .int), (cZ, .boolean)] tt [(a_desk, .inr (5, [.ref a_sig, .ref a_stm, .ref a_chk, .ref a_net, .ref a_mkr, .ref a_nwords, .int (nI rd), .int fw, .int (nI ck)])), (a_sig, .inr (1, [.ref a_kind, .ref a_width, .ref a_rword, .ref a_sop, .ref a_sa, .ref a_sb, .ref a_sc, .int (nI n)])), (a_kind, .inl (cI, 14, .inl (nF Kd))), (a_width, .inl (cI, 14, .inl (nF Wd))), (a_stm, .inr (2, [.ref a_sort, .ref a_subject, .ref a_source, .int (nI ms), .int (nI ow), .ref a_elseSeen])), (a_sort, .inl (cI, 20, .inl (nF So))), (a_subject, .inl (cI, 20, .inl (nF Su))), (a_source, .inl (cI, 20, .inl (nF Sr))), (a_elseSeen, .inl (cZ, 4, .inl (nF Es)))] sz)) (va_Qi (fun (r : Int32) (u : Nat × (Nat → Nat) × (Nat → Nat) × (Nat → Nat) × Nat × (Nat → Nat) × Nat) => (u.1 ≤ 20) ∧ (∀ j, u.2.1 j < 4) ∧ (∀ j, u.2.2.1 j < 14) ∧ (∀ j, u.2.2.2.1 j < 14) ∧ (u.2.2.2.2.1 ≤ 4) ∧ (∀ j, u.2.2.2.2.2.1 j < 2) ∧ (u.2.2.2.2.2.2 ≤ 1) ∧ ((¬ stOK q0 x y n Kd Wd ∧ (-1) = r ∧ ms = u.1 ∧ So = u.2.1 ∧ Su = u.2.2.1 ∧ Sr = u.2.2.2.1 ∧ ow = u.2.2.2.2.1 ∧ Es = u.2.2.2.2.2.1 ∧ rd = u.2.2.2.2.2.2) ∨ (stOK q0 x y n Kd Wd ∧ stN q0 ow Es ∧ (-2) = r ∧ ms = u.1 ∧ So = u.2.1 ∧ Su = u.2.2.1 ∧ Sr = u.2.2.2.1 ∧ ow = u.2.2.2.2.1 ∧ Es = u.2.2.2.2.2.1 ∧ rd = u.2.2.2.2.2.2) ∨ (stOK q0 x y n Kd Wd ∧ ¬ stN q0 ow Es ∧ stF q0 ms ow ∧ (-3) = r ∧ ms = u.1 ∧ So = u.2.1 ∧ Su = u.2.2.1 ∧ Sr = u.2.2.2.1 ∧ ow = u.2.2.2.2.1 ∧ Es = u.2.2.2.2.2.1 ∧ rd = u.2.2.2.2.2.2) ∨ (stOK q0 x y n Kd Wd ∧ ¬ stN q0 ow Es ∧ ¬ stF q0 ms ow ∧ nI (ms + 1) = r ∧ ms + 1 = u.1 ∧ upN So ms (ix q0) = u.2.1 ∧ upN Su ms (if q0.toInt ≤ 1 then ix x else 0) = u.2.2.1 ∧ upN Sr ms (if q0.toInt = 0 then ix y else 0) = u.2.2.2.1 ∧ (if q0.toInt = 1 then ow + 1 else if q0.toInt = 3 then ow - 1 else ow) = u.2.2.2.2.1 ∧ (if q0.toInt = 1 then upN Es ow 0 else if q0.toInt = 2 then upN Es (ow - 1) 1 else Es) = u.2.2.2.2.2.1 ∧ 0 = u.2.2.2.2.2.2))) (AT (dC, dI) classes [(cI, .int), (cZ, .boolean)] (va_A [(a_desk, .inr (5, [.ref a_sig, .ref a_stm, .ref a_chk, .ref a_net, .ref a_mkr, .ref a_nwords, .int (nI rd), .int fw, .int (nI ck)])), (a_sig, .inr (1, [.ref a_kind, .ref a_width, .ref a_rword, .ref a_sop, .ref a_sa, .ref a_sb, .ref a_sc, .int (nI n)])), (a_kind, .inl (cI, 14, .inl (nF Kd))), (a_width, .inl (cI, 14, .inl (nF Wd))), (a_stm, .inr (2, [.ref a_sort, .ref a_subject, .ref a_source, .int (nI ms), .int (nI ow), .ref a_elseSeen])), (a_sort, .inl (cI, 20, .inl (nF So))), (a_subject, .inl (cI, 20, .inl (nF Su))), (a_source, .inl (cI, 20, .inl (nF Sr))), (a_elseSeen, .inl (cZ, 4, .inl (nF Es)))] sz) (fun (u : Nat × (Nat → Nat) × (Nat → Nat) × (Nat → Nat) × Nat × (Nat → Nat) × Nat) => [(a_desk, .inr (5, [.ref a_sig, .ref a_stm, .ref a_chk, .ref a_net, .ref a_mkr, .ref a_nwords, .int (nI u.2.2.2.2.2.2), .int fw, .int (nI ck)])), (a_sig, .inr (1, [.ref a_kind, .ref a_width, .ref a_rword, .ref a_sop, .ref a_sa, .ref a_sb, .ref a_sc, .int (nI n)])), (a_kind, .inl (cI, 14, .inl (nF Kd))), (a_width, .inl (cI, 14, .inl (nF Wd))), (a_stm, .inr (2, [.ref a_sort, .ref a_subject, .ref a_source, .int (nI u.1), .int (nI u.2.2.2.2.1), .ref a_elseSeen])), (a_sort, .inl (cI, 20, .inl (nF u.2.1))), (a_subject, .inl (cI, 20, .inl (nF u.2.2.1))), (a_source, .inl (cI, 20, .inl (nF u.2.2.2.1))), (a_elseSeen, .inl (cZ, 4, .inl (nF u.2.2.2.2.2.1)))])) (va_A [(a_desk, .inr (5, [.ref a_sig, .ref a_stm, .ref a_chk, .ref a_net, .ref a_mkr, .ref a_nwords, .int (nI rd), .int fw, .int (nI ck)])), (a_sig, .inr (1, [.ref a_kind, .ref a_width, .ref a_rword, .ref a_sop, .ref a_sa, .ref a_sb, .ref a_sc, .int (nI n)])), (a_kind, .inl (cI, 14, .inl (nF Kd))), (a_width, .inl (cI, 14, .inl (nF Wd))), (a_stm, .inr (2, [.ref a_sort, .ref a_subject, .ref a_source, .int (nI ms), .int (nI ow), .ref a_elseSeen])), (a_sort, .inl (cI, 20, .inl (nF So))), (a_subject, .inl (cI, 20, .inl (nF Su))), (a_source, .inl (cI, 20, .inl (nF Sr))), (a_elseSeen, .inl (cZ, 4, .inl (nF Es)))] sz)) 0 0 (va_A [(a_desk, .inr (5, [.ref a_sig, .ref a_stm, .ref a_chk, .ref a_net, .ref a_mkr, .ref a_nwords, .int (nI rd), .int fw, .int (nI ck)])), (a_sig, .inr (1, [.ref a_kind, .ref a_width, .ref a_rword, .ref a_sop, .ref a_sa, .ref a_sb, .ref a_sc, .int (nI n)])), (a_kind, .inl (cI, 14, .inl (nF Kd))), (a_width, .inl (cI, 14, .inl (nF Wd))), (a_stm, .inr (2, [.ref a_sort, .ref a_subject, .ref a_source, .int (nI ms), .int (nI ow), .ref a_elseSeen])), (a_sort, .inl (cI, 20, .inl (nF So))), (a_subject, .inl (cI, 20, .inl (nF Su))), (a_source, .inl (cI, 20, .inl (nF Sr))), (a_elseSeen, .inl (cZ, 4, .inl (nF Es)))] sz) := by
  refine Met.ofW (cc := b_Desk_state) (maxL := 5) (ret := (some .int)) (by decide) rfl ?_
  intro p e s m args below meth c s₁ B hml hv
  obtain ⟨rfl, hsz, hP, hK, hD0, hE⟩ := hv
  have hx := B.exec
  have hb := B.bytes
  have hr := B.returns
  have hts := atoms_spec (ws := w_Desk_state) B.pre
  have hown : s.vm.findClass R_Desk = some m.cls := findClass_of_methodNamed B.named
  have hlocks := B.notSynchronized
  subst hsz
  have hD := hD0.self (sz := s.heap.size)
  generalize hAe : va_A [(a_desk, .inr (5, [.ref a_sig, .ref a_stm, .ref a_chk, .ref a_net, .ref a_mkr, .ref a_nwords, .int (nI rd), .int fw, .int (nI ck)])), (a_sig, .inr (1, [.ref a_kind, .ref a_width, .ref a_rword, .ref a_sop, .ref a_sa, .ref a_sb, .ref a_sc, .int (nI n)])), (a_kind, .inl (cI, 14, .inl (nF Kd))), (a_width, .inl (cI, 14, .inl (nF Wd))), (a_stm, .inr (2, [.ref a_sort, .ref a_subject, .ref a_source, .int (nI ms), .int (nI ow), .ref a_elseSeen])), (a_sort, .inl (cI, 20, .inl (nF So))), (a_subject, .inl (cI, 20, .inl (nF Su))), (a_source, .inl (cI, 20, .inl (nF Sr))), (a_elseSeen, .inl (cZ, 4, .inl (nF Es)))] s.heap.size = A at hD hE ⊢
  have hA : ∀ q : Nat, s.heap.size ≤ q → A q := fun q h => by rw [← hAe]; exact Or.inr h
  have hS : va_S A s.heap s.heap [] := va_S.rf
  have hP : va_P (dC, dI) classes [(a_desk, .inr (5, [.ref a_sig, .ref a_stm, .ref a_chk, .ref a_net, .ref a_mkr, .ref a_nwords, .int (nI rd), .int fw, .int (nI ck)])), (a_sig, .inr (1, [.ref a_kind, .ref a_width, .ref a_rword, .ref a_sop, .ref a_sa, .ref a_sb, .ref a_sc, .int (nI n)])), (a_kind, .inl (cI, 14, .inl (nF Kd))), (a_width, .inl (cI, 14, .inl (nF Wd))), (a_stm, .inr (2, [.ref a_sort, .ref a_subject, .ref a_source, .int (nI ms), .int (nI ow), .ref a_elseSeen])), (a_sort, .inl (cI, 20, .inl (nF So))), (a_subject, .inl (cI, 20, .inl (nF Su))), (a_source, .inl (cI, 20, .inl (nF Sr))), (a_elseSeen, .inl (cZ, 4, .inl (nF Es)))] s.heap := hP
  have hl := lv_entry ([.ref a_desk, .int q0, .int x, .int y]) (n := 5) (Nat.le_of_ble_eq_true rfl)
  rw [lg_entry_eq]
  generalize (lg_sl ([.ref a_desk, .int q0, .int x, .int y]) ++ List.replicate (5 - (lg_sl ([.ref a_desk, .int q0, .int x, .int y])).length) Slot.unset).toArray = ls at hl ⊢
  have hl : lv_has ls 5 [(0, .ref a_desk), (1, .int q0), (2, .int x), (3, .int y)] := hl
  refine lv_iload_n hx hb d_Desk_state_0 rfl (lv_at hl 1 rfl) ?_
  refine lv_if_ne (tgt := 44) hx hb d_Desk_state_1 (by decide) (fun c1 => ?_) (fun c1 => ?_)
  · skip
    have c1 : ¬ (q0.toInt = 0) := fun h => c1 ((ri_eq rfl rfl).mpr h)
    refine lv_iload_n hx hb d_Desk_state_44 rfl (lv_at hl 1 rfl) ?_
    refine lv_iconst (v := nI 1) hx hb d_Desk_state_45 rfl ?_
    refine lv_icmp_ne (tgt := 90) hx hb d_Desk_state_46 (by decide) (fun c46 => ?_) (fun c46 => ?_)
    · skip
      have c46 : ¬ (q0.toInt = ((1 : Nat) : Int)) := fun h => c46 ((ri_eq rfl (nI_toInt (show _ < 2 ^ 31 by omega))).mpr h)
      refine lv_iload_n hx hb d_Desk_state_90 rfl (lv_at hl 1 rfl) ?_
      refine lv_iconst (v := nI 2) hx hb d_Desk_state_91 rfl ?_
      refine lv_icmp_ne (tgt := 107) hx hb d_Desk_state_92 (by decide) (fun c92 => ?_) (fun c92 => ?_)
      · skip
        have c92 : ¬ (q0.toInt = ((2 : Nat) : Int)) := fun h => c92 ((ri_eq rfl (nI_toInt (show _ < 2 ^ 31 by omega))).mpr h)
        refine lv_iload_n hx hb d_Desk_state_107 rfl (lv_at hl 1 rfl) ?_
        refine lv_iconst (v := nI 3) hx hb d_Desk_state_108 rfl ?_
        refine lv_icmp_ne (tgt := 124) hx hb d_Desk_state_109 (by decide) (fun c109 => ?_) (fun c109 => ?_)
        · skip
          have c109 : ¬ (q0.toInt = ((3 : Nat) : Int)) := fun h => c109 ((ri_eq rfl (nI_toInt (show _ < 2 ^ 31 by omega))).mpr h)
          have hno : ¬ stOK q0 x y n Kd Wd := by
            rintro (h | h | h | h) <;> omega
          refine lv_iconst (v := (-1 : Int32)) hx hb d_Desk_state_124 rfl ?_
          refine lv_istore (lv' := [(4, .int (-1 : Int32)), (0, .ref a_desk), (1, .int q0), (2, .int x), (3, .int y)]) hx hb d_Desk_state_125 hl (by decide) rfl (fun ls hl => ?_)
          refine lv_iload hx hb d_Desk_state_127 (lv_at hl 0 rfl) ?_
          refine lv_if_lt (tgt := 137) hx hb d_Desk_state_129 (by decide) (fun c129 => ?_) (fun c129 => ?_)
          · skip
            have c129 : (-1 : Int32).toInt < 0 := (ri_lt rfl rfl).mp c129
            refine lv_iload hx hb d_Desk_state_137 (lv_at hl 0 rfl) ?_
            exact W.iret (v := (-1 : Int32)) hx hb hr (fun t ht hW => ⟨⟨(-1 : Int32), (ms, So, Su, Sr, ow, Es, rd), rfl, ⟨(show ms ≤ 20 from by omega), b_So, b_Su, b_Sr, (show ow ≤ 4 from by omega), b_Es, (show rd ≤ 1 from by omega), (show (¬ stOK q0 x y n Kd Wd ∧ (-1) = (-1 : Int32) ∧ ms = ms ∧ So = So ∧ Su = Su ∧ Sr = Sr ∧ ow = ow ∧ Es = Es ∧ rd = rd) ∨ (stOK q0 x y n Kd Wd ∧ stN q0 ow Es ∧ (-2) = (-1 : Int32) ∧ ms = ms ∧ So = So ∧ Su = Su ∧ Sr = Sr ∧ ow = ow ∧ Es = Es ∧ rd = rd) ∨ (stOK q0 x y n Kd Wd ∧ ¬ stN q0 ow Es ∧ stF q0 ms ow ∧ (-3) = (-1 : Int32) ∧ ms = ms ∧ So = So ∧ Su = Su ∧ Sr = Sr ∧ ow = ow ∧ Es = Es ∧ rd = rd) ∨ (stOK q0 x y n Kd Wd ∧ ¬ stN q0 ow Es ∧ ¬ stF q0 ms ow ∧ nI (ms + 1) = (-1 : Int32) ∧ ms + 1 = ms ∧ upN So ms (ix q0) = So ∧ upN Su ms (if q0.toInt ≤ 1 then ix x else 0) = Su ∧ upN Sr ms (if q0.toInt = 0 then ix y else 0) = Sr ∧ (if q0.toInt = 1 then ow + 1 else if q0.toInt = 3 then ow - 1 else ow) = ow ∧ (if q0.toInt = 1 then upN Es ow 0 else if q0.toInt = 2 then upN Es (ow - 1) 1 else Es) = Es ∧ 0 = rd) from Or.inl ⟨hno, rfl, rfl, rfl, rfl, rfl, rfl, rfl, rfl⟩)⟩, by rw [ht]; exact hP, va_K.moved hW.alike hK, hD⟩, hS.F ht⟩) hS.2.2 d_Desk_state_139
          · skip
            have c129 : ¬ ((-1 : Int32).toInt < 0) := fun h => c129 ((ri_lt rfl rfl).mpr h)
            exact absurd c129 (by decide)
        · skip
          have c109 : q0.toInt = ((3 : Nat) : Int) := (ri_eq rfl (nI_toInt (show _ < 2 ^ 31 by omega))).mp c109
          have hok : stOK q0 x y n Kd Wd := Or.inr (Or.inr (Or.inr c109))
          have hqi : ix q0 = 3 := ix_ti c109
          refine lv_aload_n hx hb d_Desk_state_112 rfl (lv_at hl 0 rfl) ?_
          refine va_get (D := (dC, dI)) (ci := 5) (v := .ref a_stm) (C := R_Desk) (T := F_Desk) (N := 9) hx hb hts (wi i_Desk) hown hK hP 0 rfl rfl 1 (by decide) (hts _ (mt 243 rfl rfl)) (fun _ h9 => h9) rfl d_Desk_state_113 ?_
          refine k_i (wr := [(a_desk, .inr (5, [.ref a_sig, .ref a_stm, .ref a_chk, .ref a_net, .ref a_mkr, .ref a_nwords, .int (nI rd), .int fw, .int (nI ck)])), (a_sig, .inr (1, [.ref a_kind, .ref a_width, .ref a_rword, .ref a_sop, .ref a_sa, .ref a_sb, .ref a_sc, .int (nI n)])), (a_kind, .inl (cI, 14, .inl (nF Kd))), (a_width, .inl (cI, 14, .inl (nF Wd))), (a_elseSeen, .inl (cZ, 4, .inl (nF Es)))]) (w2 := fun (u : Nat × Nat × (Nat → Nat) × (Nat → Nat) × (Nat → Nat)) => [(a_desk, .inr (5, [.ref a_sig, .ref a_stm, .ref a_chk, .ref a_net, .ref a_mkr, .ref a_nwords, .int (nI rd), .int fw, .int (nI ck)])), (a_sig, .inr (1, [.ref a_kind, .ref a_width, .ref a_rword, .ref a_sop, .ref a_sa, .ref a_sb, .ref a_sc, .int (nI n)])), (a_kind, .inl (cI, 14, .inl (nF Kd))), (a_width, .inl (cI, 14, .inl (nF Wd))), (a_stm, .inr (2, [.ref a_sort, .ref a_subject, .ref a_source, .int (nI u.1), .int (nI u.2.1), .ref a_elseSeen])), (a_sort, .inl (cI, 20, .inl (nF u.2.2.1))), (a_subject, .inl (cI, 20, .inl (nF u.2.2.2.1))), (a_source, .inl (cI, 20, .inl (nF u.2.2.2.2))), (a_elseSeen, .inl (cZ, 4, .inl (nF Es)))]) (va_runV (As := []) (rest := []) ⟨hx, hb, hml, hown, hts⟩ (c_Stm_addEnd l dC dI cI cZ a_stm a_sort a_subject a_source a_elseSeen tt s.heap.size ms ow So Su Sr  (by omega) (by omega) b_So b_Su b_Sr) (cwV 0 hts (gd_V in_tl (mw 343 rfl rfl) (mw 344 rfl rfl) (mw 345 rfl rfl) (mw 43 rfl rfl) (mw 346 rfl rfl)) rfl rfl rfl (by decide +kernel) ⟨Nat.le_of_ble_eq_true rfl, Nat.le_of_ble_eq_true rfl⟩) (k_preV hK hP hD hS hA hE [4, 5, 6, 7] (by decide) rfl 2 4 rfl rfl) rfl rfl hl.1 rfl (lv_room (Nat.le_of_ble_eq_true rfl)) d_Desk_state_116 ⟨Nat.zero_le _, Nat.zero_le _⟩) hP hD hS hA [4, 5, 6, 7] [0, 1, 2, 3, 8] [0, 1, 2, 3, 5, 6, 7, 8, 4] rfl rfl (by decide) (by decide) (by decide) (fun _ => rfl) (fun r_6 u H locs hw hP hD hS => ?_)
          obtain ⟨msv_1, owv_2, Sov_3, Suv_4, Srv_5⟩ := u
          obtain ⟨b_msv_1, b_owv_2, b_Sov_3, b_Suv_4, b_Srv_5, ha_116⟩ : (msv_1 ≤ 20) ∧ (owv_2 ≤ 4) ∧ (∀ j, Sov_3 j < 4) ∧ (∀ j, Suv_4 j < 14) ∧ (∀ j, Srv_5 j < 14) ∧ ((ow = 0 ∧ (-2) = r_6 ∧ ms = msv_1 ∧ So = Sov_3 ∧ Su = Suv_4 ∧ Sr = Srv_5 ∧ ow = owv_2) ∨ (0 < ow ∧ ((ms = 20 ∧ (-3) = r_6 ∧ ms = msv_1 ∧ So = Sov_3 ∧ Su = Suv_4 ∧ Sr = Srv_5 ∧ ow = owv_2) ∨ (ms < 20 ∧ nI (ms + 1) = r_6 ∧ ms + 1 = msv_1 ∧ upN So ms 3 = Sov_3 ∧ upN Su ms 0 = Suv_4 ∧ upN Sr ms 0 = Srv_5 ∧ ow - 1 = owv_2)))) := hw
          have hP : va_P (dC, dI) classes [(a_desk, .inr (5, [.ref a_sig, .ref a_stm, .ref a_chk, .ref a_net, .ref a_mkr, .ref a_nwords, .int (nI rd), .int fw, .int (nI ck)])), (a_sig, .inr (1, [.ref a_kind, .ref a_width, .ref a_rword, .ref a_sop, .ref a_sa, .ref a_sb, .ref a_sc, .int (nI n)])), (a_kind, .inl (cI, 14, .inl (nF Kd))), (a_width, .inl (cI, 14, .inl (nF Wd))), (a_stm, .inr (2, [.ref a_sort, .ref a_subject, .ref a_source, .int (nI msv_1), .int (nI owv_2), .ref a_elseSeen])), (a_sort, .inl (cI, 20, .inl (nF Sov_3))), (a_subject, .inl (cI, 20, .inl (nF Suv_4))), (a_source, .inl (cI, 20, .inl (nF Srv_5))), (a_elseSeen, .inl (cZ, 4, .inl (nF Es)))] H := hP
          have hD : va_D A [(a_desk, .inr (5, [.ref a_sig, .ref a_stm, .ref a_chk, .ref a_net, .ref a_mkr, .ref a_nwords, .int (nI rd), .int fw, .int (nI ck)])), (a_sig, .inr (1, [.ref a_kind, .ref a_width, .ref a_rword, .ref a_sop, .ref a_sa, .ref a_sb, .ref a_sc, .int (nI n)])), (a_kind, .inl (cI, 14, .inl (nF Kd))), (a_width, .inl (cI, 14, .inl (nF Wd))), (a_stm, .inr (2, [.ref a_sort, .ref a_subject, .ref a_source, .int (nI msv_1), .int (nI owv_2), .ref a_elseSeen])), (a_sort, .inl (cI, 20, .inl (nF Sov_3))), (a_subject, .inl (cI, 20, .inl (nF Suv_4))), (a_source, .inl (cI, 20, .inl (nF Srv_5))), (a_elseSeen, .inl (cZ, 4, .inl (nF Es)))] := hD
          rcases ha_116 with ⟨h20, hr3, q1, q2, q3, q4, q5⟩ | ⟨h4, ⟨h20, hr3, q1, q2, q3, q4, q5⟩ | ⟨h20, hr3, q1, q2, q3, q4, q5⟩⟩ <;> subst hr3 <;> subst q1 <;> subst q2 <;> subst q3 <;> subst q4 <;> subst q5
          · skip
            have hP : va_P (dC, dI) classes [(a_desk, .inr (5, [.ref a_sig, .ref a_stm, .ref a_chk, .ref a_net, .ref a_mkr, .ref a_nwords, .int (nI rd), .int fw, .int (nI ck)])), (a_sig, .inr (1, [.ref a_kind, .ref a_width, .ref a_rword, .ref a_sop, .ref a_sa, .ref a_sb, .ref a_sc, .int (nI n)])), (a_kind, .inl (cI, 14, .inl (nF Kd))), (a_width, .inl (cI, 14, .inl (nF Wd))), (a_stm, .inr (2, [.ref a_sort, .ref a_subject, .ref a_source, .int (nI ms), .int (nI ow), .ref a_elseSeen])), (a_sort, .inl (cI, 20, .inl (nF So))), (a_subject, .inl (cI, 20, .inl (nF Su))), (a_source, .inl (cI, 20, .inl (nF Sr))), (a_elseSeen, .inl (cZ, 4, .inl (nF Es)))] H := hP
            have hD : va_D A [(a_desk, .inr (5, [.ref a_sig, .ref a_stm, .ref a_chk, .ref a_net, .ref a_mkr, .ref a_nwords, .int (nI rd), .int fw, .int (nI ck)])), (a_sig, .inr (1, [.ref a_kind, .ref a_width, .ref a_rword, .ref a_sop, .ref a_sa, .ref a_sb, .ref a_sc, .int (nI n)])), (a_kind, .inl (cI, 14, .inl (nF Kd))), (a_width, .inl (cI, 14, .inl (nF Wd))), (a_stm, .inr (2, [.ref a_sort, .ref a_subject, .ref a_source, .int (nI ms), .int (nI ow), .ref a_elseSeen])), (a_sort, .inl (cI, 20, .inl (nF So))), (a_subject, .inl (cI, 20, .inl (nF Su))), (a_source, .inl (cI, 20, .inl (nF Sr))), (a_elseSeen, .inl (cZ, 4, .inl (nF Es)))] := hD
            refine lv_istore (lv' := [(4, .int (-2 : Int32)), (0, .ref a_desk), (1, .int q0), (2, .int x), (3, .int y)]) hx hb d_Desk_state_119 hl (by decide) rfl (fun ls hl => ?_)
            refine lv_goto (tgt := 127) hx hb d_Desk_state_121 (by decide) ?_
            refine lv_iload hx hb d_Desk_state_127 (lv_at hl 0 rfl) ?_
            refine lv_if_lt (tgt := 137) hx hb d_Desk_state_129 (by decide) (fun c129 => ?_) (fun c129 => ?_)
            · skip
              have c129 : (-2 : Int32).toInt < 0 := (ri_lt rfl rfl).mp c129
              refine lv_iload hx hb d_Desk_state_137 (lv_at hl 0 rfl) ?_
              exact W.iret (v := (-2 : Int32)) hx hb hr (fun t ht hW => ⟨⟨(-2 : Int32), (ms, So, Su, Sr, ow, Es, rd), rfl, ⟨(show ms ≤ 20 from by omega), b_Sov_3, b_Suv_4, b_Srv_5, (show ow ≤ 4 from by omega), b_Es, (show rd ≤ 1 from by omega), (show (¬ stOK q0 x y n Kd Wd ∧ (-1) = (-2 : Int32) ∧ ms = ms ∧ So = So ∧ Su = Su ∧ Sr = Sr ∧ ow = ow ∧ Es = Es ∧ rd = rd) ∨ (stOK q0 x y n Kd Wd ∧ stN q0 ow Es ∧ (-2) = (-2 : Int32) ∧ ms = ms ∧ So = So ∧ Su = Su ∧ Sr = Sr ∧ ow = ow ∧ Es = Es ∧ rd = rd) ∨ (stOK q0 x y n Kd Wd ∧ ¬ stN q0 ow Es ∧ stF q0 ms ow ∧ (-3) = (-2 : Int32) ∧ ms = ms ∧ So = So ∧ Su = Su ∧ Sr = Sr ∧ ow = ow ∧ Es = Es ∧ rd = rd) ∨ (stOK q0 x y n Kd Wd ∧ ¬ stN q0 ow Es ∧ ¬ stF q0 ms ow ∧ nI (ms + 1) = (-2 : Int32) ∧ ms + 1 = ms ∧ upN So ms (ix q0) = So ∧ upN Su ms (if q0.toInt ≤ 1 then ix x else 0) = Su ∧ upN Sr ms (if q0.toInt = 0 then ix y else 0) = Sr ∧ (if q0.toInt = 1 then ow + 1 else if q0.toInt = 3 then ow - 1 else ow) = ow ∧ (if q0.toInt = 1 then upN Es ow 0 else if q0.toInt = 2 then upN Es (ow - 1) 1 else Es) = Es ∧ 0 = rd) from Or.inr (Or.inl ⟨hok, Or.inr ⟨c109, h20⟩, rfl, rfl, rfl, rfl, rfl, rfl, rfl, rfl⟩))⟩, by rw [ht]; exact hP, va_K.moved hW.alike hK, hD⟩, hS.F ht⟩) hS.2.2 d_Desk_state_139
            · skip
              have c129 : ¬ ((-2 : Int32).toInt < 0) := fun h => c129 ((ri_lt rfl rfl).mpr h)
              exact absurd c129 (by decide)
          · skip
            have hP : va_P (dC, dI) classes [(a_desk, .inr (5, [.ref a_sig, .ref a_stm, .ref a_chk, .ref a_net, .ref a_mkr, .ref a_nwords, .int (nI rd), .int fw, .int (nI ck)])), (a_sig, .inr (1, [.ref a_kind, .ref a_width, .ref a_rword, .ref a_sop, .ref a_sa, .ref a_sb, .ref a_sc, .int (nI n)])), (a_kind, .inl (cI, 14, .inl (nF Kd))), (a_width, .inl (cI, 14, .inl (nF Wd))), (a_stm, .inr (2, [.ref a_sort, .ref a_subject, .ref a_source, .int (nI ms), .int (nI ow), .ref a_elseSeen])), (a_sort, .inl (cI, 20, .inl (nF So))), (a_subject, .inl (cI, 20, .inl (nF Su))), (a_source, .inl (cI, 20, .inl (nF Sr))), (a_elseSeen, .inl (cZ, 4, .inl (nF Es)))] H := hP
            have hD : va_D A [(a_desk, .inr (5, [.ref a_sig, .ref a_stm, .ref a_chk, .ref a_net, .ref a_mkr, .ref a_nwords, .int (nI rd), .int fw, .int (nI ck)])), (a_sig, .inr (1, [.ref a_kind, .ref a_width, .ref a_rword, .ref a_sop, .ref a_sa, .ref a_sb, .ref a_sc, .int (nI n)])), (a_kind, .inl (cI, 14, .inl (nF Kd))), (a_width, .inl (cI, 14, .inl (nF Wd))), (a_stm, .inr (2, [.ref a_sort, .ref a_subject, .ref a_source, .int (nI ms), .int (nI ow), .ref a_elseSeen])), (a_sort, .inl (cI, 20, .inl (nF So))), (a_subject, .inl (cI, 20, .inl (nF Su))), (a_source, .inl (cI, 20, .inl (nF Sr))), (a_elseSeen, .inl (cZ, 4, .inl (nF Es)))] := hD
            refine lv_istore (lv' := [(4, .int (-3 : Int32)), (0, .ref a_desk), (1, .int q0), (2, .int x), (3, .int y)]) hx hb d_Desk_state_119 hl (by decide) rfl (fun ls hl => ?_)
            refine lv_goto (tgt := 127) hx hb d_Desk_state_121 (by decide) ?_
            refine lv_iload hx hb d_Desk_state_127 (lv_at hl 0 rfl) ?_
            refine lv_if_lt (tgt := 137) hx hb d_Desk_state_129 (by decide) (fun c129 => ?_) (fun c129 => ?_)
            · skip
              have c129 : (-3 : Int32).toInt < 0 := (ri_lt rfl rfl).mp c129
              refine lv_iload hx hb d_Desk_state_137 (lv_at hl 0 rfl) ?_
              exact W.iret (v := (-3 : Int32)) hx hb hr (fun t ht hW => ⟨⟨(-3 : Int32), (ms, So, Su, Sr, ow, Es, rd), rfl, ⟨(show ms ≤ 20 from by omega), b_Sov_3, b_Suv_4, b_Srv_5, (show ow ≤ 4 from by omega), b_Es, (show rd ≤ 1 from by omega), (show (¬ stOK q0 x y n Kd Wd ∧ (-1) = (-3 : Int32) ∧ ms = ms ∧ So = So ∧ Su = Su ∧ Sr = Sr ∧ ow = ow ∧ Es = Es ∧ rd = rd) ∨ (stOK q0 x y n Kd Wd ∧ stN q0 ow Es ∧ (-2) = (-3 : Int32) ∧ ms = ms ∧ So = So ∧ Su = Su ∧ Sr = Sr ∧ ow = ow ∧ Es = Es ∧ rd = rd) ∨ (stOK q0 x y n Kd Wd ∧ ¬ stN q0 ow Es ∧ stF q0 ms ow ∧ (-3) = (-3 : Int32) ∧ ms = ms ∧ So = So ∧ Su = Su ∧ Sr = Sr ∧ ow = ow ∧ Es = Es ∧ rd = rd) ∨ (stOK q0 x y n Kd Wd ∧ ¬ stN q0 ow Es ∧ ¬ stF q0 ms ow ∧ nI (ms + 1) = (-3 : Int32) ∧ ms + 1 = ms ∧ upN So ms (ix q0) = So ∧ upN Su ms (if q0.toInt ≤ 1 then ix x else 0) = Su ∧ upN Sr ms (if q0.toInt = 0 then ix y else 0) = Sr ∧ (if q0.toInt = 1 then ow + 1 else if q0.toInt = 3 then ow - 1 else ow) = ow ∧ (if q0.toInt = 1 then upN Es ow 0 else if q0.toInt = 2 then upN Es (ow - 1) 1 else Es) = Es ∧ 0 = rd) from Or.inr (Or.inr (Or.inl ⟨hok, (by unfold stN; omega), Or.inl h20, rfl, rfl, rfl, rfl, rfl, rfl, rfl, rfl⟩)))⟩, by rw [ht]; exact hP, va_K.moved hW.alike hK, hD⟩, hS.F ht⟩) hS.2.2 d_Desk_state_139
            · skip
              have c129 : ¬ ((-3 : Int32).toInt < 0) := fun h => c129 ((ri_lt rfl rfl).mpr h)
              exact absurd c129 (by decide)
          · skip
            have hP : va_P (dC, dI) classes [(a_desk, .inr (5, [.ref a_sig, .ref a_stm, .ref a_chk, .ref a_net, .ref a_mkr, .ref a_nwords, .int (nI rd), .int fw, .int (nI ck)])), (a_sig, .inr (1, [.ref a_kind, .ref a_width, .ref a_rword, .ref a_sop, .ref a_sa, .ref a_sb, .ref a_sc, .int (nI n)])), (a_kind, .inl (cI, 14, .inl (nF Kd))), (a_width, .inl (cI, 14, .inl (nF Wd))), (a_stm, .inr (2, [.ref a_sort, .ref a_subject, .ref a_source, .int (nI (ms + 1)), .int (nI (ow - 1)), .ref a_elseSeen])), (a_sort, .inl (cI, 20, .inl (nF (upN So ms 3)))), (a_subject, .inl (cI, 20, .inl (nF (upN Su ms 0)))), (a_source, .inl (cI, 20, .inl (nF (upN Sr ms 0)))), (a_elseSeen, .inl (cZ, 4, .inl (nF Es)))] H := hP
            have hD : va_D A [(a_desk, .inr (5, [.ref a_sig, .ref a_stm, .ref a_chk, .ref a_net, .ref a_mkr, .ref a_nwords, .int (nI rd), .int fw, .int (nI ck)])), (a_sig, .inr (1, [.ref a_kind, .ref a_width, .ref a_rword, .ref a_sop, .ref a_sa, .ref a_sb, .ref a_sc, .int (nI n)])), (a_kind, .inl (cI, 14, .inl (nF Kd))), (a_width, .inl (cI, 14, .inl (nF Wd))), (a_stm, .inr (2, [.ref a_sort, .ref a_subject, .ref a_source, .int (nI (ms + 1)), .int (nI (ow - 1)), .ref a_elseSeen])), (a_sort, .inl (cI, 20, .inl (nF (upN So ms 3)))), (a_subject, .inl (cI, 20, .inl (nF (upN Su ms 0)))), (a_source, .inl (cI, 20, .inl (nF (upN Sr ms 0)))), (a_elseSeen, .inl (cZ, 4, .inl (nF Es)))] := hD
            refine lv_istore (lv' := [(4, .int (nI (ms + 1))), (0, .ref a_desk), (1, .int q0), (2, .int x), (3, .int y)]) hx hb d_Desk_state_119 hl (by decide) rfl (fun ls hl => ?_)
            refine lv_goto (tgt := 127) hx hb d_Desk_state_121 (by decide) ?_
            refine lv_iload hx hb d_Desk_state_127 (lv_at hl 0 rfl) ?_
            refine lv_if_lt (tgt := 137) hx hb d_Desk_state_129 (by decide) (fun c129 => ?_) (fun c129 => ?_)
            · skip
              have c129 : False := (nI_lt0 (by omega)).mp c129
              exact absurd c129 (fun h => h)
            · skip
              have c129 : ¬ (False) := fun h => c129 ((nI_lt0 (by omega)).mpr h)
              refine lv_aload_n hx hb d_Desk_state_132 rfl (lv_at hl 1 rfl) ?_
              refine lv_iconst (v := nI 0) hx hb d_Desk_state_133 rfl ?_
              refine va_put (D := (dC, dI)) (ci := 5) (v := .int (nI 0)) (ty := .boolean) (C := R_Desk) (T := F_Desk) (N := 9) hx hb hts (wi i_Desk) t_Desk t_Desk_ok n_Desk hown hK hP hD hS 0 rfl rfl 6 (by decide) (hts _ (mt 248 rfl rfl)) (fun _ h9 => h9) rfl (by decide +kernel) (k_narZ (by omega)) (k_fitZ (by omega)) (Nat.le_of_ble_eq_true rfl) d_Desk_state_134 (fun H locs hP hD hS => ?_)
              have hP : va_P (dC, dI) classes [(a_desk, .inr (5, [.ref a_sig, .ref a_stm, .ref a_chk, .ref a_net, .ref a_mkr, .ref a_nwords, .int (nI 0), .int fw, .int (nI ck)])), (a_sig, .inr (1, [.ref a_kind, .ref a_width, .ref a_rword, .ref a_sop, .ref a_sa, .ref a_sb, .ref a_sc, .int (nI n)])), (a_kind, .inl (cI, 14, .inl (nF Kd))), (a_width, .inl (cI, 14, .inl (nF Wd))), (a_stm, .inr (2, [.ref a_sort, .ref a_subject, .ref a_source, .int (nI (ms + 1)), .int (nI (ow - 1)), .ref a_elseSeen])), (a_sort, .inl (cI, 20, .inl (nF (upN So ms 3)))), (a_subject, .inl (cI, 20, .inl (nF (upN Su ms 0)))), (a_source, .inl (cI, 20, .inl (nF (upN Sr ms 0)))), (a_elseSeen, .inl (cZ, 4, .inl (nF Es)))] H := hP
              have hD : va_D A [(a_desk, .inr (5, [.ref a_sig, .ref a_stm, .ref a_chk, .ref a_net, .ref a_mkr, .ref a_nwords, .int (nI 0), .int fw, .int (nI ck)])), (a_sig, .inr (1, [.ref a_kind, .ref a_width, .ref a_rword, .ref a_sop, .ref a_sa, .ref a_sb, .ref a_sc, .int (nI n)])), (a_kind, .inl (cI, 14, .inl (nF Kd))), (a_width, .inl (cI, 14, .inl (nF Wd))), (a_stm, .inr (2, [.ref a_sort, .ref a_subject, .ref a_source, .int (nI (ms + 1)), .int (nI (ow - 1)), .ref a_elseSeen])), (a_sort, .inl (cI, 20, .inl (nF (upN So ms 3)))), (a_subject, .inl (cI, 20, .inl (nF (upN Su ms 0)))), (a_source, .inl (cI, 20, .inl (nF (upN Sr ms 0)))), (a_elseSeen, .inl (cZ, 4, .inl (nF Es)))] := hD
              refine lv_iload hx hb d_Desk_state_137 (lv_at hl 0 rfl) ?_
              exact W.iret (v := nI (ms + 1)) hx hb hr (fun t ht hW => ⟨⟨nI (ms + 1), (ms + 1, upN So ms 3, upN Su ms 0, upN Sr ms 0, ow - 1, Es, 0), rfl, ⟨(show (ms + 1) ≤ 20 from by omega), b_Sov_3, b_Suv_4, b_Srv_5, (show (ow - 1) ≤ 4 from by omega), b_Es, (show 0 ≤ 1 from by omega), (show (¬ stOK q0 x y n Kd Wd ∧ (-1) = (nI (ms + 1)) ∧ ms = (ms + 1) ∧ So = (upN So ms 3) ∧ Su = (upN Su ms 0) ∧ Sr = (upN Sr ms 0) ∧ ow = (ow - 1) ∧ Es = Es ∧ rd = 0) ∨ (stOK q0 x y n Kd Wd ∧ stN q0 ow Es ∧ (-2) = (nI (ms + 1)) ∧ ms = (ms + 1) ∧ So = (upN So ms 3) ∧ Su = (upN Su ms 0) ∧ Sr = (upN Sr ms 0) ∧ ow = (ow - 1) ∧ Es = Es ∧ rd = 0) ∨ (stOK q0 x y n Kd Wd ∧ ¬ stN q0 ow Es ∧ stF q0 ms ow ∧ (-3) = (nI (ms + 1)) ∧ ms = (ms + 1) ∧ So = (upN So ms 3) ∧ Su = (upN Su ms 0) ∧ Sr = (upN Sr ms 0) ∧ ow = (ow - 1) ∧ Es = Es ∧ rd = 0) ∨ (stOK q0 x y n Kd Wd ∧ ¬ stN q0 ow Es ∧ ¬ stF q0 ms ow ∧ nI (ms + 1) = (nI (ms + 1)) ∧ ms + 1 = (ms + 1) ∧ upN So ms (ix q0) = (upN So ms 3) ∧ upN Su ms (if q0.toInt ≤ 1 then ix x else 0) = (upN Su ms 0) ∧ upN Sr ms (if q0.toInt = 0 then ix y else 0) = (upN Sr ms 0) ∧ (if q0.toInt = 1 then ow + 1 else if q0.toInt = 3 then ow - 1 else ow) = (ow - 1) ∧ (if q0.toInt = 1 then upN Es ow 0 else if q0.toInt = 2 then upN Es (ow - 1) 1 else Es) = Es ∧ 0 = 0) from Or.inr (Or.inr (Or.inr ⟨hok, (by unfold stN; omega), by unfold stF; omega, rfl, rfl, by rw [hqi], by rw [if_neg (by omega)], by rw [if_neg (by omega)], by rw [if_neg (by omega), if_pos (by omega)], by rw [if_neg (by omega), if_neg (by omega)], rfl⟩)))⟩, by rw [ht]; exact hP, va_K.moved hW.alike hK, hD⟩, hS.F ht⟩) hS.2.2 d_Desk_state_139
      · skip
        have c92 : q0.toInt = ((2 : Nat) : Int) := (ri_eq rfl (nI_toInt (show _ < 2 ^ 31 by omega))).mp c92
        have hok : stOK q0 x y n Kd Wd := Or.inr (Or.inr (Or.inl c92))
        have hqi : ix q0 = 2 := ix_ti c92
        refine lv_aload_n hx hb d_Desk_state_95 rfl (lv_at hl 0 rfl) ?_
        refine va_get (D := (dC, dI)) (ci := 5) (v := .ref a_stm) (C := R_Desk) (T := F_Desk) (N := 9) hx hb hts (wi i_Desk) hown hK hP 0 rfl rfl 1 (by decide) (hts _ (mt 243 rfl rfl)) (fun _ h9 => h9) rfl d_Desk_state_96 ?_
        refine k_i (wr := [(a_desk, .inr (5, [.ref a_sig, .ref a_stm, .ref a_chk, .ref a_net, .ref a_mkr, .ref a_nwords, .int (nI rd), .int fw, .int (nI ck)])), (a_sig, .inr (1, [.ref a_kind, .ref a_width, .ref a_rword, .ref a_sop, .ref a_sa, .ref a_sb, .ref a_sc, .int (nI n)])), (a_kind, .inl (cI, 14, .inl (nF Kd))), (a_width, .inl (cI, 14, .inl (nF Wd)))]) (w2 := fun (u : Nat × (Nat → Nat) × (Nat → Nat) × (Nat → Nat) × (Nat → Nat)) => [(a_desk, .inr (5, [.ref a_sig, .ref a_stm, .ref a_chk, .ref a_net, .ref a_mkr, .ref a_nwords, .int (nI rd), .int fw, .int (nI ck)])), (a_sig, .inr (1, [.ref a_kind, .ref a_width, .ref a_rword, .ref a_sop, .ref a_sa, .ref a_sb, .ref a_sc, .int (nI n)])), (a_kind, .inl (cI, 14, .inl (nF Kd))), (a_width, .inl (cI, 14, .inl (nF Wd))), (a_stm, .inr (2, [.ref a_sort, .ref a_subject, .ref a_source, .int (nI u.1), .int (nI ow), .ref a_elseSeen])), (a_sort, .inl (cI, 20, .inl (nF u.2.1))), (a_subject, .inl (cI, 20, .inl (nF u.2.2.1))), (a_source, .inl (cI, 20, .inl (nF u.2.2.2.1))), (a_elseSeen, .inl (cZ, 4, .inl (nF u.2.2.2.2)))]) (va_runV (As := []) (rest := []) ⟨hx, hb, hml, hown, hts⟩ (c_Stm_addElse l dC dI cI cZ a_stm a_sort a_subject a_source a_elseSeen tt s.heap.size ms ow So Su Sr Es  (by omega) (by omega) b_So b_Su b_Sr b_Es) (cwV 0 hts (gd_V in_tl (mw 339 rfl rfl) (mw 340 rfl rfl) (mw 341 rfl rfl) (mw 43 rfl rfl) (mw 342 rfl rfl)) rfl rfl rfl (by decide +kernel) ⟨Nat.le_of_ble_eq_true rfl, Nat.le_of_ble_eq_true rfl⟩) (k_preV hK hP hD hS hA hE [4, 5, 6, 7, 8] (by decide) rfl 2 4 rfl rfl) rfl rfl hl.1 rfl (lv_room (Nat.le_of_ble_eq_true rfl)) d_Desk_state_99 ⟨Nat.zero_le _, Nat.zero_le _⟩) hP hD hS hA [4, 5, 6, 7, 8] [0, 1, 2, 3] [0, 1, 2, 3, 4, 5, 6, 7, 8] rfl rfl (by decide) (by decide) (by decide) (fun _ => rfl) (fun r_12 u H locs hw hP hD hS => ?_)
        obtain ⟨msv_7, Sov_8, Suv_9, Srv_10, Esv_11⟩ := u
        obtain ⟨b_msv_7, b_Sov_8, b_Suv_9, b_Srv_10, b_Esv_11, ha_99⟩ : (msv_7 ≤ 20) ∧ (∀ j, Sov_8 j < 4) ∧ (∀ j, Suv_9 j < 14) ∧ (∀ j, Srv_10 j < 14) ∧ (∀ j, Esv_11 j < 2) ∧ (((ow = 0 ∨ ¬ Es (ow - 1) = 0) ∧ (-2) = r_12 ∧ ms = msv_7 ∧ So = Sov_8 ∧ Su = Suv_9 ∧ Sr = Srv_10 ∧ Es = Esv_11) ∨ (0 < ow ∧ Es (ow - 1) = 0 ∧ ((ms = 20 ∧ (-3) = r_12 ∧ ms = msv_7 ∧ So = Sov_8 ∧ Su = Suv_9 ∧ Sr = Srv_10 ∧ Es = Esv_11) ∨ (ms < 20 ∧ nI (ms + 1) = r_12 ∧ ms + 1 = msv_7 ∧ upN So ms 2 = Sov_8 ∧ upN Su ms 0 = Suv_9 ∧ upN Sr ms 0 = Srv_10 ∧ upN Es (ow - 1) 1 = Esv_11)))) := hw
        have hP : va_P (dC, dI) classes [(a_desk, .inr (5, [.ref a_sig, .ref a_stm, .ref a_chk, .ref a_net, .ref a_mkr, .ref a_nwords, .int (nI rd), .int fw, .int (nI ck)])), (a_sig, .inr (1, [.ref a_kind, .ref a_width, .ref a_rword, .ref a_sop, .ref a_sa, .ref a_sb, .ref a_sc, .int (nI n)])), (a_kind, .inl (cI, 14, .inl (nF Kd))), (a_width, .inl (cI, 14, .inl (nF Wd))), (a_stm, .inr (2, [.ref a_sort, .ref a_subject, .ref a_source, .int (nI msv_7), .int (nI ow), .ref a_elseSeen])), (a_sort, .inl (cI, 20, .inl (nF Sov_8))), (a_subject, .inl (cI, 20, .inl (nF Suv_9))), (a_source, .inl (cI, 20, .inl (nF Srv_10))), (a_elseSeen, .inl (cZ, 4, .inl (nF Esv_11)))] H := hP
        have hD : va_D A [(a_desk, .inr (5, [.ref a_sig, .ref a_stm, .ref a_chk, .ref a_net, .ref a_mkr, .ref a_nwords, .int (nI rd), .int fw, .int (nI ck)])), (a_sig, .inr (1, [.ref a_kind, .ref a_width, .ref a_rword, .ref a_sop, .ref a_sa, .ref a_sb, .ref a_sc, .int (nI n)])), (a_kind, .inl (cI, 14, .inl (nF Kd))), (a_width, .inl (cI, 14, .inl (nF Wd))), (a_stm, .inr (2, [.ref a_sort, .ref a_subject, .ref a_source, .int (nI msv_7), .int (nI ow), .ref a_elseSeen])), (a_sort, .inl (cI, 20, .inl (nF Sov_8))), (a_subject, .inl (cI, 20, .inl (nF Suv_9))), (a_source, .inl (cI, 20, .inl (nF Srv_10))), (a_elseSeen, .inl (cZ, 4, .inl (nF Esv_11)))] := hD
        rcases ha_99 with ⟨h20, hr3, q1, q2, q3, q4, q5⟩ | ⟨h4, h5, ⟨h20, hr3, q1, q2, q3, q4, q5⟩ | ⟨h20, hr3, q1, q2, q3, q4, q5⟩⟩ <;> subst hr3 <;> subst q1 <;> subst q2 <;> subst q3 <;> subst q4 <;> subst q5
        · skip
          have hP : va_P (dC, dI) classes [(a_desk, .inr (5, [.ref a_sig, .ref a_stm, .ref a_chk, .ref a_net, .ref a_mkr, .ref a_nwords, .int (nI rd), .int fw, .int (nI ck)])), (a_sig, .inr (1, [.ref a_kind, .ref a_width, .ref a_rword, .ref a_sop, .ref a_sa, .ref a_sb, .ref a_sc, .int (nI n)])), (a_kind, .inl (cI, 14, .inl (nF Kd))), (a_width, .inl (cI, 14, .inl (nF Wd))), (a_stm, .inr (2, [.ref a_sort, .ref a_subject, .ref a_source, .int (nI ms), .int (nI ow), .ref a_elseSeen])), (a_sort, .inl (cI, 20, .inl (nF So))), (a_subject, .inl (cI, 20, .inl (nF Su))), (a_source, .inl (cI, 20, .inl (nF Sr))), (a_elseSeen, .inl (cZ, 4, .inl (nF Es)))] H := hP
          have hD : va_D A [(a_desk, .inr (5, [.ref a_sig, .ref a_stm, .ref a_chk, .ref a_net, .ref a_mkr, .ref a_nwords, .int (nI rd), .int fw, .int (nI ck)])), (a_sig, .inr (1, [.ref a_kind, .ref a_width, .ref a_rword, .ref a_sop, .ref a_sa, .ref a_sb, .ref a_sc, .int (nI n)])), (a_kind, .inl (cI, 14, .inl (nF Kd))), (a_width, .inl (cI, 14, .inl (nF Wd))), (a_stm, .inr (2, [.ref a_sort, .ref a_subject, .ref a_source, .int (nI ms), .int (nI ow), .ref a_elseSeen])), (a_sort, .inl (cI, 20, .inl (nF So))), (a_subject, .inl (cI, 20, .inl (nF Su))), (a_source, .inl (cI, 20, .inl (nF Sr))), (a_elseSeen, .inl (cZ, 4, .inl (nF Es)))] := hD
          refine lv_istore (lv' := [(4, .int (-2 : Int32)), (0, .ref a_desk), (1, .int q0), (2, .int x), (3, .int y)]) hx hb d_Desk_state_102 hl (by decide) rfl (fun ls hl => ?_)
          refine lv_goto (tgt := 127) hx hb d_Desk_state_104 (by decide) ?_
          refine lv_iload hx hb d_Desk_state_127 (lv_at hl 0 rfl) ?_
          refine lv_if_lt (tgt := 137) hx hb d_Desk_state_129 (by decide) (fun c129 => ?_) (fun c129 => ?_)
          · skip
            have c129 : (-2 : Int32).toInt < 0 := (ri_lt rfl rfl).mp c129
            refine lv_iload hx hb d_Desk_state_137 (lv_at hl 0 rfl) ?_
            exact W.iret (v := (-2 : Int32)) hx hb hr (fun t ht hW => ⟨⟨(-2 : Int32), (ms, So, Su, Sr, ow, Es, rd), rfl, ⟨(show ms ≤ 20 from by omega), b_Sov_8, b_Suv_9, b_Srv_10, (show ow ≤ 4 from by omega), b_Esv_11, (show rd ≤ 1 from by omega), (show (¬ stOK q0 x y n Kd Wd ∧ (-1) = (-2 : Int32) ∧ ms = ms ∧ So = So ∧ Su = Su ∧ Sr = Sr ∧ ow = ow ∧ Es = Es ∧ rd = rd) ∨ (stOK q0 x y n Kd Wd ∧ stN q0 ow Es ∧ (-2) = (-2 : Int32) ∧ ms = ms ∧ So = So ∧ Su = Su ∧ Sr = Sr ∧ ow = ow ∧ Es = Es ∧ rd = rd) ∨ (stOK q0 x y n Kd Wd ∧ ¬ stN q0 ow Es ∧ stF q0 ms ow ∧ (-3) = (-2 : Int32) ∧ ms = ms ∧ So = So ∧ Su = Su ∧ Sr = Sr ∧ ow = ow ∧ Es = Es ∧ rd = rd) ∨ (stOK q0 x y n Kd Wd ∧ ¬ stN q0 ow Es ∧ ¬ stF q0 ms ow ∧ nI (ms + 1) = (-2 : Int32) ∧ ms + 1 = ms ∧ upN So ms (ix q0) = So ∧ upN Su ms (if q0.toInt ≤ 1 then ix x else 0) = Su ∧ upN Sr ms (if q0.toInt = 0 then ix y else 0) = Sr ∧ (if q0.toInt = 1 then ow + 1 else if q0.toInt = 3 then ow - 1 else ow) = ow ∧ (if q0.toInt = 1 then upN Es ow 0 else if q0.toInt = 2 then upN Es (ow - 1) 1 else Es) = Es ∧ 0 = rd) from Or.inr (Or.inl ⟨hok, Or.inl ⟨c92, h20⟩, rfl, rfl, rfl, rfl, rfl, rfl, rfl, rfl⟩))⟩, by rw [ht]; exact hP, va_K.moved hW.alike hK, hD⟩, hS.F ht⟩) hS.2.2 d_Desk_state_139
          · skip
            have c129 : ¬ ((-2 : Int32).toInt < 0) := fun h => c129 ((ri_lt rfl rfl).mpr h)
            exact absurd c129 (by decide)
        · skip
          have hP : va_P (dC, dI) classes [(a_desk, .inr (5, [.ref a_sig, .ref a_stm, .ref a_chk, .ref a_net, .ref a_mkr, .ref a_nwords, .int (nI rd), .int fw, .int (nI ck)])), (a_sig, .inr (1, [.ref a_kind, .ref a_width, .ref a_rword, .ref a_sop, .ref a_sa, .ref a_sb, .ref a_sc, .int (nI n)])), (a_kind, .inl (cI, 14, .inl (nF Kd))), (a_width, .inl (cI, 14, .inl (nF Wd))), (a_stm, .inr (2, [.ref a_sort, .ref a_subject, .ref a_source, .int (nI ms), .int (nI ow), .ref a_elseSeen])), (a_sort, .inl (cI, 20, .inl (nF So))), (a_subject, .inl (cI, 20, .inl (nF Su))), (a_source, .inl (cI, 20, .inl (nF Sr))), (a_elseSeen, .inl (cZ, 4, .inl (nF Es)))] H := hP
          have hD : va_D A [(a_desk, .inr (5, [.ref a_sig, .ref a_stm, .ref a_chk, .ref a_net, .ref a_mkr, .ref a_nwords, .int (nI rd), .int fw, .int (nI ck)])), (a_sig, .inr (1, [.ref a_kind, .ref a_width, .ref a_rword, .ref a_sop, .ref a_sa, .ref a_sb, .ref a_sc, .int (nI n)])), (a_kind, .inl (cI, 14, .inl (nF Kd))), (a_width, .inl (cI, 14, .inl (nF Wd))), (a_stm, .inr (2, [.ref a_sort, .ref a_subject, .ref a_source, .int (nI ms), .int (nI ow), .ref a_elseSeen])), (a_sort, .inl (cI, 20, .inl (nF So))), (a_subject, .inl (cI, 20, .inl (nF Su))), (a_source, .inl (cI, 20, .inl (nF Sr))), (a_elseSeen, .inl (cZ, 4, .inl (nF Es)))] := hD
          refine lv_istore (lv' := [(4, .int (-3 : Int32)), (0, .ref a_desk), (1, .int q0), (2, .int x), (3, .int y)]) hx hb d_Desk_state_102 hl (by decide) rfl (fun ls hl => ?_)
          refine lv_goto (tgt := 127) hx hb d_Desk_state_104 (by decide) ?_
          refine lv_iload hx hb d_Desk_state_127 (lv_at hl 0 rfl) ?_
          refine lv_if_lt (tgt := 137) hx hb d_Desk_state_129 (by decide) (fun c129 => ?_) (fun c129 => ?_)
          · skip
            have c129 : (-3 : Int32).toInt < 0 := (ri_lt rfl rfl).mp c129
            refine lv_iload hx hb d_Desk_state_137 (lv_at hl 0 rfl) ?_
            exact W.iret (v := (-3 : Int32)) hx hb hr (fun t ht hW => ⟨⟨(-3 : Int32), (ms, So, Su, Sr, ow, Es, rd), rfl, ⟨(show ms ≤ 20 from by omega), b_Sov_8, b_Suv_9, b_Srv_10, (show ow ≤ 4 from by omega), b_Esv_11, (show rd ≤ 1 from by omega), (show (¬ stOK q0 x y n Kd Wd ∧ (-1) = (-3 : Int32) ∧ ms = ms ∧ So = So ∧ Su = Su ∧ Sr = Sr ∧ ow = ow ∧ Es = Es ∧ rd = rd) ∨ (stOK q0 x y n Kd Wd ∧ stN q0 ow Es ∧ (-2) = (-3 : Int32) ∧ ms = ms ∧ So = So ∧ Su = Su ∧ Sr = Sr ∧ ow = ow ∧ Es = Es ∧ rd = rd) ∨ (stOK q0 x y n Kd Wd ∧ ¬ stN q0 ow Es ∧ stF q0 ms ow ∧ (-3) = (-3 : Int32) ∧ ms = ms ∧ So = So ∧ Su = Su ∧ Sr = Sr ∧ ow = ow ∧ Es = Es ∧ rd = rd) ∨ (stOK q0 x y n Kd Wd ∧ ¬ stN q0 ow Es ∧ ¬ stF q0 ms ow ∧ nI (ms + 1) = (-3 : Int32) ∧ ms + 1 = ms ∧ upN So ms (ix q0) = So ∧ upN Su ms (if q0.toInt ≤ 1 then ix x else 0) = Su ∧ upN Sr ms (if q0.toInt = 0 then ix y else 0) = Sr ∧ (if q0.toInt = 1 then ow + 1 else if q0.toInt = 3 then ow - 1 else ow) = ow ∧ (if q0.toInt = 1 then upN Es ow 0 else if q0.toInt = 2 then upN Es (ow - 1) 1 else Es) = Es ∧ 0 = rd) from Or.inr (Or.inr (Or.inl ⟨hok, (by unfold stN; omega), Or.inl h20, rfl, rfl, rfl, rfl, rfl, rfl, rfl, rfl⟩)))⟩, by rw [ht]; exact hP, va_K.moved hW.alike hK, hD⟩, hS.F ht⟩) hS.2.2 d_Desk_state_139
          · skip
            have c129 : ¬ ((-3 : Int32).toInt < 0) := fun h => c129 ((ri_lt rfl rfl).mpr h)
            exact absurd c129 (by decide)
        · skip
          have hP : va_P (dC, dI) classes [(a_desk, .inr (5, [.ref a_sig, .ref a_stm, .ref a_chk, .ref a_net, .ref a_mkr, .ref a_nwords, .int (nI rd), .int fw, .int (nI ck)])), (a_sig, .inr (1, [.ref a_kind, .ref a_width, .ref a_rword, .ref a_sop, .ref a_sa, .ref a_sb, .ref a_sc, .int (nI n)])), (a_kind, .inl (cI, 14, .inl (nF Kd))), (a_width, .inl (cI, 14, .inl (nF Wd))), (a_stm, .inr (2, [.ref a_sort, .ref a_subject, .ref a_source, .int (nI (ms + 1)), .int (nI ow), .ref a_elseSeen])), (a_sort, .inl (cI, 20, .inl (nF (upN So ms 2)))), (a_subject, .inl (cI, 20, .inl (nF (upN Su ms 0)))), (a_source, .inl (cI, 20, .inl (nF (upN Sr ms 0)))), (a_elseSeen, .inl (cZ, 4, .inl (nF (upN Es (ow - 1) 1))))] H := hP
          have hD : va_D A [(a_desk, .inr (5, [.ref a_sig, .ref a_stm, .ref a_chk, .ref a_net, .ref a_mkr, .ref a_nwords, .int (nI rd), .int fw, .int (nI ck)])), (a_sig, .inr (1, [.ref a_kind, .ref a_width, .ref a_rword, .ref a_sop, .ref a_sa, .ref a_sb, .ref a_sc, .int (nI n)])), (a_kind, .inl (cI, 14, .inl (nF Kd))), (a_width, .inl (cI, 14, .inl (nF Wd))), (a_stm, .inr (2, [.ref a_sort, .ref a_subject, .ref a_source, .int (nI (ms + 1)), .int (nI ow), .ref a_elseSeen])), (a_sort, .inl (cI, 20, .inl (nF (upN So ms 2)))), (a_subject, .inl (cI, 20, .inl (nF (upN Su ms 0)))), (a_source, .inl (cI, 20, .inl (nF (upN Sr ms 0)))), (a_elseSeen, .inl (cZ, 4, .inl (nF (upN Es (ow - 1) 1))))] := hD
          refine lv_istore (lv' := [(4, .int (nI (ms + 1))), (0, .ref a_desk), (1, .int q0), (2, .int x), (3, .int y)]) hx hb d_Desk_state_102 hl (by decide) rfl (fun ls hl => ?_)
          refine lv_goto (tgt := 127) hx hb d_Desk_state_104 (by decide) ?_
          refine lv_iload hx hb d_Desk_state_127 (lv_at hl 0 rfl) ?_
          refine lv_if_lt (tgt := 137) hx hb d_Desk_state_129 (by decide) (fun c129 => ?_) (fun c129 => ?_)
          · skip
            have c129 : False := (nI_lt0 (by omega)).mp c129
            exact absurd c129 (fun h => h)
          · skip
            have c129 : ¬ (False) := fun h => c129 ((nI_lt0 (by omega)).mpr h)
            refine lv_aload_n hx hb d_Desk_state_132 rfl (lv_at hl 1 rfl) ?_
            refine lv_iconst (v := nI 0) hx hb d_Desk_state_133 rfl ?_
            refine va_put (D := (dC, dI)) (ci := 5) (v := .int (nI 0)) (ty := .boolean) (C := R_Desk) (T := F_Desk) (N := 9) hx hb hts (wi i_Desk) t_Desk t_Desk_ok n_Desk hown hK hP hD hS 0 rfl rfl 6 (by decide) (hts _ (mt 248 rfl rfl)) (fun _ h9 => h9) rfl (by decide +kernel) (k_narZ (by omega)) (k_fitZ (by omega)) (Nat.le_of_ble_eq_true rfl) d_Desk_state_134 (fun H locs hP hD hS => ?_)
            have hP : va_P (dC, dI) classes [(a_desk, .inr (5, [.ref a_sig, .ref a_stm, .ref a_chk, .ref a_net, .ref a_mkr, .ref a_nwords, .int (nI 0), .int fw, .int (nI ck)])), (a_sig, .inr (1, [.ref a_kind, .ref a_width, .ref a_rword, .ref a_sop, .ref a_sa, .ref a_sb, .ref a_sc, .int (nI n)])), (a_kind, .inl (cI, 14, .inl (nF Kd))), (a_width, .inl (cI, 14, .inl (nF Wd))), (a_stm, .inr (2, [.ref a_sort, .ref a_subject, .ref a_source, .int (nI (ms + 1)), .int (nI ow), .ref a_elseSeen])), (a_sort, .inl (cI, 20, .inl (nF (upN So ms 2)))), (a_subject, .inl (cI, 20, .inl (nF (upN Su ms 0)))), (a_source, .inl (cI, 20, .inl (nF (upN Sr ms 0)))), (a_elseSeen, .inl (cZ, 4, .inl (nF (upN Es (ow - 1) 1))))] H := hP
            have hD : va_D A [(a_desk, .inr (5, [.ref a_sig, .ref a_stm, .ref a_chk, .ref a_net, .ref a_mkr, .ref a_nwords, .int (nI 0), .int fw, .int (nI ck)])), (a_sig, .inr (1, [.ref a_kind, .ref a_width, .ref a_rword, .ref a_sop, .ref a_sa, .ref a_sb, .ref a_sc, .int (nI n)])), (a_kind, .inl (cI, 14, .inl (nF Kd))), (a_width, .inl (cI, 14, .inl (nF Wd))), (a_stm, .inr (2, [.ref a_sort, .ref a_subject, .ref a_source, .int (nI (ms + 1)), .int (nI ow), .ref a_elseSeen])), (a_sort, .inl (cI, 20, .inl (nF (upN So ms 2)))), (a_subject, .inl (cI, 20, .inl (nF (upN Su ms 0)))), (a_source, .inl (cI, 20, .inl (nF (upN Sr ms 0)))), (a_elseSeen, .inl (cZ, 4, .inl (nF (upN Es (ow - 1) 1))))] := hD
            refine lv_iload hx hb d_Desk_state_137 (lv_at hl 0 rfl) ?_
            exact W.iret (v := nI (ms + 1)) hx hb hr (fun t ht hW => ⟨⟨nI (ms + 1), (ms + 1, upN So ms 2, upN Su ms 0, upN Sr ms 0, ow, upN Es (ow - 1) 1, 0), rfl, ⟨(show (ms + 1) ≤ 20 from by omega), b_Sov_8, b_Suv_9, b_Srv_10, (show ow ≤ 4 from by omega), b_Esv_11, (show 0 ≤ 1 from by omega), (show (¬ stOK q0 x y n Kd Wd ∧ (-1) = (nI (ms + 1)) ∧ ms = (ms + 1) ∧ So = (upN So ms 2) ∧ Su = (upN Su ms 0) ∧ Sr = (upN Sr ms 0) ∧ ow = ow ∧ Es = (upN Es (ow - 1) 1) ∧ rd = 0) ∨ (stOK q0 x y n Kd Wd ∧ stN q0 ow Es ∧ (-2) = (nI (ms + 1)) ∧ ms = (ms + 1) ∧ So = (upN So ms 2) ∧ Su = (upN Su ms 0) ∧ Sr = (upN Sr ms 0) ∧ ow = ow ∧ Es = (upN Es (ow - 1) 1) ∧ rd = 0) ∨ (stOK q0 x y n Kd Wd ∧ ¬ stN q0 ow Es ∧ stF q0 ms ow ∧ (-3) = (nI (ms + 1)) ∧ ms = (ms + 1) ∧ So = (upN So ms 2) ∧ Su = (upN Su ms 0) ∧ Sr = (upN Sr ms 0) ∧ ow = ow ∧ Es = (upN Es (ow - 1) 1) ∧ rd = 0) ∨ (stOK q0 x y n Kd Wd ∧ ¬ stN q0 ow Es ∧ ¬ stF q0 ms ow ∧ nI (ms + 1) = (nI (ms + 1)) ∧ ms + 1 = (ms + 1) ∧ upN So ms (ix q0) = (upN So ms 2) ∧ upN Su ms (if q0.toInt ≤ 1 then ix x else 0) = (upN Su ms 0) ∧ upN Sr ms (if q0.toInt = 0 then ix y else 0) = (upN Sr ms 0) ∧ (if q0.toInt = 1 then ow + 1 else if q0.toInt = 3 then ow - 1 else ow) = ow ∧ (if q0.toInt = 1 then upN Es ow 0 else if q0.toInt = 2 then upN Es (ow - 1) 1 else Es) = (upN Es (ow - 1) 1) ∧ 0 = 0) from Or.inr (Or.inr (Or.inr ⟨hok, (by unfold stN; omega), by unfold stF; omega, rfl, rfl, by rw [hqi], by rw [if_neg (by omega)], by rw [if_neg (by omega)], by rw [if_neg (by omega), if_neg (by omega)], by rw [if_neg (by omega), if_pos (by omega)], rfl⟩)))⟩, by rw [ht]; exact hP, va_K.moved hW.alike hK, hD⟩, hS.F ht⟩) hS.2.2 d_Desk_state_139
    · skip
      have c46 : q0.toInt = ((1 : Nat) : Int) := (ri_eq rfl (nI_toInt (show _ < 2 ^ 31 by omega))).mp c46
      refine lv_aload_n hx hb d_Desk_state_49 rfl (lv_at hl 0 rfl) ?_
      refine va_get (D := (dC, dI)) (ci := 5) (v := .ref a_sig) (C := R_Desk) (T := F_Desk) (N := 9) hx hb hts (wi i_Desk) hown hK hP 0 rfl rfl 0 (by decide) (hts _ (mt 242 rfl rfl)) (fun _ h9 => h9) rfl d_Desk_state_50 ?_
      refine lv_iload_n hx hb d_Desk_state_53 rfl (lv_at hl 2 rfl) ?_
      refine k_i (wr := [(a_desk, .inr (5, [.ref a_sig, .ref a_stm, .ref a_chk, .ref a_net, .ref a_mkr, .ref a_nwords, .int (nI rd), .int fw, .int (nI ck)])), (a_kind, .inl (cI, 14, .inl (nF Kd))), (a_width, .inl (cI, 14, .inl (nF Wd))), (a_stm, .inr (2, [.ref a_sort, .ref a_subject, .ref a_source, .int (nI ms), .int (nI ow), .ref a_elseSeen])), (a_sort, .inl (cI, 20, .inl (nF So))), (a_subject, .inl (cI, 20, .inl (nF Su))), (a_source, .inl (cI, 20, .inl (nF Sr))), (a_elseSeen, .inl (cZ, 4, .inl (nF Es)))]) (w2 := fun (u : Unit) => [(a_desk, .inr (5, [.ref a_sig, .ref a_stm, .ref a_chk, .ref a_net, .ref a_mkr, .ref a_nwords, .int (nI rd), .int fw, .int (nI ck)])), (a_sig, .inr (1, [.ref a_kind, .ref a_width, .ref a_rword, .ref a_sop, .ref a_sa, .ref a_sb, .ref a_sc, .int (nI n)])), (a_kind, .inl (cI, 14, .inl (nF Kd))), (a_width, .inl (cI, 14, .inl (nF Wd))), (a_stm, .inr (2, [.ref a_sort, .ref a_subject, .ref a_source, .int (nI ms), .int (nI ow), .ref a_elseSeen])), (a_sort, .inl (cI, 20, .inl (nF So))), (a_subject, .inl (cI, 20, .inl (nF Su))), (a_source, .inl (cI, 20, .inl (nF Sr))), (a_elseSeen, .inl (cZ, 4, .inl (nF Es)))]) (va_runV (As := [.int x]) (rest := []) ⟨hx, hb, hml, hown, hts⟩ (c_Sig_has l dC dI cI cZ a_sig a_kind a_width a_rword a_sop a_sa a_sb a_sc tt s.heap.size n x (by omega)) (cwV 1 hts (gd_V in_tl (mw 326 rfl rfl) (mw 292 rfl rfl) (mw 293 rfl rfl) (mw 42 rfl rfl) (mw 294 rfl rfl)) rfl rfl rfl (by decide +kernel) ⟨Nat.le_of_ble_eq_true rfl, Nat.le_of_ble_eq_true rfl⟩) (k_preV hK hP hD hS hA hE [1] (by decide) rfl 1 1 rfl rfl) rfl rfl hl.1 rfl (lv_room (Nat.le_of_ble_eq_true rfl)) d_Desk_state_54 ⟨Nat.zero_le _, Nat.zero_le _⟩) hP hD hS hA [1] [0, 2, 3, 4, 5, 6, 7, 8] [0, 8, 1, 2, 3, 4, 5, 6, 7] rfl rfl (by decide) (by decide) (by decide) (fun _ => rfl) (fun r_13 u H locs hw hP hD hS => ?_)
      obtain rfl : (r_13 = nI (hs n x)) := hw
      have hP : va_P (dC, dI) classes [(a_desk, .inr (5, [.ref a_sig, .ref a_stm, .ref a_chk, .ref a_net, .ref a_mkr, .ref a_nwords, .int (nI rd), .int fw, .int (nI ck)])), (a_sig, .inr (1, [.ref a_kind, .ref a_width, .ref a_rword, .ref a_sop, .ref a_sa, .ref a_sb, .ref a_sc, .int (nI n)])), (a_kind, .inl (cI, 14, .inl (nF Kd))), (a_width, .inl (cI, 14, .inl (nF Wd))), (a_stm, .inr (2, [.ref a_sort, .ref a_subject, .ref a_source, .int (nI ms), .int (nI ow), .ref a_elseSeen])), (a_sort, .inl (cI, 20, .inl (nF So))), (a_subject, .inl (cI, 20, .inl (nF Su))), (a_source, .inl (cI, 20, .inl (nF Sr))), (a_elseSeen, .inl (cZ, 4, .inl (nF Es)))] H := hP
      have hD : va_D A [(a_desk, .inr (5, [.ref a_sig, .ref a_stm, .ref a_chk, .ref a_net, .ref a_mkr, .ref a_nwords, .int (nI rd), .int fw, .int (nI ck)])), (a_sig, .inr (1, [.ref a_kind, .ref a_width, .ref a_rword, .ref a_sop, .ref a_sa, .ref a_sb, .ref a_sc, .int (nI n)])), (a_kind, .inl (cI, 14, .inl (nF Kd))), (a_width, .inl (cI, 14, .inl (nF Wd))), (a_stm, .inr (2, [.ref a_sort, .ref a_subject, .ref a_source, .int (nI ms), .int (nI ow), .ref a_elseSeen])), (a_sort, .inl (cI, 20, .inl (nF So))), (a_subject, .inl (cI, 20, .inl (nF Su))), (a_source, .inl (cI, 20, .inl (nF Sr))), (a_elseSeen, .inl (cZ, 4, .inl (nF Es)))] := hD
      refine lv_if_eq (tgt := 84) hx hb d_Desk_state_57 (by decide) (fun c57 => ?_) (fun c57 => ?_)
      · skip
        have c57 : (hs n x) = 0 := (nI_eq0 (by have := hs_le n x; omega)).mp c57
        have hno : ¬ stOK q0 x y n Kd Wd := by
          rintro (h | h | h | h)
          · omega
          · first | (have := h.2.1; omega) | (have := h.2.2; rw [ix_of eX hXb] at this; exact c70 this)
          · omega
          · omega
        refine lv_iconst (v := (-1 : Int32)) hx hb d_Desk_state_84 rfl ?_
        refine lv_istore (lv' := [(4, .int (-1 : Int32)), (0, .ref a_desk), (1, .int q0), (2, .int x), (3, .int y)]) hx hb d_Desk_state_85 hl (by decide) rfl (fun ls hl => ?_)
        refine lv_goto (tgt := 127) hx hb d_Desk_state_87 (by decide) ?_
        refine lv_iload hx hb d_Desk_state_127 (lv_at hl 0 rfl) ?_
        refine lv_if_lt (tgt := 137) hx hb d_Desk_state_129 (by decide) (fun c129 => ?_) (fun c129 => ?_)
        · skip
          have c129 : (-1 : Int32).toInt < 0 := (ri_lt rfl rfl).mp c129
          refine lv_iload hx hb d_Desk_state_137 (lv_at hl 0 rfl) ?_
          exact W.iret (v := (-1 : Int32)) hx hb hr (fun t ht hW => ⟨⟨(-1 : Int32), (ms, So, Su, Sr, ow, Es, rd), rfl, ⟨(show ms ≤ 20 from by omega), b_So, b_Su, b_Sr, (show ow ≤ 4 from by omega), b_Es, (show rd ≤ 1 from by omega), (show (¬ stOK q0 x y n Kd Wd ∧ (-1) = (-1 : Int32) ∧ ms = ms ∧ So = So ∧ Su = Su ∧ Sr = Sr ∧ ow = ow ∧ Es = Es ∧ rd = rd) ∨ (stOK q0 x y n Kd Wd ∧ stN q0 ow Es ∧ (-2) = (-1 : Int32) ∧ ms = ms ∧ So = So ∧ Su = Su ∧ Sr = Sr ∧ ow = ow ∧ Es = Es ∧ rd = rd) ∨ (stOK q0 x y n Kd Wd ∧ ¬ stN q0 ow Es ∧ stF q0 ms ow ∧ (-3) = (-1 : Int32) ∧ ms = ms ∧ So = So ∧ Su = Su ∧ Sr = Sr ∧ ow = ow ∧ Es = Es ∧ rd = rd) ∨ (stOK q0 x y n Kd Wd ∧ ¬ stN q0 ow Es ∧ ¬ stF q0 ms ow ∧ nI (ms + 1) = (-1 : Int32) ∧ ms + 1 = ms ∧ upN So ms (ix q0) = So ∧ upN Su ms (if q0.toInt ≤ 1 then ix x else 0) = Su ∧ upN Sr ms (if q0.toInt = 0 then ix y else 0) = Sr ∧ (if q0.toInt = 1 then ow + 1 else if q0.toInt = 3 then ow - 1 else ow) = ow ∧ (if q0.toInt = 1 then upN Es ow 0 else if q0.toInt = 2 then upN Es (ow - 1) 1 else Es) = Es ∧ 0 = rd) from Or.inl ⟨hno, rfl, rfl, rfl, rfl, rfl, rfl, rfl, rfl⟩)⟩, by rw [ht]; exact hP, va_K.moved hW.alike hK, hD⟩, hS.F ht⟩) hS.2.2 d_Desk_state_139
        · skip
          have c129 : ¬ ((-1 : Int32).toInt < 0) := fun h => c129 ((ri_lt rfl rfl).mpr h)
          exact absurd c129 (by decide)
      · skip
        have c57 : ¬ ((hs n x) = 0) := fun h => c57 ((nI_eq0 (by have := hs_le n x; omega)).mpr h)
        have hs1 : hs n x = 1 := by have := hs_le n x; omega
        obtain ⟨X, eX, hXn, hXb⟩ := hs_of (n := n) (x := x) (by rw [hs1]; decide)
        rw [eX] at hl
        refine lv_aload_n hx hb d_Desk_state_60 rfl (lv_at hl 0 rfl) ?_
        refine va_get (D := (dC, dI)) (ci := 5) (v := .ref a_sig) (C := R_Desk) (T := F_Desk) (N := 9) hx hb hts (wi i_Desk) hown hK hP 0 rfl rfl 0 (by decide) (hts _ (mt 242 rfl rfl)) (fun _ h9 => h9) rfl d_Desk_state_61 ?_
        refine va_get (D := (dC, dI)) (ci := 1) (v := .ref a_width) (C := R_Sig) (T := F_Sig) (N := 8) hx hb hts (wi i_Sig) hown hK hP 1 rfl rfl 1 (by decide) (hts _ (mt 71 rfl rfl)) (fun _ h9 => h9) rfl d_Desk_state_64 ?_
        refine lv_iload_n hx hb d_Desk_state_67 rfl (lv_at hl 2 rfl) ?_
        refine k_ild hx hb hK hP 3 0 rfl rfl (by omega) (by decide) d_Desk_state_68 ?_
        have hb_14 := b_Wd X
        refine lv_iconst (v := nI 1) hx hb d_Desk_state_69 rfl ?_
        refine lv_icmp_ne (tgt := 84) hx hb d_Desk_state_70 (by decide) (fun c70 => ?_) (fun c70 => ?_)
        · skip
          have c70 : ¬ ((Wd X) = 1) := fun h => c70 ((nI_eq (by omega) (by omega)).mpr h)
          have hno : ¬ stOK q0 x y n Kd Wd := by
            rintro (h | h | h | h)
            · omega
            · first | (have := h.2.1; omega) | (have := h.2.2; rw [ix_of eX hXb] at this; exact c70 this)
            · omega
            · omega
          refine lv_iconst (v := (-1 : Int32)) hx hb d_Desk_state_84 rfl ?_
          refine lv_istore (lv' := [(4, .int (-1 : Int32)), (0, .ref a_desk), (1, .int q0), (2, .int (nI X)), (3, .int y)]) hx hb d_Desk_state_85 hl (by decide) rfl (fun ls hl => ?_)
          refine lv_goto (tgt := 127) hx hb d_Desk_state_87 (by decide) ?_
          refine lv_iload hx hb d_Desk_state_127 (lv_at hl 0 rfl) ?_
          refine lv_if_lt (tgt := 137) hx hb d_Desk_state_129 (by decide) (fun c129 => ?_) (fun c129 => ?_)
          · skip
            have c129 : (-1 : Int32).toInt < 0 := (ri_lt rfl rfl).mp c129
            refine lv_iload hx hb d_Desk_state_137 (lv_at hl 0 rfl) ?_
            exact W.iret (v := (-1 : Int32)) hx hb hr (fun t ht hW => ⟨⟨(-1 : Int32), (ms, So, Su, Sr, ow, Es, rd), rfl, ⟨(show ms ≤ 20 from by omega), b_So, b_Su, b_Sr, (show ow ≤ 4 from by omega), b_Es, (show rd ≤ 1 from by omega), (show (¬ stOK q0 x y n Kd Wd ∧ (-1) = (-1 : Int32) ∧ ms = ms ∧ So = So ∧ Su = Su ∧ Sr = Sr ∧ ow = ow ∧ Es = Es ∧ rd = rd) ∨ (stOK q0 x y n Kd Wd ∧ stN q0 ow Es ∧ (-2) = (-1 : Int32) ∧ ms = ms ∧ So = So ∧ Su = Su ∧ Sr = Sr ∧ ow = ow ∧ Es = Es ∧ rd = rd) ∨ (stOK q0 x y n Kd Wd ∧ ¬ stN q0 ow Es ∧ stF q0 ms ow ∧ (-3) = (-1 : Int32) ∧ ms = ms ∧ So = So ∧ Su = Su ∧ Sr = Sr ∧ ow = ow ∧ Es = Es ∧ rd = rd) ∨ (stOK q0 x y n Kd Wd ∧ ¬ stN q0 ow Es ∧ ¬ stF q0 ms ow ∧ nI (ms + 1) = (-1 : Int32) ∧ ms + 1 = ms ∧ upN So ms (ix q0) = So ∧ upN Su ms (if q0.toInt ≤ 1 then ix x else 0) = Su ∧ upN Sr ms (if q0.toInt = 0 then ix y else 0) = Sr ∧ (if q0.toInt = 1 then ow + 1 else if q0.toInt = 3 then ow - 1 else ow) = ow ∧ (if q0.toInt = 1 then upN Es ow 0 else if q0.toInt = 2 then upN Es (ow - 1) 1 else Es) = Es ∧ 0 = rd) from Or.inl ⟨hno, rfl, rfl, rfl, rfl, rfl, rfl, rfl, rfl⟩)⟩, by rw [ht]; exact hP, va_K.moved hW.alike hK, hD⟩, hS.F ht⟩) hS.2.2 d_Desk_state_139
          · skip
            have c129 : ¬ ((-1 : Int32).toInt < 0) := fun h => c129 ((ri_lt rfl rfl).mpr h)
            exact absurd c129 (by decide)
        · skip
          have c70 : (Wd X) = 1 := (nI_eq (by omega) (by omega)).mp c70
          have hok : stOK q0 x y n Kd Wd := Or.inr (Or.inl ⟨c46, hs1, by rw [ix_of eX hXb]; exact c70⟩)
          have hqi : ix q0 = 1 := ix_ti c46
          have hnn : ¬ stN q0 ow Es := by unfold stN; omega
          refine lv_aload_n hx hb d_Desk_state_73 rfl (lv_at hl 0 rfl) ?_
          refine va_get (D := (dC, dI)) (ci := 5) (v := .ref a_stm) (C := R_Desk) (T := F_Desk) (N := 9) hx hb hts (wi i_Desk) hown hK hP 0 rfl rfl 1 (by decide) (hts _ (mt 243 rfl rfl)) (fun _ h9 => h9) rfl d_Desk_state_74 ?_
          refine lv_iload_n hx hb d_Desk_state_77 rfl (lv_at hl 2 rfl) ?_
          refine k_i (wr := [(a_desk, .inr (5, [.ref a_sig, .ref a_stm, .ref a_chk, .ref a_net, .ref a_mkr, .ref a_nwords, .int (nI rd), .int fw, .int (nI ck)])), (a_sig, .inr (1, [.ref a_kind, .ref a_width, .ref a_rword, .ref a_sop, .ref a_sa, .ref a_sb, .ref a_sc, .int (nI n)])), (a_kind, .inl (cI, 14, .inl (nF Kd))), (a_width, .inl (cI, 14, .inl (nF Wd)))]) (w2 := fun (u : Nat × Nat × (Nat → Nat) × (Nat → Nat) × (Nat → Nat) × (Nat → Nat)) => [(a_desk, .inr (5, [.ref a_sig, .ref a_stm, .ref a_chk, .ref a_net, .ref a_mkr, .ref a_nwords, .int (nI rd), .int fw, .int (nI ck)])), (a_sig, .inr (1, [.ref a_kind, .ref a_width, .ref a_rword, .ref a_sop, .ref a_sa, .ref a_sb, .ref a_sc, .int (nI n)])), (a_kind, .inl (cI, 14, .inl (nF Kd))), (a_width, .inl (cI, 14, .inl (nF Wd))), (a_stm, .inr (2, [.ref a_sort, .ref a_subject, .ref a_source, .int (nI u.1), .int (nI u.2.1), .ref a_elseSeen])), (a_sort, .inl (cI, 20, .inl (nF u.2.2.1))), (a_subject, .inl (cI, 20, .inl (nF u.2.2.2.1))), (a_source, .inl (cI, 20, .inl (nF u.2.2.2.2.1))), (a_elseSeen, .inl (cZ, 4, .inl (nF u.2.2.2.2.2)))]) (va_runV (As := [.int (nI X)]) (rest := []) ⟨hx, hb, hml, hown, hts⟩ (c_Stm_addWhen l dC dI cI cZ a_stm a_sort a_subject a_source a_elseSeen tt H.size ms ow So Su Sr Es X (by omega) (by omega) b_So b_Su b_Sr b_Es (by omega)) (cwV 1 hts (gd_V in_tl (mw 335 rfl rfl) (mw 336 rfl rfl) (mw 337 rfl rfl) (mw 43 rfl rfl) (mw 338 rfl rfl)) rfl rfl rfl (by decide +kernel) ⟨Nat.le_of_ble_eq_true rfl, Nat.le_of_ble_eq_true rfl⟩) (k_preV hK hP hD hS hA hE [4, 5, 6, 7, 8] (by decide) rfl 2 4 rfl rfl) rfl rfl hl.1 rfl (lv_room (Nat.le_of_ble_eq_true rfl)) d_Desk_state_78 ⟨Nat.zero_le _, Nat.zero_le _⟩) hP hD hS hA [4, 5, 6, 7, 8] [0, 1, 2, 3] [0, 1, 2, 3, 4, 5, 6, 7, 8] rfl rfl (by decide) (by decide) (by decide) (fun _ => rfl) (fun r_21 u H locs hw hP hD hS => ?_)
          obtain ⟨msv_15, owv_16, Sov_17, Suv_18, Srv_19, Esv_20⟩ := u
          obtain ⟨b_msv_15, b_owv_16, b_Sov_17, b_Suv_18, b_Srv_19, b_Esv_20, ha_78⟩ : (msv_15 ≤ 20) ∧ (owv_16 ≤ 4) ∧ (∀ j, Sov_17 j < 4) ∧ (∀ j, Suv_18 j < 14) ∧ (∀ j, Srv_19 j < 14) ∧ (∀ j, Esv_20 j < 2) ∧ (((ow = 4 ∨ ms = 20) ∧ (-3) = r_21 ∧ ms = msv_15 ∧ So = Sov_17 ∧ Su = Suv_18 ∧ Sr = Srv_19 ∧ ow = owv_16 ∧ Es = Esv_20) ∨ (ow < 4 ∧ ms < 20 ∧ nI (ms + 1) = r_21 ∧ ms + 1 = msv_15 ∧ upN So ms 1 = Sov_17 ∧ upN Su ms X = Suv_18 ∧ upN Sr ms 0 = Srv_19 ∧ ow + 1 = owv_16 ∧ upN Es ow 0 = Esv_20)) := hw
          have hP : va_P (dC, dI) classes [(a_desk, .inr (5, [.ref a_sig, .ref a_stm, .ref a_chk, .ref a_net, .ref a_mkr, .ref a_nwords, .int (nI rd), .int fw, .int (nI ck)])), (a_sig, .inr (1, [.ref a_kind, .ref a_width, .ref a_rword, .ref a_sop, .ref a_sa, .ref a_sb, .ref a_sc, .int (nI n)])), (a_kind, .inl (cI, 14, .inl (nF Kd))), (a_width, .inl (cI, 14, .inl (nF Wd))), (a_stm, .inr (2, [.ref a_sort, .ref a_subject, .ref a_source, .int (nI msv_15), .int (nI owv_16), .ref a_elseSeen])), (a_sort, .inl (cI, 20, .inl (nF Sov_17))), (a_subject, .inl (cI, 20, .inl (nF Suv_18))), (a_source, .inl (cI, 20, .inl (nF Srv_19))), (a_elseSeen, .inl (cZ, 4, .inl (nF Esv_20)))] H := hP
          have hD : va_D A [(a_desk, .inr (5, [.ref a_sig, .ref a_stm, .ref a_chk, .ref a_net, .ref a_mkr, .ref a_nwords, .int (nI rd), .int fw, .int (nI ck)])), (a_sig, .inr (1, [.ref a_kind, .ref a_width, .ref a_rword, .ref a_sop, .ref a_sa, .ref a_sb, .ref a_sc, .int (nI n)])), (a_kind, .inl (cI, 14, .inl (nF Kd))), (a_width, .inl (cI, 14, .inl (nF Wd))), (a_stm, .inr (2, [.ref a_sort, .ref a_subject, .ref a_source, .int (nI msv_15), .int (nI owv_16), .ref a_elseSeen])), (a_sort, .inl (cI, 20, .inl (nF Sov_17))), (a_subject, .inl (cI, 20, .inl (nF Suv_18))), (a_source, .inl (cI, 20, .inl (nF Srv_19))), (a_elseSeen, .inl (cZ, 4, .inl (nF Esv_20)))] := hD
          rcases ha_78 with ⟨h20, hr3, q1, q2, q3, q4, q5, q6⟩ | ⟨h4, h20, hr3, q1, q2, q3, q4, q5, q6⟩ <;> subst hr3 <;> subst q1 <;> subst q2 <;> subst q3 <;> subst q4 <;> subst q5 <;> subst q6
          · skip
            have hP : va_P (dC, dI) classes [(a_desk, .inr (5, [.ref a_sig, .ref a_stm, .ref a_chk, .ref a_net, .ref a_mkr, .ref a_nwords, .int (nI rd), .int fw, .int (nI ck)])), (a_sig, .inr (1, [.ref a_kind, .ref a_width, .ref a_rword, .ref a_sop, .ref a_sa, .ref a_sb, .ref a_sc, .int (nI n)])), (a_kind, .inl (cI, 14, .inl (nF Kd))), (a_width, .inl (cI, 14, .inl (nF Wd))), (a_stm, .inr (2, [.ref a_sort, .ref a_subject, .ref a_source, .int (nI ms), .int (nI ow), .ref a_elseSeen])), (a_sort, .inl (cI, 20, .inl (nF So))), (a_subject, .inl (cI, 20, .inl (nF Su))), (a_source, .inl (cI, 20, .inl (nF Sr))), (a_elseSeen, .inl (cZ, 4, .inl (nF Es)))] H := hP
            have hD : va_D A [(a_desk, .inr (5, [.ref a_sig, .ref a_stm, .ref a_chk, .ref a_net, .ref a_mkr, .ref a_nwords, .int (nI rd), .int fw, .int (nI ck)])), (a_sig, .inr (1, [.ref a_kind, .ref a_width, .ref a_rword, .ref a_sop, .ref a_sa, .ref a_sb, .ref a_sc, .int (nI n)])), (a_kind, .inl (cI, 14, .inl (nF Kd))), (a_width, .inl (cI, 14, .inl (nF Wd))), (a_stm, .inr (2, [.ref a_sort, .ref a_subject, .ref a_source, .int (nI ms), .int (nI ow), .ref a_elseSeen])), (a_sort, .inl (cI, 20, .inl (nF So))), (a_subject, .inl (cI, 20, .inl (nF Su))), (a_source, .inl (cI, 20, .inl (nF Sr))), (a_elseSeen, .inl (cZ, 4, .inl (nF Es)))] := hD
            refine lv_goto (tgt := 85) hx hb d_Desk_state_81 (by decide) ?_
            refine lv_istore (lv' := [(4, .int (-3 : Int32)), (0, .ref a_desk), (1, .int q0), (2, .int (nI X)), (3, .int y)]) hx hb d_Desk_state_85 hl (by decide) rfl (fun ls hl => ?_)
            refine lv_goto (tgt := 127) hx hb d_Desk_state_87 (by decide) ?_
            refine lv_iload hx hb d_Desk_state_127 (lv_at hl 0 rfl) ?_
            refine lv_if_lt (tgt := 137) hx hb d_Desk_state_129 (by decide) (fun c129 => ?_) (fun c129 => ?_)
            · skip
              have c129 : (-3 : Int32).toInt < 0 := (ri_lt rfl rfl).mp c129
              refine lv_iload hx hb d_Desk_state_137 (lv_at hl 0 rfl) ?_
              exact W.iret (v := (-3 : Int32)) hx hb hr (fun t ht hW => ⟨⟨(-3 : Int32), (ms, So, Su, Sr, ow, Es, rd), rfl, ⟨(show ms ≤ 20 from by omega), b_Sov_17, b_Suv_18, b_Srv_19, (show ow ≤ 4 from by omega), b_Esv_20, (show rd ≤ 1 from by omega), (show (¬ stOK q0 x y n Kd Wd ∧ (-1) = (-3 : Int32) ∧ ms = ms ∧ So = So ∧ Su = Su ∧ Sr = Sr ∧ ow = ow ∧ Es = Es ∧ rd = rd) ∨ (stOK q0 x y n Kd Wd ∧ stN q0 ow Es ∧ (-2) = (-3 : Int32) ∧ ms = ms ∧ So = So ∧ Su = Su ∧ Sr = Sr ∧ ow = ow ∧ Es = Es ∧ rd = rd) ∨ (stOK q0 x y n Kd Wd ∧ ¬ stN q0 ow Es ∧ stF q0 ms ow ∧ (-3) = (-3 : Int32) ∧ ms = ms ∧ So = So ∧ Su = Su ∧ Sr = Sr ∧ ow = ow ∧ Es = Es ∧ rd = rd) ∨ (stOK q0 x y n Kd Wd ∧ ¬ stN q0 ow Es ∧ ¬ stF q0 ms ow ∧ nI (ms + 1) = (-3 : Int32) ∧ ms + 1 = ms ∧ upN So ms (ix q0) = So ∧ upN Su ms (if q0.toInt ≤ 1 then ix x else 0) = Su ∧ upN Sr ms (if q0.toInt = 0 then ix y else 0) = Sr ∧ (if q0.toInt = 1 then ow + 1 else if q0.toInt = 3 then ow - 1 else ow) = ow ∧ (if q0.toInt = 1 then upN Es ow 0 else if q0.toInt = 2 then upN Es (ow - 1) 1 else Es) = Es ∧ 0 = rd) from Or.inr (Or.inr (Or.inl ⟨hok, hnn, by unfold stF; omega, rfl, rfl, rfl, rfl, rfl, rfl, rfl, rfl⟩)))⟩, by rw [ht]; exact hP, va_K.moved hW.alike hK, hD⟩, hS.F ht⟩) hS.2.2 d_Desk_state_139
            · skip
              have c129 : ¬ ((-3 : Int32).toInt < 0) := fun h => c129 ((ri_lt rfl rfl).mpr h)
              exact absurd c129 (by decide)
          · skip
            have hP : va_P (dC, dI) classes [(a_desk, .inr (5, [.ref a_sig, .ref a_stm, .ref a_chk, .ref a_net, .ref a_mkr, .ref a_nwords, .int (nI rd), .int fw, .int (nI ck)])), (a_sig, .inr (1, [.ref a_kind, .ref a_width, .ref a_rword, .ref a_sop, .ref a_sa, .ref a_sb, .ref a_sc, .int (nI n)])), (a_kind, .inl (cI, 14, .inl (nF Kd))), (a_width, .inl (cI, 14, .inl (nF Wd))), (a_stm, .inr (2, [.ref a_sort, .ref a_subject, .ref a_source, .int (nI (ms + 1)), .int (nI (ow + 1)), .ref a_elseSeen])), (a_sort, .inl (cI, 20, .inl (nF (upN So ms 1)))), (a_subject, .inl (cI, 20, .inl (nF (upN Su ms X)))), (a_source, .inl (cI, 20, .inl (nF (upN Sr ms 0)))), (a_elseSeen, .inl (cZ, 4, .inl (nF (upN Es ow 0))))] H := hP
            have hD : va_D A [(a_desk, .inr (5, [.ref a_sig, .ref a_stm, .ref a_chk, .ref a_net, .ref a_mkr, .ref a_nwords, .int (nI rd), .int fw, .int (nI ck)])), (a_sig, .inr (1, [.ref a_kind, .ref a_width, .ref a_rword, .ref a_sop, .ref a_sa, .ref a_sb, .ref a_sc, .int (nI n)])), (a_kind, .inl (cI, 14, .inl (nF Kd))), (a_width, .inl (cI, 14, .inl (nF Wd))), (a_stm, .inr (2, [.ref a_sort, .ref a_subject, .ref a_source, .int (nI (ms + 1)), .int (nI (ow + 1)), .ref a_elseSeen])), (a_sort, .inl (cI, 20, .inl (nF (upN So ms 1)))), (a_subject, .inl (cI, 20, .inl (nF (upN Su ms X)))), (a_source, .inl (cI, 20, .inl (nF (upN Sr ms 0)))), (a_elseSeen, .inl (cZ, 4, .inl (nF (upN Es ow 0))))] := hD
            refine lv_goto (tgt := 85) hx hb d_Desk_state_81 (by decide) ?_
            refine lv_istore (lv' := [(4, .int (nI (ms + 1))), (0, .ref a_desk), (1, .int q0), (2, .int (nI X)), (3, .int y)]) hx hb d_Desk_state_85 hl (by decide) rfl (fun ls hl => ?_)
            refine lv_goto (tgt := 127) hx hb d_Desk_state_87 (by decide) ?_
            refine lv_iload hx hb d_Desk_state_127 (lv_at hl 0 rfl) ?_
            refine lv_if_lt (tgt := 137) hx hb d_Desk_state_129 (by decide) (fun c129 => ?_) (fun c129 => ?_)
            · skip
              have c129 : False := (nI_lt0 (by omega)).mp c129
              exact absurd c129 (fun h => h)
            · skip
              have c129 : ¬ (False) := fun h => c129 ((nI_lt0 (by omega)).mpr h)
              refine lv_aload_n hx hb d_Desk_state_132 rfl (lv_at hl 1 rfl) ?_
              refine lv_iconst (v := nI 0) hx hb d_Desk_state_133 rfl ?_
              refine va_put (D := (dC, dI)) (ci := 5) (v := .int (nI 0)) (ty := .boolean) (C := R_Desk) (T := F_Desk) (N := 9) hx hb hts (wi i_Desk) t_Desk t_Desk_ok n_Desk hown hK hP hD hS 0 rfl rfl 6 (by decide) (hts _ (mt 248 rfl rfl)) (fun _ h9 => h9) rfl (by decide +kernel) (k_narZ (by omega)) (k_fitZ (by omega)) (Nat.le_of_ble_eq_true rfl) d_Desk_state_134 (fun H locs hP hD hS => ?_)
              have hP : va_P (dC, dI) classes [(a_desk, .inr (5, [.ref a_sig, .ref a_stm, .ref a_chk, .ref a_net, .ref a_mkr, .ref a_nwords, .int (nI 0), .int fw, .int (nI ck)])), (a_sig, .inr (1, [.ref a_kind, .ref a_width, .ref a_rword, .ref a_sop, .ref a_sa, .ref a_sb, .ref a_sc, .int (nI n)])), (a_kind, .inl (cI, 14, .inl (nF Kd))), (a_width, .inl (cI, 14, .inl (nF Wd))), (a_stm, .inr (2, [.ref a_sort, .ref a_subject, .ref a_source, .int (nI (ms + 1)), .int (nI (ow + 1)), .ref a_elseSeen])), (a_sort, .inl (cI, 20, .inl (nF (upN So ms 1)))), (a_subject, .inl (cI, 20, .inl (nF (upN Su ms X)))), (a_source, .inl (cI, 20, .inl (nF (upN Sr ms 0)))), (a_elseSeen, .inl (cZ, 4, .inl (nF (upN Es ow 0))))] H := hP
              have hD : va_D A [(a_desk, .inr (5, [.ref a_sig, .ref a_stm, .ref a_chk, .ref a_net, .ref a_mkr, .ref a_nwords, .int (nI 0), .int fw, .int (nI ck)])), (a_sig, .inr (1, [.ref a_kind, .ref a_width, .ref a_rword, .ref a_sop, .ref a_sa, .ref a_sb, .ref a_sc, .int (nI n)])), (a_kind, .inl (cI, 14, .inl (nF Kd))), (a_width, .inl (cI, 14, .inl (nF Wd))), (a_stm, .inr (2, [.ref a_sort, .ref a_subject, .ref a_source, .int (nI (ms + 1)), .int (nI (ow + 1)), .ref a_elseSeen])), (a_sort, .inl (cI, 20, .inl (nF (upN So ms 1)))), (a_subject, .inl (cI, 20, .inl (nF (upN Su ms X)))), (a_source, .inl (cI, 20, .inl (nF (upN Sr ms 0)))), (a_elseSeen, .inl (cZ, 4, .inl (nF (upN Es ow 0))))] := hD
              refine lv_iload hx hb d_Desk_state_137 (lv_at hl 0 rfl) ?_
              exact W.iret (v := nI (ms + 1)) hx hb hr (fun t ht hW => ⟨⟨nI (ms + 1), (ms + 1, upN So ms 1, upN Su ms X, upN Sr ms 0, ow + 1, upN Es ow 0, 0), rfl, ⟨(show (ms + 1) ≤ 20 from by omega), b_Sov_17, b_Suv_18, b_Srv_19, (show (ow + 1) ≤ 4 from by omega), b_Esv_20, (show 0 ≤ 1 from by omega), (show (¬ stOK q0 x y n Kd Wd ∧ (-1) = (nI (ms + 1)) ∧ ms = (ms + 1) ∧ So = (upN So ms 1) ∧ Su = (upN Su ms X) ∧ Sr = (upN Sr ms 0) ∧ ow = (ow + 1) ∧ Es = (upN Es ow 0) ∧ rd = 0) ∨ (stOK q0 x y n Kd Wd ∧ stN q0 ow Es ∧ (-2) = (nI (ms + 1)) ∧ ms = (ms + 1) ∧ So = (upN So ms 1) ∧ Su = (upN Su ms X) ∧ Sr = (upN Sr ms 0) ∧ ow = (ow + 1) ∧ Es = (upN Es ow 0) ∧ rd = 0) ∨ (stOK q0 x y n Kd Wd ∧ ¬ stN q0 ow Es ∧ stF q0 ms ow ∧ (-3) = (nI (ms + 1)) ∧ ms = (ms + 1) ∧ So = (upN So ms 1) ∧ Su = (upN Su ms X) ∧ Sr = (upN Sr ms 0) ∧ ow = (ow + 1) ∧ Es = (upN Es ow 0) ∧ rd = 0) ∨ (stOK q0 x y n Kd Wd ∧ ¬ stN q0 ow Es ∧ ¬ stF q0 ms ow ∧ nI (ms + 1) = (nI (ms + 1)) ∧ ms + 1 = (ms + 1) ∧ upN So ms (ix q0) = (upN So ms 1) ∧ upN Su ms (if q0.toInt ≤ 1 then ix x else 0) = (upN Su ms X) ∧ upN Sr ms (if q0.toInt = 0 then ix y else 0) = (upN Sr ms 0) ∧ (if q0.toInt = 1 then ow + 1 else if q0.toInt = 3 then ow - 1 else ow) = (ow + 1) ∧ (if q0.toInt = 1 then upN Es ow 0 else if q0.toInt = 2 then upN Es (ow - 1) 1 else Es) = (upN Es ow 0) ∧ 0 = 0) from Or.inr (Or.inr (Or.inr ⟨hok, hnn, by unfold stF; omega, rfl, rfl, by rw [hqi], by rw [if_pos (by omega), ix_of eX hXb], by rw [if_neg (by omega)], by rw [if_pos (by omega)], by rw [if_pos (by omega)], rfl⟩)))⟩, by rw [ht]; exact hP, va_K.moved hW.alike hK, hD⟩, hS.F ht⟩) hS.2.2 d_Desk_state_139
  · skip
    have c1 : q0.toInt = 0 := (ri_eq rfl rfl).mp c1
    refine lv_aload_n hx hb d_Desk_state_4 rfl (lv_at hl 0 rfl) ?_
    refine va_get (D := (dC, dI)) (ci := 5) (v := .ref a_sig) (C := R_Desk) (T := F_Desk) (N := 9) hx hb hts (wi i_Desk) hown hK hP 0 rfl rfl 0 (by decide) (hts _ (mt 242 rfl rfl)) (fun _ h9 => h9) rfl d_Desk_state_5 ?_
    refine lv_iload_n hx hb d_Desk_state_8 rfl (lv_at hl 2 rfl) ?_
    refine k_i (wr := [(a_desk, .inr (5, [.ref a_sig, .ref a_stm, .ref a_chk, .ref a_net, .ref a_mkr, .ref a_nwords, .int (nI rd), .int fw, .int (nI ck)])), (a_width, .inl (cI, 14, .inl (nF Wd))), (a_stm, .inr (2, [.ref a_sort, .ref a_subject, .ref a_source, .int (nI ms), .int (nI ow), .ref a_elseSeen])), (a_sort, .inl (cI, 20, .inl (nF So))), (a_subject, .inl (cI, 20, .inl (nF Su))), (a_source, .inl (cI, 20, .inl (nF Sr))), (a_elseSeen, .inl (cZ, 4, .inl (nF Es)))]) (w2 := fun (u : Unit) => [(a_desk, .inr (5, [.ref a_sig, .ref a_stm, .ref a_chk, .ref a_net, .ref a_mkr, .ref a_nwords, .int (nI rd), .int fw, .int (nI ck)])), (a_sig, .inr (1, [.ref a_kind, .ref a_width, .ref a_rword, .ref a_sop, .ref a_sa, .ref a_sb, .ref a_sc, .int (nI n)])), (a_kind, .inl (cI, 14, .inl (nF Kd))), (a_width, .inl (cI, 14, .inl (nF Wd))), (a_stm, .inr (2, [.ref a_sort, .ref a_subject, .ref a_source, .int (nI ms), .int (nI ow), .ref a_elseSeen])), (a_sort, .inl (cI, 20, .inl (nF So))), (a_subject, .inl (cI, 20, .inl (nF Su))), (a_source, .inl (cI, 20, .inl (nF Sr))), (a_elseSeen, .inl (cZ, 4, .inl (nF Es)))]) (va_runV (As := [.int x]) (rest := []) ⟨hx, hb, hml, hown, hts⟩ (c_Sig_isSink l dC dI cI cZ a_sig a_kind a_width a_rword a_sop a_sa a_sb a_sc tt s.heap.size n Kd x (by omega) b_Kd) (cwV 1 hts (gd_V in_tl (mw 322 rfl rfl) (mw 323 rfl rfl) (mw 324 rfl rfl) (mw 42 rfl rfl) (mw 325 rfl rfl)) rfl rfl rfl (by decide +kernel) ⟨Nat.le_of_ble_eq_true rfl, Nat.le_of_ble_eq_true rfl⟩) (k_preV hK hP hD hS hA hE [1, 2] (by decide) rfl 1 1 rfl rfl) rfl rfl hl.1 rfl (lv_room (Nat.le_of_ble_eq_true rfl)) d_Desk_state_9 ⟨Nat.zero_le _, Nat.zero_le _⟩) hP hD hS hA [1, 2] [0, 3, 4, 5, 6, 7, 8] [0, 7, 8, 1, 2, 3, 4, 5, 6] rfl rfl (by decide) (by decide) (by decide) (fun _ => rfl) (fun r_22 u H locs hw hP hD hS => ?_)
    obtain rfl : (r_22 = nI (if hs n x = 1 ∧ (Kd (ix x) = 1 ∨ Kd (ix x) = 2) then 1 else 0)) := hw
    have hP : va_P (dC, dI) classes [(a_desk, .inr (5, [.ref a_sig, .ref a_stm, .ref a_chk, .ref a_net, .ref a_mkr, .ref a_nwords, .int (nI rd), .int fw, .int (nI ck)])), (a_sig, .inr (1, [.ref a_kind, .ref a_width, .ref a_rword, .ref a_sop, .ref a_sa, .ref a_sb, .ref a_sc, .int (nI n)])), (a_kind, .inl (cI, 14, .inl (nF Kd))), (a_width, .inl (cI, 14, .inl (nF Wd))), (a_stm, .inr (2, [.ref a_sort, .ref a_subject, .ref a_source, .int (nI ms), .int (nI ow), .ref a_elseSeen])), (a_sort, .inl (cI, 20, .inl (nF So))), (a_subject, .inl (cI, 20, .inl (nF Su))), (a_source, .inl (cI, 20, .inl (nF Sr))), (a_elseSeen, .inl (cZ, 4, .inl (nF Es)))] H := hP
    have hD : va_D A [(a_desk, .inr (5, [.ref a_sig, .ref a_stm, .ref a_chk, .ref a_net, .ref a_mkr, .ref a_nwords, .int (nI rd), .int fw, .int (nI ck)])), (a_sig, .inr (1, [.ref a_kind, .ref a_width, .ref a_rword, .ref a_sop, .ref a_sa, .ref a_sb, .ref a_sc, .int (nI n)])), (a_kind, .inl (cI, 14, .inl (nF Kd))), (a_width, .inl (cI, 14, .inl (nF Wd))), (a_stm, .inr (2, [.ref a_sort, .ref a_subject, .ref a_source, .int (nI ms), .int (nI ow), .ref a_elseSeen])), (a_sort, .inl (cI, 20, .inl (nF So))), (a_subject, .inl (cI, 20, .inl (nF Su))), (a_source, .inl (cI, 20, .inl (nF Sr))), (a_elseSeen, .inl (cZ, 4, .inl (nF Es)))] := hD
    refine lv_if_eq (tgt := 38) hx hb d_Desk_state_12 (by decide) (fun c12 => ?_) (fun c12 => ?_)
    · skip
      have c12 : (if hs n x = 1 ∧ (Kd (ix x) = 1 ∨ Kd (ix x) = 2) then 1 else 0) = 0 := (nI_eq0 (by split <;> decide)).mp c12
      have hno : ¬ stOK q0 x y n Kd Wd := by
        rintro (h | h | h | h)
        · first | exact absurd c12 (by rw [if_pos ⟨h.2.1, h.2.2.1⟩]; decide) | (have := h.2.2.2; omega)
        · omega
        · omega
        · omega
      refine lv_iconst (v := (-1 : Int32)) hx hb d_Desk_state_38 rfl ?_
      refine lv_istore (lv' := [(4, .int (-1 : Int32)), (0, .ref a_desk), (1, .int q0), (2, .int x), (3, .int y)]) hx hb d_Desk_state_39 hl (by decide) rfl (fun ls hl => ?_)
      refine lv_goto (tgt := 127) hx hb d_Desk_state_41 (by decide) ?_
      refine lv_iload hx hb d_Desk_state_127 (lv_at hl 0 rfl) ?_
      refine lv_if_lt (tgt := 137) hx hb d_Desk_state_129 (by decide) (fun c129 => ?_) (fun c129 => ?_)
      · skip
        have c129 : (-1 : Int32).toInt < 0 := (ri_lt rfl rfl).mp c129
        refine lv_iload hx hb d_Desk_state_137 (lv_at hl 0 rfl) ?_
        exact W.iret (v := (-1 : Int32)) hx hb hr (fun t ht hW => ⟨⟨(-1 : Int32), (ms, So, Su, Sr, ow, Es, rd), rfl, ⟨(show ms ≤ 20 from by omega), b_So, b_Su, b_Sr, (show ow ≤ 4 from by omega), b_Es, (show rd ≤ 1 from by omega), (show (¬ stOK q0 x y n Kd Wd ∧ (-1) = (-1 : Int32) ∧ ms = ms ∧ So = So ∧ Su = Su ∧ Sr = Sr ∧ ow = ow ∧ Es = Es ∧ rd = rd) ∨ (stOK q0 x y n Kd Wd ∧ stN q0 ow Es ∧ (-2) = (-1 : Int32) ∧ ms = ms ∧ So = So ∧ Su = Su ∧ Sr = Sr ∧ ow = ow ∧ Es = Es ∧ rd = rd) ∨ (stOK q0 x y n Kd Wd ∧ ¬ stN q0 ow Es ∧ stF q0 ms ow ∧ (-3) = (-1 : Int32) ∧ ms = ms ∧ So = So ∧ Su = Su ∧ Sr = Sr ∧ ow = ow ∧ Es = Es ∧ rd = rd) ∨ (stOK q0 x y n Kd Wd ∧ ¬ stN q0 ow Es ∧ ¬ stF q0 ms ow ∧ nI (ms + 1) = (-1 : Int32) ∧ ms + 1 = ms ∧ upN So ms (ix q0) = So ∧ upN Su ms (if q0.toInt ≤ 1 then ix x else 0) = Su ∧ upN Sr ms (if q0.toInt = 0 then ix y else 0) = Sr ∧ (if q0.toInt = 1 then ow + 1 else if q0.toInt = 3 then ow - 1 else ow) = ow ∧ (if q0.toInt = 1 then upN Es ow 0 else if q0.toInt = 2 then upN Es (ow - 1) 1 else Es) = Es ∧ 0 = rd) from Or.inl ⟨hno, rfl, rfl, rfl, rfl, rfl, rfl, rfl, rfl⟩)⟩, by rw [ht]; exact hP, va_K.moved hW.alike hK, hD⟩, hS.F ht⟩) hS.2.2 d_Desk_state_139
      · skip
        have c129 : ¬ ((-1 : Int32).toInt < 0) := fun h => c129 ((ri_lt rfl rfl).mpr h)
        exact absurd c129 (by decide)
    · skip
      have c12 : ¬ ((if hs n x = 1 ∧ (Kd (ix x) = 1 ∨ Kd (ix x) = 2) then 1 else 0) = 0) := fun h => c12 ((nI_eq0 (by split <;> decide)).mpr h)
      refine lv_aload_n hx hb d_Desk_state_15 rfl (lv_at hl 0 rfl) ?_
      refine va_get (D := (dC, dI)) (ci := 5) (v := .ref a_sig) (C := R_Desk) (T := F_Desk) (N := 9) hx hb hts (wi i_Desk) hown hK hP 0 rfl rfl 0 (by decide) (hts _ (mt 242 rfl rfl)) (fun _ h9 => h9) rfl d_Desk_state_16 ?_
      refine lv_iload_n hx hb d_Desk_state_19 rfl (lv_at hl 3 rfl) ?_
      refine k_i (wr := [(a_desk, .inr (5, [.ref a_sig, .ref a_stm, .ref a_chk, .ref a_net, .ref a_mkr, .ref a_nwords, .int (nI rd), .int fw, .int (nI ck)])), (a_kind, .inl (cI, 14, .inl (nF Kd))), (a_width, .inl (cI, 14, .inl (nF Wd))), (a_stm, .inr (2, [.ref a_sort, .ref a_subject, .ref a_source, .int (nI ms), .int (nI ow), .ref a_elseSeen])), (a_sort, .inl (cI, 20, .inl (nF So))), (a_subject, .inl (cI, 20, .inl (nF Su))), (a_source, .inl (cI, 20, .inl (nF Sr))), (a_elseSeen, .inl (cZ, 4, .inl (nF Es)))]) (w2 := fun (u : Unit) => [(a_desk, .inr (5, [.ref a_sig, .ref a_stm, .ref a_chk, .ref a_net, .ref a_mkr, .ref a_nwords, .int (nI rd), .int fw, .int (nI ck)])), (a_sig, .inr (1, [.ref a_kind, .ref a_width, .ref a_rword, .ref a_sop, .ref a_sa, .ref a_sb, .ref a_sc, .int (nI n)])), (a_kind, .inl (cI, 14, .inl (nF Kd))), (a_width, .inl (cI, 14, .inl (nF Wd))), (a_stm, .inr (2, [.ref a_sort, .ref a_subject, .ref a_source, .int (nI ms), .int (nI ow), .ref a_elseSeen])), (a_sort, .inl (cI, 20, .inl (nF So))), (a_subject, .inl (cI, 20, .inl (nF Su))), (a_source, .inl (cI, 20, .inl (nF Sr))), (a_elseSeen, .inl (cZ, 4, .inl (nF Es)))]) (va_runV (As := [.int y]) (rest := []) ⟨hx, hb, hml, hown, hts⟩ (c_Sig_has l dC dI cI cZ a_sig a_kind a_width a_rword a_sop a_sa a_sb a_sc tt H.size n y (by omega)) (cwV 1 hts (gd_V in_tl (mw 326 rfl rfl) (mw 292 rfl rfl) (mw 293 rfl rfl) (mw 42 rfl rfl) (mw 294 rfl rfl)) rfl rfl rfl (by decide +kernel) ⟨Nat.le_of_ble_eq_true rfl, Nat.le_of_ble_eq_true rfl⟩) (k_preV hK hP hD hS hA hE [1] (by decide) rfl 1 1 rfl rfl) rfl rfl hl.1 rfl (lv_room (Nat.le_of_ble_eq_true rfl)) d_Desk_state_20 ⟨Nat.zero_le _, Nat.zero_le _⟩) hP hD hS hA [1] [0, 2, 3, 4, 5, 6, 7, 8] [0, 8, 1, 2, 3, 4, 5, 6, 7] rfl rfl (by decide) (by decide) (by decide) (fun _ => rfl) (fun r_23 u H locs hw hP hD hS => ?_)
      obtain rfl : (r_23 = nI (hs n y)) := hw
      have hP : va_P (dC, dI) classes [(a_desk, .inr (5, [.ref a_sig, .ref a_stm, .ref a_chk, .ref a_net, .ref a_mkr, .ref a_nwords, .int (nI rd), .int fw, .int (nI ck)])), (a_sig, .inr (1, [.ref a_kind, .ref a_width, .ref a_rword, .ref a_sop, .ref a_sa, .ref a_sb, .ref a_sc, .int (nI n)])), (a_kind, .inl (cI, 14, .inl (nF Kd))), (a_width, .inl (cI, 14, .inl (nF Wd))), (a_stm, .inr (2, [.ref a_sort, .ref a_subject, .ref a_source, .int (nI ms), .int (nI ow), .ref a_elseSeen])), (a_sort, .inl (cI, 20, .inl (nF So))), (a_subject, .inl (cI, 20, .inl (nF Su))), (a_source, .inl (cI, 20, .inl (nF Sr))), (a_elseSeen, .inl (cZ, 4, .inl (nF Es)))] H := hP
      have hD : va_D A [(a_desk, .inr (5, [.ref a_sig, .ref a_stm, .ref a_chk, .ref a_net, .ref a_mkr, .ref a_nwords, .int (nI rd), .int fw, .int (nI ck)])), (a_sig, .inr (1, [.ref a_kind, .ref a_width, .ref a_rword, .ref a_sop, .ref a_sa, .ref a_sb, .ref a_sc, .int (nI n)])), (a_kind, .inl (cI, 14, .inl (nF Kd))), (a_width, .inl (cI, 14, .inl (nF Wd))), (a_stm, .inr (2, [.ref a_sort, .ref a_subject, .ref a_source, .int (nI ms), .int (nI ow), .ref a_elseSeen])), (a_sort, .inl (cI, 20, .inl (nF So))), (a_subject, .inl (cI, 20, .inl (nF Su))), (a_source, .inl (cI, 20, .inl (nF Sr))), (a_elseSeen, .inl (cZ, 4, .inl (nF Es)))] := hD
      refine lv_if_eq (tgt := 38) hx hb d_Desk_state_23 (by decide) (fun c23 => ?_) (fun c23 => ?_)
      · skip
        have c23 : (hs n y) = 0 := (nI_eq0 (by have := hs_le n y; omega)).mp c23
        have hno : ¬ stOK q0 x y n Kd Wd := by
          rintro (h | h | h | h)
          · first | exact absurd c12 (by rw [if_pos ⟨h.2.1, h.2.2.1⟩]; decide) | (have := h.2.2.2; omega)
          · omega
          · omega
          · omega
        refine lv_iconst (v := (-1 : Int32)) hx hb d_Desk_state_38 rfl ?_
        refine lv_istore (lv' := [(4, .int (-1 : Int32)), (0, .ref a_desk), (1, .int q0), (2, .int x), (3, .int y)]) hx hb d_Desk_state_39 hl (by decide) rfl (fun ls hl => ?_)
        refine lv_goto (tgt := 127) hx hb d_Desk_state_41 (by decide) ?_
        refine lv_iload hx hb d_Desk_state_127 (lv_at hl 0 rfl) ?_
        refine lv_if_lt (tgt := 137) hx hb d_Desk_state_129 (by decide) (fun c129 => ?_) (fun c129 => ?_)
        · skip
          have c129 : (-1 : Int32).toInt < 0 := (ri_lt rfl rfl).mp c129
          refine lv_iload hx hb d_Desk_state_137 (lv_at hl 0 rfl) ?_
          exact W.iret (v := (-1 : Int32)) hx hb hr (fun t ht hW => ⟨⟨(-1 : Int32), (ms, So, Su, Sr, ow, Es, rd), rfl, ⟨(show ms ≤ 20 from by omega), b_So, b_Su, b_Sr, (show ow ≤ 4 from by omega), b_Es, (show rd ≤ 1 from by omega), (show (¬ stOK q0 x y n Kd Wd ∧ (-1) = (-1 : Int32) ∧ ms = ms ∧ So = So ∧ Su = Su ∧ Sr = Sr ∧ ow = ow ∧ Es = Es ∧ rd = rd) ∨ (stOK q0 x y n Kd Wd ∧ stN q0 ow Es ∧ (-2) = (-1 : Int32) ∧ ms = ms ∧ So = So ∧ Su = Su ∧ Sr = Sr ∧ ow = ow ∧ Es = Es ∧ rd = rd) ∨ (stOK q0 x y n Kd Wd ∧ ¬ stN q0 ow Es ∧ stF q0 ms ow ∧ (-3) = (-1 : Int32) ∧ ms = ms ∧ So = So ∧ Su = Su ∧ Sr = Sr ∧ ow = ow ∧ Es = Es ∧ rd = rd) ∨ (stOK q0 x y n Kd Wd ∧ ¬ stN q0 ow Es ∧ ¬ stF q0 ms ow ∧ nI (ms + 1) = (-1 : Int32) ∧ ms + 1 = ms ∧ upN So ms (ix q0) = So ∧ upN Su ms (if q0.toInt ≤ 1 then ix x else 0) = Su ∧ upN Sr ms (if q0.toInt = 0 then ix y else 0) = Sr ∧ (if q0.toInt = 1 then ow + 1 else if q0.toInt = 3 then ow - 1 else ow) = ow ∧ (if q0.toInt = 1 then upN Es ow 0 else if q0.toInt = 2 then upN Es (ow - 1) 1 else Es) = Es ∧ 0 = rd) from Or.inl ⟨hno, rfl, rfl, rfl, rfl, rfl, rfl, rfl, rfl⟩)⟩, by rw [ht]; exact hP, va_K.moved hW.alike hK, hD⟩, hS.F ht⟩) hS.2.2 d_Desk_state_139
        · skip
          have c129 : ¬ ((-1 : Int32).toInt < 0) := fun h => c129 ((ri_lt rfl rfl).mpr h)
          exact absurd c129 (by decide)
      · skip
        have c23 : ¬ ((hs n y) = 0) := fun h => c23 ((nI_eq0 (by have := hs_le n y; omega)).mpr h)
        have hs1 : hs n x = 1 ∧ (Kd (ix x) = 1 ∨ Kd (ix x) = 2) := Classical.byContradiction (fun h => c12 (if_neg h))
        have hs2 : hs n y = 1 := by have := hs_le n y; omega
        obtain ⟨X, eX, hXn, hXb⟩ := hs_of (n := n) (x := x) (by rw [hs1.1]; decide)
        obtain ⟨Y, eY, hYn, hYb⟩ := hs_of (n := n) (x := y) (by rw [hs2]; decide)
        rw [eX, eY] at hl
        have hok : stOK q0 x y n Kd Wd := Or.inl ⟨c1, hs1.1, hs1.2, hs2⟩
        have hqi : ix q0 = 0 := ix_ti c1
        have hnn : ¬ stN q0 ow Es := by unfold stN; omega
        refine lv_aload_n hx hb d_Desk_state_26 rfl (lv_at hl 0 rfl) ?_
        refine va_get (D := (dC, dI)) (ci := 5) (v := .ref a_stm) (C := R_Desk) (T := F_Desk) (N := 9) hx hb hts (wi i_Desk) hown hK hP 0 rfl rfl 1 (by decide) (hts _ (mt 243 rfl rfl)) (fun _ h9 => h9) rfl d_Desk_state_27 ?_
        refine lv_iload_n hx hb d_Desk_state_30 rfl (lv_at hl 2 rfl) ?_
        refine lv_iload_n hx hb d_Desk_state_31 rfl (lv_at hl 3 rfl) ?_
        refine k_i (wr := [(a_desk, .inr (5, [.ref a_sig, .ref a_stm, .ref a_chk, .ref a_net, .ref a_mkr, .ref a_nwords, .int (nI rd), .int fw, .int (nI ck)])), (a_sig, .inr (1, [.ref a_kind, .ref a_width, .ref a_rword, .ref a_sop, .ref a_sa, .ref a_sb, .ref a_sc, .int (nI n)])), (a_kind, .inl (cI, 14, .inl (nF Kd))), (a_width, .inl (cI, 14, .inl (nF Wd))), (a_elseSeen, .inl (cZ, 4, .inl (nF Es)))]) (w2 := fun (u : Nat × (Nat → Nat) × (Nat → Nat) × (Nat → Nat)) => [(a_desk, .inr (5, [.ref a_sig, .ref a_stm, .ref a_chk, .ref a_net, .ref a_mkr, .ref a_nwords, .int (nI rd), .int fw, .int (nI ck)])), (a_sig, .inr (1, [.ref a_kind, .ref a_width, .ref a_rword, .ref a_sop, .ref a_sa, .ref a_sb, .ref a_sc, .int (nI n)])), (a_kind, .inl (cI, 14, .inl (nF Kd))), (a_width, .inl (cI, 14, .inl (nF Wd))), (a_stm, .inr (2, [.ref a_sort, .ref a_subject, .ref a_source, .int (nI u.1), .int (nI ow), .ref a_elseSeen])), (a_sort, .inl (cI, 20, .inl (nF u.2.1))), (a_subject, .inl (cI, 20, .inl (nF u.2.2.1))), (a_source, .inl (cI, 20, .inl (nF u.2.2.2))), (a_elseSeen, .inl (cZ, 4, .inl (nF Es)))]) (va_runV (As := [.int (nI X), .int (nI Y)]) (rest := []) ⟨hx, hb, hml, hown, hts⟩ (c_Stm_addSet l dC dI cI cZ a_stm a_sort a_subject a_source a_elseSeen tt H.size ms ow So Su Sr X Y (by omega) (by omega) b_So b_Su b_Sr (by omega) (by omega)) (cwV 2 hts (gd_V in_tl (mw 327 rfl rfl) (mw 328 rfl rfl) (mw 329 rfl rfl) (mw 43 rfl rfl) (mw 330 rfl rfl)) rfl rfl rfl (by decide +kernel) ⟨Nat.le_of_ble_eq_true rfl, Nat.le_of_ble_eq_true rfl⟩) (k_preV hK hP hD hS hA hE [4, 5, 6, 7] (by decide) rfl 2 4 rfl rfl) rfl rfl hl.1 rfl (lv_room (Nat.le_of_ble_eq_true rfl)) d_Desk_state_32 ⟨Nat.zero_le _, Nat.zero_le _⟩) hP hD hS hA [4, 5, 6, 7] [0, 1, 2, 3, 8] [0, 1, 2, 3, 5, 6, 7, 8, 4] rfl rfl (by decide) (by decide) (by decide) (fun _ => rfl) (fun r_28 u H locs hw hP hD hS => ?_)
        obtain ⟨msv_24, Sov_25, Suv_26, Srv_27⟩ := u
        obtain ⟨b_msv_24, b_Sov_25, b_Suv_26, b_Srv_27, ha_32⟩ : (msv_24 ≤ 20) ∧ (∀ j, Sov_25 j < 4) ∧ (∀ j, Suv_26 j < 14) ∧ (∀ j, Srv_27 j < 14) ∧ ((ms = 20 ∧ (-3) = r_28 ∧ ms = msv_24 ∧ So = Sov_25 ∧ Su = Suv_26 ∧ Sr = Srv_27) ∨ (ms < 20 ∧ nI (ms + 1) = r_28 ∧ ms + 1 = msv_24 ∧ upN So ms 0 = Sov_25 ∧ upN Su ms X = Suv_26 ∧ upN Sr ms Y = Srv_27)) := hw
        have hP : va_P (dC, dI) classes [(a_desk, .inr (5, [.ref a_sig, .ref a_stm, .ref a_chk, .ref a_net, .ref a_mkr, .ref a_nwords, .int (nI rd), .int fw, .int (nI ck)])), (a_sig, .inr (1, [.ref a_kind, .ref a_width, .ref a_rword, .ref a_sop, .ref a_sa, .ref a_sb, .ref a_sc, .int (nI n)])), (a_kind, .inl (cI, 14, .inl (nF Kd))), (a_width, .inl (cI, 14, .inl (nF Wd))), (a_stm, .inr (2, [.ref a_sort, .ref a_subject, .ref a_source, .int (nI msv_24), .int (nI ow), .ref a_elseSeen])), (a_sort, .inl (cI, 20, .inl (nF Sov_25))), (a_subject, .inl (cI, 20, .inl (nF Suv_26))), (a_source, .inl (cI, 20, .inl (nF Srv_27))), (a_elseSeen, .inl (cZ, 4, .inl (nF Es)))] H := hP
        have hD : va_D A [(a_desk, .inr (5, [.ref a_sig, .ref a_stm, .ref a_chk, .ref a_net, .ref a_mkr, .ref a_nwords, .int (nI rd), .int fw, .int (nI ck)])), (a_sig, .inr (1, [.ref a_kind, .ref a_width, .ref a_rword, .ref a_sop, .ref a_sa, .ref a_sb, .ref a_sc, .int (nI n)])), (a_kind, .inl (cI, 14, .inl (nF Kd))), (a_width, .inl (cI, 14, .inl (nF Wd))), (a_stm, .inr (2, [.ref a_sort, .ref a_subject, .ref a_source, .int (nI msv_24), .int (nI ow), .ref a_elseSeen])), (a_sort, .inl (cI, 20, .inl (nF Sov_25))), (a_subject, .inl (cI, 20, .inl (nF Suv_26))), (a_source, .inl (cI, 20, .inl (nF Srv_27))), (a_elseSeen, .inl (cZ, 4, .inl (nF Es)))] := hD
        rcases ha_32 with ⟨h20, hr3, q1, q2, q3, q4⟩ | ⟨h20, hr3, q1, q2, q3, q4⟩ <;> subst hr3 <;> subst q1 <;> subst q2 <;> subst q3 <;> subst q4
        · skip
          have hP : va_P (dC, dI) classes [(a_desk, .inr (5, [.ref a_sig, .ref a_stm, .ref a_chk, .ref a_net, .ref a_mkr, .ref a_nwords, .int (nI rd), .int fw, .int (nI ck)])), (a_sig, .inr (1, [.ref a_kind, .ref a_width, .ref a_rword, .ref a_sop, .ref a_sa, .ref a_sb, .ref a_sc, .int (nI n)])), (a_kind, .inl (cI, 14, .inl (nF Kd))), (a_width, .inl (cI, 14, .inl (nF Wd))), (a_stm, .inr (2, [.ref a_sort, .ref a_subject, .ref a_source, .int (nI ms), .int (nI ow), .ref a_elseSeen])), (a_sort, .inl (cI, 20, .inl (nF So))), (a_subject, .inl (cI, 20, .inl (nF Su))), (a_source, .inl (cI, 20, .inl (nF Sr))), (a_elseSeen, .inl (cZ, 4, .inl (nF Es)))] H := hP
          have hD : va_D A [(a_desk, .inr (5, [.ref a_sig, .ref a_stm, .ref a_chk, .ref a_net, .ref a_mkr, .ref a_nwords, .int (nI rd), .int fw, .int (nI ck)])), (a_sig, .inr (1, [.ref a_kind, .ref a_width, .ref a_rword, .ref a_sop, .ref a_sa, .ref a_sb, .ref a_sc, .int (nI n)])), (a_kind, .inl (cI, 14, .inl (nF Kd))), (a_width, .inl (cI, 14, .inl (nF Wd))), (a_stm, .inr (2, [.ref a_sort, .ref a_subject, .ref a_source, .int (nI ms), .int (nI ow), .ref a_elseSeen])), (a_sort, .inl (cI, 20, .inl (nF So))), (a_subject, .inl (cI, 20, .inl (nF Su))), (a_source, .inl (cI, 20, .inl (nF Sr))), (a_elseSeen, .inl (cZ, 4, .inl (nF Es)))] := hD
          refine lv_goto (tgt := 39) hx hb d_Desk_state_35 (by decide) ?_
          refine lv_istore (lv' := [(4, .int (-3 : Int32)), (0, .ref a_desk), (1, .int q0), (2, .int (nI X)), (3, .int (nI Y))]) hx hb d_Desk_state_39 hl (by decide) rfl (fun ls hl => ?_)
          refine lv_goto (tgt := 127) hx hb d_Desk_state_41 (by decide) ?_
          refine lv_iload hx hb d_Desk_state_127 (lv_at hl 0 rfl) ?_
          refine lv_if_lt (tgt := 137) hx hb d_Desk_state_129 (by decide) (fun c129 => ?_) (fun c129 => ?_)
          · skip
            have c129 : (-3 : Int32).toInt < 0 := (ri_lt rfl rfl).mp c129
            refine lv_iload hx hb d_Desk_state_137 (lv_at hl 0 rfl) ?_
            exact W.iret (v := (-3 : Int32)) hx hb hr (fun t ht hW => ⟨⟨(-3 : Int32), (ms, So, Su, Sr, ow, Es, rd), rfl, ⟨(show ms ≤ 20 from by omega), b_Sov_25, b_Suv_26, b_Srv_27, (show ow ≤ 4 from by omega), b_Es, (show rd ≤ 1 from by omega), (show (¬ stOK q0 x y n Kd Wd ∧ (-1) = (-3 : Int32) ∧ ms = ms ∧ So = So ∧ Su = Su ∧ Sr = Sr ∧ ow = ow ∧ Es = Es ∧ rd = rd) ∨ (stOK q0 x y n Kd Wd ∧ stN q0 ow Es ∧ (-2) = (-3 : Int32) ∧ ms = ms ∧ So = So ∧ Su = Su ∧ Sr = Sr ∧ ow = ow ∧ Es = Es ∧ rd = rd) ∨ (stOK q0 x y n Kd Wd ∧ ¬ stN q0 ow Es ∧ stF q0 ms ow ∧ (-3) = (-3 : Int32) ∧ ms = ms ∧ So = So ∧ Su = Su ∧ Sr = Sr ∧ ow = ow ∧ Es = Es ∧ rd = rd) ∨ (stOK q0 x y n Kd Wd ∧ ¬ stN q0 ow Es ∧ ¬ stF q0 ms ow ∧ nI (ms + 1) = (-3 : Int32) ∧ ms + 1 = ms ∧ upN So ms (ix q0) = So ∧ upN Su ms (if q0.toInt ≤ 1 then ix x else 0) = Su ∧ upN Sr ms (if q0.toInt = 0 then ix y else 0) = Sr ∧ (if q0.toInt = 1 then ow + 1 else if q0.toInt = 3 then ow - 1 else ow) = ow ∧ (if q0.toInt = 1 then upN Es ow 0 else if q0.toInt = 2 then upN Es (ow - 1) 1 else Es) = Es ∧ 0 = rd) from Or.inr (Or.inr (Or.inl ⟨hok, hnn, Or.inl h20, rfl, rfl, rfl, rfl, rfl, rfl, rfl, rfl⟩)))⟩, by rw [ht]; exact hP, va_K.moved hW.alike hK, hD⟩, hS.F ht⟩) hS.2.2 d_Desk_state_139
          · skip
            have c129 : ¬ ((-3 : Int32).toInt < 0) := fun h => c129 ((ri_lt rfl rfl).mpr h)
            exact absurd c129 (by decide)
        · skip
          have hP : va_P (dC, dI) classes [(a_desk, .inr (5, [.ref a_sig, .ref a_stm, .ref a_chk, .ref a_net, .ref a_mkr, .ref a_nwords, .int (nI rd), .int fw, .int (nI ck)])), (a_sig, .inr (1, [.ref a_kind, .ref a_width, .ref a_rword, .ref a_sop, .ref a_sa, .ref a_sb, .ref a_sc, .int (nI n)])), (a_kind, .inl (cI, 14, .inl (nF Kd))), (a_width, .inl (cI, 14, .inl (nF Wd))), (a_stm, .inr (2, [.ref a_sort, .ref a_subject, .ref a_source, .int (nI (ms + 1)), .int (nI ow), .ref a_elseSeen])), (a_sort, .inl (cI, 20, .inl (nF (upN So ms 0)))), (a_subject, .inl (cI, 20, .inl (nF (upN Su ms X)))), (a_source, .inl (cI, 20, .inl (nF (upN Sr ms Y)))), (a_elseSeen, .inl (cZ, 4, .inl (nF Es)))] H := hP
          have hD : va_D A [(a_desk, .inr (5, [.ref a_sig, .ref a_stm, .ref a_chk, .ref a_net, .ref a_mkr, .ref a_nwords, .int (nI rd), .int fw, .int (nI ck)])), (a_sig, .inr (1, [.ref a_kind, .ref a_width, .ref a_rword, .ref a_sop, .ref a_sa, .ref a_sb, .ref a_sc, .int (nI n)])), (a_kind, .inl (cI, 14, .inl (nF Kd))), (a_width, .inl (cI, 14, .inl (nF Wd))), (a_stm, .inr (2, [.ref a_sort, .ref a_subject, .ref a_source, .int (nI (ms + 1)), .int (nI ow), .ref a_elseSeen])), (a_sort, .inl (cI, 20, .inl (nF (upN So ms 0)))), (a_subject, .inl (cI, 20, .inl (nF (upN Su ms X)))), (a_source, .inl (cI, 20, .inl (nF (upN Sr ms Y)))), (a_elseSeen, .inl (cZ, 4, .inl (nF Es)))] := hD
          refine lv_goto (tgt := 39) hx hb d_Desk_state_35 (by decide) ?_
          refine lv_istore (lv' := [(4, .int (nI (ms + 1))), (0, .ref a_desk), (1, .int q0), (2, .int (nI X)), (3, .int (nI Y))]) hx hb d_Desk_state_39 hl (by decide) rfl (fun ls hl => ?_)
          refine lv_goto (tgt := 127) hx hb d_Desk_state_41 (by decide) ?_
          refine lv_iload hx hb d_Desk_state_127 (lv_at hl 0 rfl) ?_
          refine lv_if_lt (tgt := 137) hx hb d_Desk_state_129 (by decide) (fun c129 => ?_) (fun c129 => ?_)
          · skip
            have c129 : False := (nI_lt0 (by omega)).mp c129
            exact absurd c129 (fun h => h)
          · skip
            have c129 : ¬ (False) := fun h => c129 ((nI_lt0 (by omega)).mpr h)
            refine lv_aload_n hx hb d_Desk_state_132 rfl (lv_at hl 1 rfl) ?_
            refine lv_iconst (v := nI 0) hx hb d_Desk_state_133 rfl ?_
            refine va_put (D := (dC, dI)) (ci := 5) (v := .int (nI 0)) (ty := .boolean) (C := R_Desk) (T := F_Desk) (N := 9) hx hb hts (wi i_Desk) t_Desk t_Desk_ok n_Desk hown hK hP hD hS 0 rfl rfl 6 (by decide) (hts _ (mt 248 rfl rfl)) (fun _ h9 => h9) rfl (by decide +kernel) (k_narZ (by omega)) (k_fitZ (by omega)) (Nat.le_of_ble_eq_true rfl) d_Desk_state_134 (fun H locs hP hD hS => ?_)
            have hP : va_P (dC, dI) classes [(a_desk, .inr (5, [.ref a_sig, .ref a_stm, .ref a_chk, .ref a_net, .ref a_mkr, .ref a_nwords, .int (nI 0), .int fw, .int (nI ck)])), (a_sig, .inr (1, [.ref a_kind, .ref a_width, .ref a_rword, .ref a_sop, .ref a_sa, .ref a_sb, .ref a_sc, .int (nI n)])), (a_kind, .inl (cI, 14, .inl (nF Kd))), (a_width, .inl (cI, 14, .inl (nF Wd))), (a_stm, .inr (2, [.ref a_sort, .ref a_subject, .ref a_source, .int (nI (ms + 1)), .int (nI ow), .ref a_elseSeen])), (a_sort, .inl (cI, 20, .inl (nF (upN So ms 0)))), (a_subject, .inl (cI, 20, .inl (nF (upN Su ms X)))), (a_source, .inl (cI, 20, .inl (nF (upN Sr ms Y)))), (a_elseSeen, .inl (cZ, 4, .inl (nF Es)))] H := hP
            have hD : va_D A [(a_desk, .inr (5, [.ref a_sig, .ref a_stm, .ref a_chk, .ref a_net, .ref a_mkr, .ref a_nwords, .int (nI 0), .int fw, .int (nI ck)])), (a_sig, .inr (1, [.ref a_kind, .ref a_width, .ref a_rword, .ref a_sop, .ref a_sa, .ref a_sb, .ref a_sc, .int (nI n)])), (a_kind, .inl (cI, 14, .inl (nF Kd))), (a_width, .inl (cI, 14, .inl (nF Wd))), (a_stm, .inr (2, [.ref a_sort, .ref a_subject, .ref a_source, .int (nI (ms + 1)), .int (nI ow), .ref a_elseSeen])), (a_sort, .inl (cI, 20, .inl (nF (upN So ms 0)))), (a_subject, .inl (cI, 20, .inl (nF (upN Su ms X)))), (a_source, .inl (cI, 20, .inl (nF (upN Sr ms Y)))), (a_elseSeen, .inl (cZ, 4, .inl (nF Es)))] := hD
            refine lv_iload hx hb d_Desk_state_137 (lv_at hl 0 rfl) ?_
            exact W.iret (v := nI (ms + 1)) hx hb hr (fun t ht hW => ⟨⟨nI (ms + 1), (ms + 1, upN So ms 0, upN Su ms X, upN Sr ms Y, ow, Es, 0), rfl, ⟨(show (ms + 1) ≤ 20 from by omega), b_Sov_25, b_Suv_26, b_Srv_27, (show ow ≤ 4 from by omega), b_Es, (show 0 ≤ 1 from by omega), (show (¬ stOK q0 x y n Kd Wd ∧ (-1) = (nI (ms + 1)) ∧ ms = (ms + 1) ∧ So = (upN So ms 0) ∧ Su = (upN Su ms X) ∧ Sr = (upN Sr ms Y) ∧ ow = ow ∧ Es = Es ∧ rd = 0) ∨ (stOK q0 x y n Kd Wd ∧ stN q0 ow Es ∧ (-2) = (nI (ms + 1)) ∧ ms = (ms + 1) ∧ So = (upN So ms 0) ∧ Su = (upN Su ms X) ∧ Sr = (upN Sr ms Y) ∧ ow = ow ∧ Es = Es ∧ rd = 0) ∨ (stOK q0 x y n Kd Wd ∧ ¬ stN q0 ow Es ∧ stF q0 ms ow ∧ (-3) = (nI (ms + 1)) ∧ ms = (ms + 1) ∧ So = (upN So ms 0) ∧ Su = (upN Su ms X) ∧ Sr = (upN Sr ms Y) ∧ ow = ow ∧ Es = Es ∧ rd = 0) ∨ (stOK q0 x y n Kd Wd ∧ ¬ stN q0 ow Es ∧ ¬ stF q0 ms ow ∧ nI (ms + 1) = (nI (ms + 1)) ∧ ms + 1 = (ms + 1) ∧ upN So ms (ix q0) = (upN So ms 0) ∧ upN Su ms (if q0.toInt ≤ 1 then ix x else 0) = (upN Su ms X) ∧ upN Sr ms (if q0.toInt = 0 then ix y else 0) = (upN Sr ms Y) ∧ (if q0.toInt = 1 then ow + 1 else if q0.toInt = 3 then ow - 1 else ow) = ow ∧ (if q0.toInt = 1 then upN Es ow 0 else if q0.toInt = 2 then upN Es (ow - 1) 1 else Es) = Es ∧ 0 = 0) from Or.inr (Or.inr (Or.inr ⟨hok, hnn, by unfold stF; omega, rfl, rfl, by rw [hqi], by rw [if_pos (by omega), ix_of eX hXb], by rw [if_pos c1, ix_of eY hYb], by rw [if_neg (by omega), if_neg (by omega)], by rw [if_neg (by omega), if_neg (by omega)], rfl⟩)))⟩, by rw [ht]; exact hP, va_K.moved hW.alike hK, hD⟩, hS.F ht⟩) hS.2.2 d_Desk_state_139
set_option maxHeartbeats 4000000 in
set_option maxRecDepth 100000 in
theorem c_Desk_clear (l : Launch) (dC : Nat → ClassId) (dI : Nat → Nat → Nat) (cI cZ : ClassId) (a_desk a_sig a_stm a_chk a_net a_mkr a_nwords a_kind a_width a_rword a_sop a_sa a_sb a_sc a_sort a_subject a_source a_elseSeen : Nat) (tt sz : Nat) (rd : Nat) (fw : Int32) (ck : Nat) (n : Nat) (ms : Nat) (ow : Nat) (x : Int32) (b_rd : rd ≤ 1) (b_n : n ≤ 14) (b_ms : ms ≤ 20) (b_ow : ow ≤ 4) : Met l y_Desk_clear w_Desk_clear ({ frames := 1, cells := 0, slots := 0, locals := 20 }) (va_Pc [.ref a_desk, .int x] (PW (dC, dI) classes [(cI, .int), (cZ, .boolean)] tt [(a_desk, .inr (5, [.ref a_sig, .ref a_stm, .ref a_chk, .ref a_net, .ref a_mkr, .ref a_nwords, .int (nI rd), .int fw, .int (nI ck)])), (a_sig, .inr (1, [.ref a_kind, .ref a_width, .ref a_rword, .ref a_sop, .ref a_sa, .ref a_sb, .ref a_sc, .int (nI n)])), (a_stm, .inr (2, [.ref a_sort, .ref a_subject, .ref a_source, .int (nI ms), .int (nI ow), .ref a_elseSeen]))] sz)) (va_Qi (fun (r : Int32) (u : Nat × Nat × Nat × Nat) => (u.1 ≤ 14) ∧ (u.2.1 ≤ 20) ∧ (u.2.2.1 ≤ 4) ∧ (u.2.2.2 ≤ 1) ∧ (((¬ x.toInt = 0 ∧ ¬ x.toInt = 1) ∧ (-1) = r ∧ n = u.1 ∧ ms = u.2.1 ∧ ow = u.2.2.1 ∧ rd = u.2.2.2) ∨ (x.toInt = 0 ∧ nI ms = r ∧ n = u.1 ∧ 0 = u.2.1 ∧ 0 = u.2.2.1 ∧ 0 = u.2.2.2) ∨ (x.toInt = 1 ∧ nI ms = r ∧ 0 = u.1 ∧ 0 = u.2.1 ∧ 0 = u.2.2.1 ∧ 0 = u.2.2.2))) (AT (dC, dI) classes [(cI, .int), (cZ, .boolean)] (va_A [(a_desk, .inr (5, [.ref a_sig, .ref a_stm, .ref a_chk, .ref a_net, .ref a_mkr, .ref a_nwords, .int (nI rd), .int fw, .int (nI ck)])), (a_sig, .inr (1, [.ref a_kind, .ref a_width, .ref a_rword, .ref a_sop, .ref a_sa, .ref a_sb, .ref a_sc, .int (nI n)])), (a_stm, .inr (2, [.ref a_sort, .ref a_subject, .ref a_source, .int (nI ms), .int (nI ow), .ref a_elseSeen]))] sz) (fun (u : Nat × Nat × Nat × Nat) => [(a_desk, .inr (5, [.ref a_sig, .ref a_stm, .ref a_chk, .ref a_net, .ref a_mkr, .ref a_nwords, .int (nI u.2.2.2), .int fw, .int (nI ck)])), (a_sig, .inr (1, [.ref a_kind, .ref a_width, .ref a_rword, .ref a_sop, .ref a_sa, .ref a_sb, .ref a_sc, .int (nI u.1)])), (a_stm, .inr (2, [.ref a_sort, .ref a_subject, .ref a_source, .int (nI u.2.1), .int (nI u.2.2.1), .ref a_elseSeen]))])) (va_A [(a_desk, .inr (5, [.ref a_sig, .ref a_stm, .ref a_chk, .ref a_net, .ref a_mkr, .ref a_nwords, .int (nI rd), .int fw, .int (nI ck)])), (a_sig, .inr (1, [.ref a_kind, .ref a_width, .ref a_rword, .ref a_sop, .ref a_sa, .ref a_sb, .ref a_sc, .int (nI n)])), (a_stm, .inr (2, [.ref a_sort, .ref a_subject, .ref a_source, .int (nI ms), .int (nI ow), .ref a_elseSeen]))] sz)) 0 0 (va_A [(a_desk, .inr (5, [.ref a_sig, .ref a_stm, .ref a_chk, .ref a_net, .ref a_mkr, .ref a_nwords, .int (nI rd), .int fw, .int (nI ck)])), (a_sig, .inr (1, [.ref a_kind, .ref a_width, .ref a_rword, .ref a_sop, .ref a_sa, .ref a_sb, .ref a_sc, .int (nI n)])), (a_stm, .inr (2, [.ref a_sort, .ref a_subject, .ref a_source, .int (nI ms), .int (nI ow), .ref a_elseSeen]))] sz) := by
  refine Met.ofW (cc := b_Desk_clear) (maxL := 3) (ret := (some .int)) (by decide) rfl ?_
  intro p e s m args below meth c s₁ B hml hv
  obtain ⟨rfl, hsz, hP, hK, hD0, hE⟩ := hv
  have hx := B.exec
  have hb := B.bytes
  have hr := B.returns
  have hts := atoms_spec (ws := w_Desk_clear) B.pre
  have hown : s.vm.findClass R_Desk = some m.cls := findClass_of_methodNamed B.named
  have hlocks := B.notSynchronized
  subst hsz
  have hD := hD0.self (sz := s.heap.size)
  generalize hAe : va_A [(a_desk, .inr (5, [.ref a_sig, .ref a_stm, .ref a_chk, .ref a_net, .ref a_mkr, .ref a_nwords, .int (nI rd), .int fw, .int (nI ck)])), (a_sig, .inr (1, [.ref a_kind, .ref a_width, .ref a_rword, .ref a_sop, .ref a_sa, .ref a_sb, .ref a_sc, .int (nI n)])), (a_stm, .inr (2, [.ref a_sort, .ref a_subject, .ref a_source, .int (nI ms), .int (nI ow), .ref a_elseSeen]))] s.heap.size = A at hD hE ⊢
  have hA : ∀ q : Nat, s.heap.size ≤ q → A q := fun q h => by rw [← hAe]; exact Or.inr h
  have hS : va_S A s.heap s.heap [] := va_S.rf
  have hP : va_P (dC, dI) classes [(a_desk, .inr (5, [.ref a_sig, .ref a_stm, .ref a_chk, .ref a_net, .ref a_mkr, .ref a_nwords, .int (nI rd), .int fw, .int (nI ck)])), (a_sig, .inr (1, [.ref a_kind, .ref a_width, .ref a_rword, .ref a_sop, .ref a_sa, .ref a_sb, .ref a_sc, .int (nI n)])), (a_stm, .inr (2, [.ref a_sort, .ref a_subject, .ref a_source, .int (nI ms), .int (nI ow), .ref a_elseSeen]))] s.heap := hP
  have hl := lv_entry ([.ref a_desk, .int x]) (n := 3) (Nat.le_of_ble_eq_true rfl)
  rw [lg_entry_eq]
  generalize (lg_sl ([.ref a_desk, .int x]) ++ List.replicate (3 - (lg_sl ([.ref a_desk, .int x])).length) Slot.unset).toArray = ls at hl ⊢
  have hl : lv_has ls 3 [(0, .ref a_desk), (1, .int x)] := hl
  refine lv_iload_n hx hb d_Desk_clear_0 rfl (lv_at hl 1 rfl) ?_
  refine lv_if_eq (tgt := 11) hx hb d_Desk_clear_1 (by decide) (fun c1 => ?_) (fun c1 => ?_)
  · skip
    have c1 : x.toInt = 0 := (ri_eq rfl rfl).mp c1
    refine lv_aload_n hx hb d_Desk_clear_11 rfl (lv_at hl 0 rfl) ?_
    refine va_get (D := (dC, dI)) (ci := 5) (v := .ref a_stm) (C := R_Desk) (T := F_Desk) (N := 9) hx hb hts (wi i_Desk) hown hK hP 0 rfl rfl 1 (by decide) (hts _ (mt 243 rfl rfl)) (fun _ h9 => h9) rfl d_Desk_clear_12 ?_
    refine va_get (D := (dC, dI)) (ci := 2) (v := .int (nI ms)) (C := R_Stm) (T := F_Stm) (N := 6) hx hb hts (wi i_Stm) hown hK hP 2 rfl rfl 3 (by decide) (hts _ (mt 121 rfl rfl)) (fun _ h9 => h9) rfl d_Desk_clear_15 ?_
    refine lv_istore_n (lv' := [(2, .int (nI ms)), (0, .ref a_desk), (1, .int x)]) hx hb d_Desk_clear_18 rfl hl (by decide) rfl (fun ls hl => ?_)
    refine lv_aload_n hx hb d_Desk_clear_19 rfl (lv_at hl 1 rfl) ?_
    refine va_get (D := (dC, dI)) (ci := 5) (v := .ref a_stm) (C := R_Desk) (T := F_Desk) (N := 9) hx hb hts (wi i_Desk) hown hK hP 0 rfl rfl 1 (by decide) (hts _ (mt 243 rfl rfl)) (fun _ h9 => h9) rfl d_Desk_clear_20 ?_
    refine k_v (wr := [(a_desk, .inr (5, [.ref a_sig, .ref a_stm, .ref a_chk, .ref a_net, .ref a_mkr, .ref a_nwords, .int (nI rd), .int fw, .int (nI ck)])), (a_sig, .inr (1, [.ref a_kind, .ref a_width, .ref a_rword, .ref a_sop, .ref a_sa, .ref a_sb, .ref a_sc, .int (nI n)]))]) (w2 := fun (u : Unit) => [(a_desk, .inr (5, [.ref a_sig, .ref a_stm, .ref a_chk, .ref a_net, .ref a_mkr, .ref a_nwords, .int (nI rd), .int fw, .int (nI ck)])), (a_sig, .inr (1, [.ref a_kind, .ref a_width, .ref a_rword, .ref a_sop, .ref a_sa, .ref a_sb, .ref a_sc, .int (nI n)])), (a_stm, .inr (2, [.ref a_sort, .ref a_subject, .ref a_source, .int (nI 0), .int (nI 0), .ref a_elseSeen]))]) (va_runV (As := []) (rest := []) ⟨hx, hb, hml, hown, hts⟩ (c_Stm_removeAll l dC dI cI cZ a_stm a_sort a_subject a_source a_elseSeen tt s.heap.size ms ow  (by omega) (by omega)) (cwV 0 hts (gd_V in_tl (mw 351 rfl rfl) (mw 352 rfl rfl) (mw 353 rfl rfl) (mw 43 rfl rfl) (mw 354 rfl rfl)) rfl rfl rfl (by decide +kernel) ⟨Nat.le_of_ble_eq_true rfl, Nat.le_of_ble_eq_true rfl⟩) (k_preV hK hP hD hS hA hE [2] (by decide) rfl 2 2 rfl rfl) rfl rfl hl.1 rfl (lv_room (Nat.le_of_ble_eq_true rfl)) d_Desk_clear_23 ⟨Nat.zero_le _, Nat.zero_le _⟩) hP hD hS hA [2] [0, 1] [0, 1, 2] rfl rfl (by decide) (by decide) (by decide) (fun _ => rfl) (fun u H locs hw hP hD hS => ?_)
    have hP : va_P (dC, dI) classes [(a_desk, .inr (5, [.ref a_sig, .ref a_stm, .ref a_chk, .ref a_net, .ref a_mkr, .ref a_nwords, .int (nI rd), .int fw, .int (nI ck)])), (a_sig, .inr (1, [.ref a_kind, .ref a_width, .ref a_rword, .ref a_sop, .ref a_sa, .ref a_sb, .ref a_sc, .int (nI n)])), (a_stm, .inr (2, [.ref a_sort, .ref a_subject, .ref a_source, .int (nI 0), .int (nI 0), .ref a_elseSeen]))] H := hP
    have hD : va_D A [(a_desk, .inr (5, [.ref a_sig, .ref a_stm, .ref a_chk, .ref a_net, .ref a_mkr, .ref a_nwords, .int (nI rd), .int fw, .int (nI ck)])), (a_sig, .inr (1, [.ref a_kind, .ref a_width, .ref a_rword, .ref a_sop, .ref a_sa, .ref a_sb, .ref a_sc, .int (nI n)])), (a_stm, .inr (2, [.ref a_sort, .ref a_subject, .ref a_source, .int (nI 0), .int (nI 0), .ref a_elseSeen]))] := hD
    refine lv_iload_n hx hb d_Desk_clear_26 rfl (lv_at hl 2 rfl) ?_
    refine lv_iconst (v := nI 1) hx hb d_Desk_clear_27 rfl ?_
    refine lv_icmp_ne (tgt := 39) hx hb d_Desk_clear_28 (by decide) (fun c28 => ?_) (fun c28 => ?_)
    · skip
      have c28 : ¬ (x.toInt = ((1 : Nat) : Int)) := fun h => c28 ((ri_eq rfl (nI_toInt (show _ < 2 ^ 31 by omega))).mpr h)
      refine lv_aload_n hx hb d_Desk_clear_39 rfl (lv_at hl 1 rfl) ?_
      refine lv_iconst (v := nI 0) hx hb d_Desk_clear_40 rfl ?_
      refine va_put (D := (dC, dI)) (ci := 5) (v := .int (nI 0)) (ty := .boolean) (C := R_Desk) (T := F_Desk) (N := 9) hx hb hts (wi i_Desk) t_Desk t_Desk_ok n_Desk hown hK hP hD hS 0 rfl rfl 6 (by decide) (hts _ (mt 248 rfl rfl)) (fun _ h9 => h9) rfl (by decide +kernel) (k_narZ (by omega)) (k_fitZ (by omega)) (Nat.le_of_ble_eq_true rfl) d_Desk_clear_41 (fun H locs hP hD hS => ?_)
      have hP : va_P (dC, dI) classes [(a_desk, .inr (5, [.ref a_sig, .ref a_stm, .ref a_chk, .ref a_net, .ref a_mkr, .ref a_nwords, .int (nI 0), .int fw, .int (nI ck)])), (a_sig, .inr (1, [.ref a_kind, .ref a_width, .ref a_rword, .ref a_sop, .ref a_sa, .ref a_sb, .ref a_sc, .int (nI n)])), (a_stm, .inr (2, [.ref a_sort, .ref a_subject, .ref a_source, .int (nI 0), .int (nI 0), .ref a_elseSeen]))] H := hP
      have hD : va_D A [(a_desk, .inr (5, [.ref a_sig, .ref a_stm, .ref a_chk, .ref a_net, .ref a_mkr, .ref a_nwords, .int (nI 0), .int fw, .int (nI ck)])), (a_sig, .inr (1, [.ref a_kind, .ref a_width, .ref a_rword, .ref a_sop, .ref a_sa, .ref a_sb, .ref a_sc, .int (nI n)])), (a_stm, .inr (2, [.ref a_sort, .ref a_subject, .ref a_source, .int (nI 0), .int (nI 0), .ref a_elseSeen]))] := hD
      refine lv_iload_n hx hb d_Desk_clear_44 rfl (lv_at hl 0 rfl) ?_
      exact W.iret (v := nI ms) hx hb hr (fun t ht hW => ⟨⟨nI ms, (n, 0, 0, 0), rfl, ⟨(show n ≤ 14 from by omega), (show 0 ≤ 20 from by omega), (show 0 ≤ 4 from by omega), (show 0 ≤ 1 from by omega), (show ((¬ x.toInt = 0 ∧ ¬ x.toInt = 1) ∧ (-1) = (nI ms) ∧ n = n ∧ ms = 0 ∧ ow = 0 ∧ rd = 0) ∨ (x.toInt = 0 ∧ nI ms = (nI ms) ∧ n = n ∧ 0 = 0 ∧ 0 = 0 ∧ 0 = 0) ∨ (x.toInt = 1 ∧ nI ms = (nI ms) ∧ 0 = n ∧ 0 = 0 ∧ 0 = 0 ∧ 0 = 0) from Or.inr (Or.inl ⟨c1, rfl, rfl, rfl, rfl, rfl⟩))⟩, by rw [ht]; exact hP, va_K.moved hW.alike hK, hD⟩, hS.F ht⟩) hS.2.2 d_Desk_clear_45
    · skip
      have c28 : x.toInt = ((1 : Nat) : Int) := (ri_eq rfl (nI_toInt (show _ < 2 ^ 31 by omega))).mp c28
      refine lv_aload_n hx hb d_Desk_clear_31 rfl (lv_at hl 1 rfl) ?_
      refine va_get (D := (dC, dI)) (ci := 5) (v := .ref a_sig) (C := R_Desk) (T := F_Desk) (N := 9) hx hb hts (wi i_Desk) hown hK hP 0 rfl rfl 0 (by decide) (hts _ (mt 242 rfl rfl)) (fun _ h9 => h9) rfl d_Desk_clear_32 ?_
      refine lv_iconst (v := nI 0) hx hb d_Desk_clear_35 rfl ?_
      refine va_put (D := (dC, dI)) (ci := 1) (v := .int (nI 0)) (ty := .int) (C := R_Sig) (T := F_Sig) (N := 8) hx hb hts (wi i_Sig) t_Sig t_Sig_ok n_Sig hown hK hP hD hS 1 rfl rfl 7 (by decide) (hts _ (mt 86 rfl rfl)) (fun _ h9 => h9) rfl (by decide +kernel) rfl rfl (Nat.le_of_ble_eq_true rfl) d_Desk_clear_36 (fun H locs hP hD hS => ?_)
      have hP : va_P (dC, dI) classes [(a_desk, .inr (5, [.ref a_sig, .ref a_stm, .ref a_chk, .ref a_net, .ref a_mkr, .ref a_nwords, .int (nI rd), .int fw, .int (nI ck)])), (a_sig, .inr (1, [.ref a_kind, .ref a_width, .ref a_rword, .ref a_sop, .ref a_sa, .ref a_sb, .ref a_sc, .int (nI 0)])), (a_stm, .inr (2, [.ref a_sort, .ref a_subject, .ref a_source, .int (nI 0), .int (nI 0), .ref a_elseSeen]))] H := hP
      have hD : va_D A [(a_desk, .inr (5, [.ref a_sig, .ref a_stm, .ref a_chk, .ref a_net, .ref a_mkr, .ref a_nwords, .int (nI rd), .int fw, .int (nI ck)])), (a_sig, .inr (1, [.ref a_kind, .ref a_width, .ref a_rword, .ref a_sop, .ref a_sa, .ref a_sb, .ref a_sc, .int (nI 0)])), (a_stm, .inr (2, [.ref a_sort, .ref a_subject, .ref a_source, .int (nI 0), .int (nI 0), .ref a_elseSeen]))] := hD
      refine lv_aload_n hx hb d_Desk_clear_39 rfl (lv_at hl 1 rfl) ?_
      refine lv_iconst (v := nI 0) hx hb d_Desk_clear_40 rfl ?_
      refine va_put (D := (dC, dI)) (ci := 5) (v := .int (nI 0)) (ty := .boolean) (C := R_Desk) (T := F_Desk) (N := 9) hx hb hts (wi i_Desk) t_Desk t_Desk_ok n_Desk hown hK hP hD hS 0 rfl rfl 6 (by decide) (hts _ (mt 248 rfl rfl)) (fun _ h9 => h9) rfl (by decide +kernel) (k_narZ (by omega)) (k_fitZ (by omega)) (Nat.le_of_ble_eq_true rfl) d_Desk_clear_41 (fun H locs hP hD hS => ?_)
      have hP : va_P (dC, dI) classes [(a_desk, .inr (5, [.ref a_sig, .ref a_stm, .ref a_chk, .ref a_net, .ref a_mkr, .ref a_nwords, .int (nI 0), .int fw, .int (nI ck)])), (a_sig, .inr (1, [.ref a_kind, .ref a_width, .ref a_rword, .ref a_sop, .ref a_sa, .ref a_sb, .ref a_sc, .int (nI 0)])), (a_stm, .inr (2, [.ref a_sort, .ref a_subject, .ref a_source, .int (nI 0), .int (nI 0), .ref a_elseSeen]))] H := hP
      have hD : va_D A [(a_desk, .inr (5, [.ref a_sig, .ref a_stm, .ref a_chk, .ref a_net, .ref a_mkr, .ref a_nwords, .int (nI 0), .int fw, .int (nI ck)])), (a_sig, .inr (1, [.ref a_kind, .ref a_width, .ref a_rword, .ref a_sop, .ref a_sa, .ref a_sb, .ref a_sc, .int (nI 0)])), (a_stm, .inr (2, [.ref a_sort, .ref a_subject, .ref a_source, .int (nI 0), .int (nI 0), .ref a_elseSeen]))] := hD
      refine lv_iload_n hx hb d_Desk_clear_44 rfl (lv_at hl 0 rfl) ?_
      exact W.iret (v := nI ms) hx hb hr (fun t ht hW => ⟨⟨nI ms, (0, 0, 0, 0), rfl, ⟨(show 0 ≤ 14 from by omega), (show 0 ≤ 20 from by omega), (show 0 ≤ 4 from by omega), (show 0 ≤ 1 from by omega), (show ((¬ x.toInt = 0 ∧ ¬ x.toInt = 1) ∧ (-1) = (nI ms) ∧ n = 0 ∧ ms = 0 ∧ ow = 0 ∧ rd = 0) ∨ (x.toInt = 0 ∧ nI ms = (nI ms) ∧ n = 0 ∧ 0 = 0 ∧ 0 = 0 ∧ 0 = 0) ∨ (x.toInt = 1 ∧ nI ms = (nI ms) ∧ 0 = 0 ∧ 0 = 0 ∧ 0 = 0 ∧ 0 = 0) from absurd c28 (by omega))⟩, by rw [ht]; exact hP, va_K.moved hW.alike hK, hD⟩, hS.F ht⟩) hS.2.2 d_Desk_clear_45
  · skip
    have c1 : ¬ (x.toInt = 0) := fun h => c1 ((ri_eq rfl rfl).mpr h)
    refine lv_iload_n hx hb d_Desk_clear_4 rfl (lv_at hl 1 rfl) ?_
    refine lv_iconst (v := nI 1) hx hb d_Desk_clear_5 rfl ?_
    refine lv_icmp_eq (tgt := 11) hx hb d_Desk_clear_6 (by decide) (fun c6 => ?_) (fun c6 => ?_)
    · skip
      have c6 : x.toInt = ((1 : Nat) : Int) := (ri_eq rfl (nI_toInt (show _ < 2 ^ 31 by omega))).mp c6
      refine lv_aload_n hx hb d_Desk_clear_11 rfl (lv_at hl 0 rfl) ?_
      refine va_get (D := (dC, dI)) (ci := 5) (v := .ref a_stm) (C := R_Desk) (T := F_Desk) (N := 9) hx hb hts (wi i_Desk) hown hK hP 0 rfl rfl 1 (by decide) (hts _ (mt 243 rfl rfl)) (fun _ h9 => h9) rfl d_Desk_clear_12 ?_
      refine va_get (D := (dC, dI)) (ci := 2) (v := .int (nI ms)) (C := R_Stm) (T := F_Stm) (N := 6) hx hb hts (wi i_Stm) hown hK hP 2 rfl rfl 3 (by decide) (hts _ (mt 121 rfl rfl)) (fun _ h9 => h9) rfl d_Desk_clear_15 ?_
      refine lv_istore_n (lv' := [(2, .int (nI ms)), (0, .ref a_desk), (1, .int x)]) hx hb d_Desk_clear_18 rfl hl (by decide) rfl (fun ls hl => ?_)
      refine lv_aload_n hx hb d_Desk_clear_19 rfl (lv_at hl 1 rfl) ?_
      refine va_get (D := (dC, dI)) (ci := 5) (v := .ref a_stm) (C := R_Desk) (T := F_Desk) (N := 9) hx hb hts (wi i_Desk) hown hK hP 0 rfl rfl 1 (by decide) (hts _ (mt 243 rfl rfl)) (fun _ h9 => h9) rfl d_Desk_clear_20 ?_
      refine k_v (wr := [(a_desk, .inr (5, [.ref a_sig, .ref a_stm, .ref a_chk, .ref a_net, .ref a_mkr, .ref a_nwords, .int (nI rd), .int fw, .int (nI ck)])), (a_sig, .inr (1, [.ref a_kind, .ref a_width, .ref a_rword, .ref a_sop, .ref a_sa, .ref a_sb, .ref a_sc, .int (nI n)]))]) (w2 := fun (u : Unit) => [(a_desk, .inr (5, [.ref a_sig, .ref a_stm, .ref a_chk, .ref a_net, .ref a_mkr, .ref a_nwords, .int (nI rd), .int fw, .int (nI ck)])), (a_sig, .inr (1, [.ref a_kind, .ref a_width, .ref a_rword, .ref a_sop, .ref a_sa, .ref a_sb, .ref a_sc, .int (nI n)])), (a_stm, .inr (2, [.ref a_sort, .ref a_subject, .ref a_source, .int (nI 0), .int (nI 0), .ref a_elseSeen]))]) (va_runV (As := []) (rest := []) ⟨hx, hb, hml, hown, hts⟩ (c_Stm_removeAll l dC dI cI cZ a_stm a_sort a_subject a_source a_elseSeen tt s.heap.size ms ow  (by omega) (by omega)) (cwV 0 hts (gd_V in_tl (mw 351 rfl rfl) (mw 352 rfl rfl) (mw 353 rfl rfl) (mw 43 rfl rfl) (mw 354 rfl rfl)) rfl rfl rfl (by decide +kernel) ⟨Nat.le_of_ble_eq_true rfl, Nat.le_of_ble_eq_true rfl⟩) (k_preV hK hP hD hS hA hE [2] (by decide) rfl 2 2 rfl rfl) rfl rfl hl.1 rfl (lv_room (Nat.le_of_ble_eq_true rfl)) d_Desk_clear_23 ⟨Nat.zero_le _, Nat.zero_le _⟩) hP hD hS hA [2] [0, 1] [0, 1, 2] rfl rfl (by decide) (by decide) (by decide) (fun _ => rfl) (fun u H locs hw hP hD hS => ?_)
      have hP : va_P (dC, dI) classes [(a_desk, .inr (5, [.ref a_sig, .ref a_stm, .ref a_chk, .ref a_net, .ref a_mkr, .ref a_nwords, .int (nI rd), .int fw, .int (nI ck)])), (a_sig, .inr (1, [.ref a_kind, .ref a_width, .ref a_rword, .ref a_sop, .ref a_sa, .ref a_sb, .ref a_sc, .int (nI n)])), (a_stm, .inr (2, [.ref a_sort, .ref a_subject, .ref a_source, .int (nI 0), .int (nI 0), .ref a_elseSeen]))] H := hP
      have hD : va_D A [(a_desk, .inr (5, [.ref a_sig, .ref a_stm, .ref a_chk, .ref a_net, .ref a_mkr, .ref a_nwords, .int (nI rd), .int fw, .int (nI ck)])), (a_sig, .inr (1, [.ref a_kind, .ref a_width, .ref a_rword, .ref a_sop, .ref a_sa, .ref a_sb, .ref a_sc, .int (nI n)])), (a_stm, .inr (2, [.ref a_sort, .ref a_subject, .ref a_source, .int (nI 0), .int (nI 0), .ref a_elseSeen]))] := hD
      refine lv_iload_n hx hb d_Desk_clear_26 rfl (lv_at hl 2 rfl) ?_
      refine lv_iconst (v := nI 1) hx hb d_Desk_clear_27 rfl ?_
      refine lv_icmp_ne (tgt := 39) hx hb d_Desk_clear_28 (by decide) (fun c28 => ?_) (fun c28 => ?_)
      · skip
        have c28 : ¬ (x.toInt = ((1 : Nat) : Int)) := fun h => c28 ((ri_eq rfl (nI_toInt (show _ < 2 ^ 31 by omega))).mpr h)
        refine lv_aload_n hx hb d_Desk_clear_39 rfl (lv_at hl 1 rfl) ?_
        refine lv_iconst (v := nI 0) hx hb d_Desk_clear_40 rfl ?_
        refine va_put (D := (dC, dI)) (ci := 5) (v := .int (nI 0)) (ty := .boolean) (C := R_Desk) (T := F_Desk) (N := 9) hx hb hts (wi i_Desk) t_Desk t_Desk_ok n_Desk hown hK hP hD hS 0 rfl rfl 6 (by decide) (hts _ (mt 248 rfl rfl)) (fun _ h9 => h9) rfl (by decide +kernel) (k_narZ (by omega)) (k_fitZ (by omega)) (Nat.le_of_ble_eq_true rfl) d_Desk_clear_41 (fun H locs hP hD hS => ?_)
        have hP : va_P (dC, dI) classes [(a_desk, .inr (5, [.ref a_sig, .ref a_stm, .ref a_chk, .ref a_net, .ref a_mkr, .ref a_nwords, .int (nI 0), .int fw, .int (nI ck)])), (a_sig, .inr (1, [.ref a_kind, .ref a_width, .ref a_rword, .ref a_sop, .ref a_sa, .ref a_sb, .ref a_sc, .int (nI n)])), (a_stm, .inr (2, [.ref a_sort, .ref a_subject, .ref a_source, .int (nI 0), .int (nI 0), .ref a_elseSeen]))] H := hP
        have hD : va_D A [(a_desk, .inr (5, [.ref a_sig, .ref a_stm, .ref a_chk, .ref a_net, .ref a_mkr, .ref a_nwords, .int (nI 0), .int fw, .int (nI ck)])), (a_sig, .inr (1, [.ref a_kind, .ref a_width, .ref a_rword, .ref a_sop, .ref a_sa, .ref a_sb, .ref a_sc, .int (nI n)])), (a_stm, .inr (2, [.ref a_sort, .ref a_subject, .ref a_source, .int (nI 0), .int (nI 0), .ref a_elseSeen]))] := hD
        refine lv_iload_n hx hb d_Desk_clear_44 rfl (lv_at hl 0 rfl) ?_
        exact W.iret (v := nI ms) hx hb hr (fun t ht hW => ⟨⟨nI ms, (n, 0, 0, 0), rfl, ⟨(show n ≤ 14 from by omega), (show 0 ≤ 20 from by omega), (show 0 ≤ 4 from by omega), (show 0 ≤ 1 from by omega), (show ((¬ x.toInt = 0 ∧ ¬ x.toInt = 1) ∧ (-1) = (nI ms) ∧ n = n ∧ ms = 0 ∧ ow = 0 ∧ rd = 0) ∨ (x.toInt = 0 ∧ nI ms = (nI ms) ∧ n = n ∧ 0 = 0 ∧ 0 = 0 ∧ 0 = 0) ∨ (x.toInt = 1 ∧ nI ms = (nI ms) ∧ 0 = n ∧ 0 = 0 ∧ 0 = 0 ∧ 0 = 0) from absurd c6 c28)⟩, by rw [ht]; exact hP, va_K.moved hW.alike hK, hD⟩, hS.F ht⟩) hS.2.2 d_Desk_clear_45
      · skip
        have c28 : x.toInt = ((1 : Nat) : Int) := (ri_eq rfl (nI_toInt (show _ < 2 ^ 31 by omega))).mp c28
        refine lv_aload_n hx hb d_Desk_clear_31 rfl (lv_at hl 1 rfl) ?_
        refine va_get (D := (dC, dI)) (ci := 5) (v := .ref a_sig) (C := R_Desk) (T := F_Desk) (N := 9) hx hb hts (wi i_Desk) hown hK hP 0 rfl rfl 0 (by decide) (hts _ (mt 242 rfl rfl)) (fun _ h9 => h9) rfl d_Desk_clear_32 ?_
        refine lv_iconst (v := nI 0) hx hb d_Desk_clear_35 rfl ?_
        refine va_put (D := (dC, dI)) (ci := 1) (v := .int (nI 0)) (ty := .int) (C := R_Sig) (T := F_Sig) (N := 8) hx hb hts (wi i_Sig) t_Sig t_Sig_ok n_Sig hown hK hP hD hS 1 rfl rfl 7 (by decide) (hts _ (mt 86 rfl rfl)) (fun _ h9 => h9) rfl (by decide +kernel) rfl rfl (Nat.le_of_ble_eq_true rfl) d_Desk_clear_36 (fun H locs hP hD hS => ?_)
        have hP : va_P (dC, dI) classes [(a_desk, .inr (5, [.ref a_sig, .ref a_stm, .ref a_chk, .ref a_net, .ref a_mkr, .ref a_nwords, .int (nI rd), .int fw, .int (nI ck)])), (a_sig, .inr (1, [.ref a_kind, .ref a_width, .ref a_rword, .ref a_sop, .ref a_sa, .ref a_sb, .ref a_sc, .int (nI 0)])), (a_stm, .inr (2, [.ref a_sort, .ref a_subject, .ref a_source, .int (nI 0), .int (nI 0), .ref a_elseSeen]))] H := hP
        have hD : va_D A [(a_desk, .inr (5, [.ref a_sig, .ref a_stm, .ref a_chk, .ref a_net, .ref a_mkr, .ref a_nwords, .int (nI rd), .int fw, .int (nI ck)])), (a_sig, .inr (1, [.ref a_kind, .ref a_width, .ref a_rword, .ref a_sop, .ref a_sa, .ref a_sb, .ref a_sc, .int (nI 0)])), (a_stm, .inr (2, [.ref a_sort, .ref a_subject, .ref a_source, .int (nI 0), .int (nI 0), .ref a_elseSeen]))] := hD
        refine lv_aload_n hx hb d_Desk_clear_39 rfl (lv_at hl 1 rfl) ?_
        refine lv_iconst (v := nI 0) hx hb d_Desk_clear_40 rfl ?_
        refine va_put (D := (dC, dI)) (ci := 5) (v := .int (nI 0)) (ty := .boolean) (C := R_Desk) (T := F_Desk) (N := 9) hx hb hts (wi i_Desk) t_Desk t_Desk_ok n_Desk hown hK hP hD hS 0 rfl rfl 6 (by decide) (hts _ (mt 248 rfl rfl)) (fun _ h9 => h9) rfl (by decide +kernel) (k_narZ (by omega)) (k_fitZ (by omega)) (Nat.le_of_ble_eq_true rfl) d_Desk_clear_41 (fun H locs hP hD hS => ?_)
        have hP : va_P (dC, dI) classes [(a_desk, .inr (5, [.ref a_sig, .ref a_stm, .ref a_chk, .ref a_net, .ref a_mkr, .ref a_nwords, .int (nI 0), .int fw, .int (nI ck)])), (a_sig, .inr (1, [.ref a_kind, .ref a_width, .ref a_rword, .ref a_sop, .ref a_sa, .ref a_sb, .ref a_sc, .int (nI 0)])), (a_stm, .inr (2, [.ref a_sort, .ref a_subject, .ref a_source, .int (nI 0), .int (nI 0), .ref a_elseSeen]))] H := hP
        have hD : va_D A [(a_desk, .inr (5, [.ref a_sig, .ref a_stm, .ref a_chk, .ref a_net, .ref a_mkr, .ref a_nwords, .int (nI 0), .int fw, .int (nI ck)])), (a_sig, .inr (1, [.ref a_kind, .ref a_width, .ref a_rword, .ref a_sop, .ref a_sa, .ref a_sb, .ref a_sc, .int (nI 0)])), (a_stm, .inr (2, [.ref a_sort, .ref a_subject, .ref a_source, .int (nI 0), .int (nI 0), .ref a_elseSeen]))] := hD
        refine lv_iload_n hx hb d_Desk_clear_44 rfl (lv_at hl 0 rfl) ?_
        exact W.iret (v := nI ms) hx hb hr (fun t ht hW => ⟨⟨nI ms, (0, 0, 0, 0), rfl, ⟨(show 0 ≤ 14 from by omega), (show 0 ≤ 20 from by omega), (show 0 ≤ 4 from by omega), (show 0 ≤ 1 from by omega), (show ((¬ x.toInt = 0 ∧ ¬ x.toInt = 1) ∧ (-1) = (nI ms) ∧ n = 0 ∧ ms = 0 ∧ ow = 0 ∧ rd = 0) ∨ (x.toInt = 0 ∧ nI ms = (nI ms) ∧ n = 0 ∧ 0 = 0 ∧ 0 = 0 ∧ 0 = 0) ∨ (x.toInt = 1 ∧ nI ms = (nI ms) ∧ 0 = 0 ∧ 0 = 0 ∧ 0 = 0 ∧ 0 = 0) from Or.inr (Or.inr ⟨c6, rfl, rfl, rfl, rfl, rfl⟩))⟩, by rw [ht]; exact hP, va_K.moved hW.alike hK, hD⟩, hS.F ht⟩) hS.2.2 d_Desk_clear_45
    · skip
      have c6 : ¬ (x.toInt = ((1 : Nat) : Int)) := fun h => c6 ((ri_eq rfl (nI_toInt (show _ < 2 ^ 31 by omega))).mpr h)
      refine lv_iconst (v := (-1 : Int32)) hx hb d_Desk_clear_9 rfl ?_
      exact W.iret (v := (-1 : Int32)) hx hb hr (fun t ht hW => ⟨⟨(-1 : Int32), (n, ms, ow, rd), rfl, ⟨(show n ≤ 14 from by omega), (show ms ≤ 20 from by omega), (show ow ≤ 4 from by omega), (show rd ≤ 1 from by omega), (show ((¬ x.toInt = 0 ∧ ¬ x.toInt = 1) ∧ (-1) = (-1 : Int32) ∧ n = n ∧ ms = ms ∧ ow = ow ∧ rd = rd) ∨ (x.toInt = 0 ∧ nI ms = (-1 : Int32) ∧ n = n ∧ 0 = ms ∧ 0 = ow ∧ 0 = rd) ∨ (x.toInt = 1 ∧ nI ms = (-1 : Int32) ∧ 0 = n ∧ 0 = ms ∧ 0 = ow ∧ 0 = rd) from Or.inl ⟨⟨c1, c6⟩, rfl, rfl, rfl, rfl, rfl⟩)⟩, by rw [ht]; exact hP, va_K.moved hW.alike hK, hD⟩, hS.F ht⟩) hS.2.2 d_Desk_clear_10
set_option maxHeartbeats 4000000 in
set_option maxRecDepth 100000 in
theorem c_Desk_where (l : Launch) (dC : Nat → ClassId) (dI : Nat → Nat → Nat) (cI cZ : ClassId) (a_desk a_sig a_stm a_chk a_net a_mkr a_nwords : Nat) (tt sz : Nat) (rd : Nat) (fw : Int32) (ck : Nat) (b_rd : rd ≤ 1) : Met l y_Desk_where w_Desk_where ({ frames := 0, cells := 0, slots := 0, locals := 0 }) (va_Pc [.ref a_desk] (PW (dC, dI) classes [(cI, .int), (cZ, .boolean)] tt [(a_desk, .inr (5, [.ref a_sig, .ref a_stm, .ref a_chk, .ref a_net, .ref a_mkr, .ref a_nwords, .int (nI rd), .int fw, .int (nI ck)]))] sz)) (va_Qi (fun (r : Int32) (u : Unit) => (r = fw)) (AT (dC, dI) classes [(cI, .int), (cZ, .boolean)] (va_A [(a_desk, .inr (5, [.ref a_sig, .ref a_stm, .ref a_chk, .ref a_net, .ref a_mkr, .ref a_nwords, .int (nI rd), .int fw, .int (nI ck)]))] sz) (fun (u : Unit) => [(a_desk, .inr (5, [.ref a_sig, .ref a_stm, .ref a_chk, .ref a_net, .ref a_mkr, .ref a_nwords, .int (nI rd), .int fw, .int (nI ck)]))])) (va_A [(a_desk, .inr (5, [.ref a_sig, .ref a_stm, .ref a_chk, .ref a_net, .ref a_mkr, .ref a_nwords, .int (nI rd), .int fw, .int (nI ck)]))] sz)) 0 0 (va_A [(a_desk, .inr (5, [.ref a_sig, .ref a_stm, .ref a_chk, .ref a_net, .ref a_mkr, .ref a_nwords, .int (nI rd), .int fw, .int (nI ck)]))] sz) := by
  refine Met.ofW (cc := b_Desk_where) (maxL := 1) (ret := (some .int)) (by decide) rfl ?_
  intro p e s m args below meth c s₁ B hml hv
  obtain ⟨rfl, hsz, hP, hK, hD0, hE⟩ := hv
  have hx := B.exec
  have hb := B.bytes
  have hr := B.returns
  have hts := atoms_spec (ws := w_Desk_where) B.pre
  have hown : s.vm.findClass R_Desk = some m.cls := findClass_of_methodNamed B.named
  have hlocks := B.notSynchronized
  subst hsz
  have hD := hD0.self (sz := s.heap.size)
  generalize hAe : va_A [(a_desk, .inr (5, [.ref a_sig, .ref a_stm, .ref a_chk, .ref a_net, .ref a_mkr, .ref a_nwords, .int (nI rd), .int fw, .int (nI ck)]))] s.heap.size = A at hD hE ⊢
  have hA : ∀ q : Nat, s.heap.size ≤ q → A q := fun q h => by rw [← hAe]; exact Or.inr h
  have hS : va_S A s.heap s.heap [] := va_S.rf
  have hP : va_P (dC, dI) classes [(a_desk, .inr (5, [.ref a_sig, .ref a_stm, .ref a_chk, .ref a_net, .ref a_mkr, .ref a_nwords, .int (nI rd), .int fw, .int (nI ck)]))] s.heap := hP
  have hl := lv_entry ([.ref a_desk]) (n := 1) (Nat.le_of_ble_eq_true rfl)
  rw [lg_entry_eq]
  generalize (lg_sl ([.ref a_desk]) ++ List.replicate (1 - (lg_sl ([.ref a_desk])).length) Slot.unset).toArray = ls at hl ⊢
  have hl : lv_has ls 1 [(0, .ref a_desk)] := hl
  refine lv_aload_n hx hb d_Desk_where_0 rfl (lv_at hl 0 rfl) ?_
  refine va_get (D := (dC, dI)) (ci := 5) (v := .int fw) (C := R_Desk) (T := F_Desk) (N := 9) hx hb hts (wi i_Desk) hown hK hP 0 rfl rfl 7 (by decide) (hts _ (mt 249 rfl rfl)) (fun _ h9 => h9) rfl d_Desk_where_1 ?_
  exact W.iret (v := fw) hx hb hr (fun t ht hW => ⟨⟨fw, (), rfl, rfl, by rw [ht]; exact hP, va_K.moved hW.alike hK, hD⟩, hS.F ht⟩) hS.2.2 d_Desk_where_4
set_option maxHeartbeats 4000000 in
set_option maxRecDepth 100000 in
theorem c_Desk_input (l : Launch) (dC : Nat → ClassId) (dI : Nat → Nat → Nat) (cI cZ : ClassId) (a_desk a_sig a_stm a_chk a_net a_mkr a_nwords a_kind a_width a_rword a_sop a_sa a_sb a_sc a_pairs a_depths a_values a_slots : Nat) (tt sz : Nat) (rd : Nat) (fw : Int32) (ck : Nat) (n : Nat) (Kd : Nat → Nat) (Wd : Nat → Nat) (g : Nat) (gd : Nat) (st : Nat) (Vv : Nat → Nat) (x : Int32) (y : Int32) (b_rd : rd ≤ 1) (b_n : n ≤ 14) (b_Kd : ∀ j, Kd j < 4) (b_Wd : ∀ j, Wd j < 9) (b_g : g ≤ 1280) (b_gd : gd < 1400) (b_st : st ≤ 1) (b_Vv : ∀ j, Vv j < 2) : Met l y_Desk_input w_Desk_input ({ frames := 1, cells := 0, slots := 0, locals := 24 }) (va_Pc [.ref a_desk, .int x, .int y] (PW (dC, dI) classes [(cI, .int), (cZ, .boolean)] tt [(a_desk, .inr (5, [.ref a_sig, .ref a_stm, .ref a_chk, .ref a_net, .ref a_mkr, .ref a_nwords, .int (nI rd), .int fw, .int (nI ck)])), (a_sig, .inr (1, [.ref a_kind, .ref a_width, .ref a_rword, .ref a_sop, .ref a_sa, .ref a_sb, .ref a_sc, .int (nI n)])), (a_kind, .inl (cI, 14, .inl (nF Kd))), (a_width, .inl (cI, 14, .inl (nF Wd))), (a_net, .inr (0, [.int (nI g), .int (nI gd), .ref a_pairs, .ref a_depths, .ref a_values, .ref a_slots, .int (nI st)])), (a_values, .inl (cI, 1393, .inl (nF Vv)))] sz)) (va_Qi (fun (r : Int32) (u : Nat × (Nat → Nat)) => (u.1 ≤ 1) ∧ (∀ j, u.2 j < 2) ∧ ((¬ (rd = 1 ∧ hs n x = 1 ∧ Kd (ix x) = 0) ∧ (-2) = r ∧ st = u.1 ∧ Vv = u.2) ∨ ((rd = 1 ∧ hs n x = 1 ∧ Kd (ix x) = 0) ∧ nI (lowb y (Wd (ix x))) = r ∧ 0 = u.1 ∧ putW Vv (ix x) (lowb y (Wd (ix x))) 8 = u.2))) (AT (dC, dI) classes [(cI, .int), (cZ, .boolean)] (va_A [(a_desk, .inr (5, [.ref a_sig, .ref a_stm, .ref a_chk, .ref a_net, .ref a_mkr, .ref a_nwords, .int (nI rd), .int fw, .int (nI ck)])), (a_sig, .inr (1, [.ref a_kind, .ref a_width, .ref a_rword, .ref a_sop, .ref a_sa, .ref a_sb, .ref a_sc, .int (nI n)])), (a_kind, .inl (cI, 14, .inl (nF Kd))), (a_width, .inl (cI, 14, .inl (nF Wd))), (a_net, .inr (0, [.int (nI g), .int (nI gd), .ref a_pairs, .ref a_depths, .ref a_values, .ref a_slots, .int (nI st)])), (a_values, .inl (cI, 1393, .inl (nF Vv)))] sz) (fun (u : Nat × (Nat → Nat)) => [(a_desk, .inr (5, [.ref a_sig, .ref a_stm, .ref a_chk, .ref a_net, .ref a_mkr, .ref a_nwords, .int (nI rd), .int fw, .int (nI ck)])), (a_sig, .inr (1, [.ref a_kind, .ref a_width, .ref a_rword, .ref a_sop, .ref a_sa, .ref a_sb, .ref a_sc, .int (nI n)])), (a_kind, .inl (cI, 14, .inl (nF Kd))), (a_width, .inl (cI, 14, .inl (nF Wd))), (a_net, .inr (0, [.int (nI g), .int (nI gd), .ref a_pairs, .ref a_depths, .ref a_values, .ref a_slots, .int (nI u.1)])), (a_values, .inl (cI, 1393, .inl (nF u.2)))])) (va_A [(a_desk, .inr (5, [.ref a_sig, .ref a_stm, .ref a_chk, .ref a_net, .ref a_mkr, .ref a_nwords, .int (nI rd), .int fw, .int (nI ck)])), (a_sig, .inr (1, [.ref a_kind, .ref a_width, .ref a_rword, .ref a_sop, .ref a_sa, .ref a_sb, .ref a_sc, .int (nI n)])), (a_kind, .inl (cI, 14, .inl (nF Kd))), (a_width, .inl (cI, 14, .inl (nF Wd))), (a_net, .inr (0, [.int (nI g), .int (nI gd), .ref a_pairs, .ref a_depths, .ref a_values, .ref a_slots, .int (nI st)])), (a_values, .inl (cI, 1393, .inl (nF Vv)))] sz)) 0 0 (va_A [(a_desk, .inr (5, [.ref a_sig, .ref a_stm, .ref a_chk, .ref a_net, .ref a_mkr, .ref a_nwords, .int (nI rd), .int fw, .int (nI ck)])), (a_sig, .inr (1, [.ref a_kind, .ref a_width, .ref a_rword, .ref a_sop, .ref a_sa, .ref a_sb, .ref a_sc, .int (nI n)])), (a_kind, .inl (cI, 14, .inl (nF Kd))), (a_width, .inl (cI, 14, .inl (nF Wd))), (a_net, .inr (0, [.int (nI g), .int (nI gd), .ref a_pairs, .ref a_depths, .ref a_values, .ref a_slots, .int (nI st)])), (a_values, .inl (cI, 1393, .inl (nF Vv)))] sz) := by
  refine Met.ofW (cc := b_Desk_input) (maxL := 4) (ret := (some .int)) (by decide) rfl ?_
  intro p e s m args below meth c s₁ B hml hv
  obtain ⟨rfl, hsz, hP, hK, hD0, hE⟩ := hv
  have hx := B.exec
  have hb := B.bytes
  have hr := B.returns
  have hts := atoms_spec (ws := w_Desk_input) B.pre
  have hown : s.vm.findClass R_Desk = some m.cls := findClass_of_methodNamed B.named
  have hlocks := B.notSynchronized
  subst hsz
  have hD := hD0.self (sz := s.heap.size)
  generalize hAe : va_A [(a_desk, .inr (5, [.ref a_sig, .ref a_stm, .ref a_chk, .ref a_net, .ref a_mkr, .ref a_nwords, .int (nI rd), .int fw, .int (nI ck)])), (a_sig, .inr (1, [.ref a_kind, .ref a_width, .ref a_rword, .ref a_sop, .ref a_sa, .ref a_sb, .ref a_sc, .int (nI n)])), (a_kind, .inl (cI, 14, .inl (nF Kd))), (a_width, .inl (cI, 14, .inl (nF Wd))), (a_net, .inr (0, [.int (nI g), .int (nI gd), .ref a_pairs, .ref a_depths, .ref a_values, .ref a_slots, .int (nI st)])), (a_values, .inl (cI, 1393, .inl (nF Vv)))] s.heap.size = A at hD hE ⊢
  have hA : ∀ q : Nat, s.heap.size ≤ q → A q := fun q h => by rw [← hAe]; exact Or.inr h
  have hS : va_S A s.heap s.heap [] := va_S.rf
  have hP : va_P (dC, dI) classes [(a_desk, .inr (5, [.ref a_sig, .ref a_stm, .ref a_chk, .ref a_net, .ref a_mkr, .ref a_nwords, .int (nI rd), .int fw, .int (nI ck)])), (a_sig, .inr (1, [.ref a_kind, .ref a_width, .ref a_rword, .ref a_sop, .ref a_sa, .ref a_sb, .ref a_sc, .int (nI n)])), (a_kind, .inl (cI, 14, .inl (nF Kd))), (a_width, .inl (cI, 14, .inl (nF Wd))), (a_net, .inr (0, [.int (nI g), .int (nI gd), .ref a_pairs, .ref a_depths, .ref a_values, .ref a_slots, .int (nI st)])), (a_values, .inl (cI, 1393, .inl (nF Vv)))] s.heap := hP
  have hl := lv_entry ([.ref a_desk, .int x, .int y]) (n := 4) (Nat.le_of_ble_eq_true rfl)
  rw [lg_entry_eq]
  generalize (lg_sl ([.ref a_desk, .int x, .int y]) ++ List.replicate (4 - (lg_sl ([.ref a_desk, .int x, .int y])).length) Slot.unset).toArray = ls at hl ⊢
  have hl : lv_has ls 4 [(0, .ref a_desk), (1, .int x), (2, .int y)] := hl
  refine lv_aload_n hx hb d_Desk_input_0 rfl (lv_at hl 0 rfl) ?_
  refine va_get (D := (dC, dI)) (ci := 5) (v := .int (nI rd)) (C := R_Desk) (T := F_Desk) (N := 9) hx hb hts (wi i_Desk) hown hK hP 0 rfl rfl 6 (by decide) (hts _ (mt 248 rfl rfl)) (fun _ h9 => h9) rfl d_Desk_input_1 ?_
  refine lv_if_eq (tgt := 30) hx hb d_Desk_input_4 (by decide) (fun c4 => ?_) (fun c4 => ?_)
  · skip
    have c4 : rd = 0 := (nI_eq0 (by omega)).mp c4
    have hno : ¬ (rd = 1 ∧ hs n x = 1 ∧ Kd (ix x) = 0) := by first | omega | (intro h; rw [ix_of eX hXb] at h; exact c27 h.2.2)
    refine lv_bipush (v := (-2 : Int32)) hx hb d_Desk_input_30 rfl ?_
    exact W.iret (v := (-2 : Int32)) hx hb hr (fun t ht hW => ⟨⟨(-2 : Int32), (st, Vv), rfl, ⟨(show st ≤ 1 from by omega), b_Vv, (show (¬ (rd = 1 ∧ hs n x = 1 ∧ Kd (ix x) = 0) ∧ (-2) = (-2 : Int32) ∧ st = st ∧ Vv = Vv) ∨ ((rd = 1 ∧ hs n x = 1 ∧ Kd (ix x) = 0) ∧ nI (lowb y (Wd (ix x))) = (-2 : Int32) ∧ 0 = st ∧ putW Vv (ix x) (lowb y (Wd (ix x))) 8 = Vv) from Or.inl ⟨hno, rfl, rfl, rfl⟩)⟩, by rw [ht]; exact hP, va_K.moved hW.alike hK, hD⟩, hS.F ht⟩) hS.2.2 d_Desk_input_32
  · skip
    have c4 : ¬ (rd = 0) := fun h => c4 ((nI_eq0 (by omega)).mpr h)
    refine lv_aload_n hx hb d_Desk_input_7 rfl (lv_at hl 0 rfl) ?_
    refine va_get (D := (dC, dI)) (ci := 5) (v := .ref a_sig) (C := R_Desk) (T := F_Desk) (N := 9) hx hb hts (wi i_Desk) hown hK hP 0 rfl rfl 0 (by decide) (hts _ (mt 242 rfl rfl)) (fun _ h9 => h9) rfl d_Desk_input_8 ?_
    refine lv_iload_n hx hb d_Desk_input_11 rfl (lv_at hl 1 rfl) ?_
    refine k_i (wr := [(a_desk, .inr (5, [.ref a_sig, .ref a_stm, .ref a_chk, .ref a_net, .ref a_mkr, .ref a_nwords, .int (nI rd), .int fw, .int (nI ck)])), (a_kind, .inl (cI, 14, .inl (nF Kd))), (a_width, .inl (cI, 14, .inl (nF Wd))), (a_net, .inr (0, [.int (nI g), .int (nI gd), .ref a_pairs, .ref a_depths, .ref a_values, .ref a_slots, .int (nI st)])), (a_values, .inl (cI, 1393, .inl (nF Vv)))]) (w2 := fun (u : Unit) => [(a_desk, .inr (5, [.ref a_sig, .ref a_stm, .ref a_chk, .ref a_net, .ref a_mkr, .ref a_nwords, .int (nI rd), .int fw, .int (nI ck)])), (a_sig, .inr (1, [.ref a_kind, .ref a_width, .ref a_rword, .ref a_sop, .ref a_sa, .ref a_sb, .ref a_sc, .int (nI n)])), (a_kind, .inl (cI, 14, .inl (nF Kd))), (a_width, .inl (cI, 14, .inl (nF Wd))), (a_net, .inr (0, [.int (nI g), .int (nI gd), .ref a_pairs, .ref a_depths, .ref a_values, .ref a_slots, .int (nI st)])), (a_values, .inl (cI, 1393, .inl (nF Vv)))]) (va_runV (As := [.int x]) (rest := []) ⟨hx, hb, hml, hown, hts⟩ (c_Sig_has l dC dI cI cZ a_sig a_kind a_width a_rword a_sop a_sa a_sb a_sc tt s.heap.size n x (by omega)) (cwV 1 hts (gd_V in_tl (mw 326 rfl rfl) (mw 292 rfl rfl) (mw 293 rfl rfl) (mw 42 rfl rfl) (mw 294 rfl rfl)) rfl rfl rfl (by decide +kernel) ⟨Nat.le_of_ble_eq_true rfl, Nat.le_of_ble_eq_true rfl⟩) (k_preV hK hP hD hS hA hE [1] (by decide) rfl 1 1 rfl rfl) rfl rfl hl.1 rfl (lv_room (Nat.le_of_ble_eq_true rfl)) d_Desk_input_12 ⟨Nat.zero_le _, Nat.zero_le _⟩) hP hD hS hA [1] [0, 2, 3, 4, 5] [0, 5, 1, 2, 3, 4] rfl rfl (by decide) (by decide) (by decide) (fun _ => rfl) (fun r_1 u H locs hw hP hD hS => ?_)
    obtain rfl : (r_1 = nI (hs n x)) := hw
    have hP : va_P (dC, dI) classes [(a_desk, .inr (5, [.ref a_sig, .ref a_stm, .ref a_chk, .ref a_net, .ref a_mkr, .ref a_nwords, .int (nI rd), .int fw, .int (nI ck)])), (a_sig, .inr (1, [.ref a_kind, .ref a_width, .ref a_rword, .ref a_sop, .ref a_sa, .ref a_sb, .ref a_sc, .int (nI n)])), (a_kind, .inl (cI, 14, .inl (nF Kd))), (a_width, .inl (cI, 14, .inl (nF Wd))), (a_net, .inr (0, [.int (nI g), .int (nI gd), .ref a_pairs, .ref a_depths, .ref a_values, .ref a_slots, .int (nI st)])), (a_values, .inl (cI, 1393, .inl (nF Vv)))] H := hP
    have hD : va_D A [(a_desk, .inr (5, [.ref a_sig, .ref a_stm, .ref a_chk, .ref a_net, .ref a_mkr, .ref a_nwords, .int (nI rd), .int fw, .int (nI ck)])), (a_sig, .inr (1, [.ref a_kind, .ref a_width, .ref a_rword, .ref a_sop, .ref a_sa, .ref a_sb, .ref a_sc, .int (nI n)])), (a_kind, .inl (cI, 14, .inl (nF Kd))), (a_width, .inl (cI, 14, .inl (nF Wd))), (a_net, .inr (0, [.int (nI g), .int (nI gd), .ref a_pairs, .ref a_depths, .ref a_values, .ref a_slots, .int (nI st)])), (a_values, .inl (cI, 1393, .inl (nF Vv)))] := hD
    refine lv_if_eq (tgt := 30) hx hb d_Desk_input_15 (by decide) (fun c15 => ?_) (fun c15 => ?_)
    · skip
      have c15 : (hs n x) = 0 := (nI_eq0 (by have := hs_le n x; omega)).mp c15
      have hno : ¬ (rd = 1 ∧ hs n x = 1 ∧ Kd (ix x) = 0) := by first | omega | (intro h; rw [ix_of eX hXb] at h; exact c27 h.2.2)
      refine lv_bipush (v := (-2 : Int32)) hx hb d_Desk_input_30 rfl ?_
      exact W.iret (v := (-2 : Int32)) hx hb hr (fun t ht hW => ⟨⟨(-2 : Int32), (st, Vv), rfl, ⟨(show st ≤ 1 from by omega), b_Vv, (show (¬ (rd = 1 ∧ hs n x = 1 ∧ Kd (ix x) = 0) ∧ (-2) = (-2 : Int32) ∧ st = st ∧ Vv = Vv) ∨ ((rd = 1 ∧ hs n x = 1 ∧ Kd (ix x) = 0) ∧ nI (lowb y (Wd (ix x))) = (-2 : Int32) ∧ 0 = st ∧ putW Vv (ix x) (lowb y (Wd (ix x))) 8 = Vv) from Or.inl ⟨hno, rfl, rfl, rfl⟩)⟩, by rw [ht]; exact hP, va_K.moved hW.alike hK, hD⟩, hS.F ht⟩) hS.2.2 d_Desk_input_32
    · skip
      have c15 : ¬ ((hs n x) = 0) := fun h => c15 ((nI_eq0 (by have := hs_le n x; omega)).mpr h)
      have hs1 : hs n x = 1 := by have := hs_le n x; omega
      obtain ⟨X, eX, hXn, hXb⟩ := hs_of (n := n) (x := x) (by rw [hs1]; decide)
      rw [eX] at hl
      refine lv_aload_n hx hb d_Desk_input_18 rfl (lv_at hl 0 rfl) ?_
      refine va_get (D := (dC, dI)) (ci := 5) (v := .ref a_sig) (C := R_Desk) (T := F_Desk) (N := 9) hx hb hts (wi i_Desk) hown hK hP 0 rfl rfl 0 (by decide) (hts _ (mt 242 rfl rfl)) (fun _ h9 => h9) rfl d_Desk_input_19 ?_
      refine va_get (D := (dC, dI)) (ci := 1) (v := .ref a_kind) (C := R_Sig) (T := F_Sig) (N := 8) hx hb hts (wi i_Sig) hown hK hP 1 rfl rfl 0 (by decide) (hts _ (mt 68 rfl rfl)) (fun _ h9 => h9) rfl d_Desk_input_22 ?_
      refine lv_iload_n hx hb d_Desk_input_25 rfl (lv_at hl 1 rfl) ?_
      refine k_ild hx hb hK hP 2 0 rfl rfl (by omega) (by decide) d_Desk_input_26 ?_
      have hb_2 := b_Kd X
      refine lv_if_eq (tgt := 33) hx hb d_Desk_input_27 (by decide) (fun c27 => ?_) (fun c27 => ?_)
      · skip
        have c27 : (Kd X) = 0 := (nI_eq0 (by omega)).mp c27
        have hok : rd = 1 ∧ hs n x = 1 ∧ Kd (ix x) = 0 := ⟨by omega, hs1, by rw [ix_of eX hXb]; exact c27⟩
        have hw9 := b_Wd X
        have hp8 := pow8 (n := Wd X) (by omega)
        have hlb := lowb_lt y (Wd X)
        refine lv_iload_n hx hb d_Desk_input_33 rfl (lv_at hl 2 rfl) ?_
        refine lv_aload_n hx hb d_Desk_input_34 rfl (lv_at hl 0 rfl) ?_
        refine va_get (D := (dC, dI)) (ci := 5) (v := .ref a_sig) (C := R_Desk) (T := F_Desk) (N := 9) hx hb hts (wi i_Desk) hown hK hP 0 rfl rfl 0 (by decide) (hts _ (mt 242 rfl rfl)) (fun _ h9 => h9) rfl d_Desk_input_35 ?_
        refine va_get (D := (dC, dI)) (ci := 1) (v := .ref a_width) (C := R_Sig) (T := F_Sig) (N := 8) hx hb hts (wi i_Sig) hown hK hP 1 rfl rfl 1 (by decide) (hts _ (mt 71 rfl rfl)) (fun _ h9 => h9) rfl d_Desk_input_38 ?_
        refine lv_iload_n hx hb d_Desk_input_41 rfl (lv_at hl 1 rfl) ?_
        refine k_ild hx hb hK hP 3 0 rfl rfl (by omega) (by decide) d_Desk_input_42 ?_
        have hb_3 := b_Wd X
        refine k_i (wr := [(a_desk, .inr (5, [.ref a_sig, .ref a_stm, .ref a_chk, .ref a_net, .ref a_mkr, .ref a_nwords, .int (nI rd), .int fw, .int (nI ck)])), (a_sig, .inr (1, [.ref a_kind, .ref a_width, .ref a_rword, .ref a_sop, .ref a_sa, .ref a_sb, .ref a_sc, .int (nI n)])), (a_kind, .inl (cI, 14, .inl (nF Kd))), (a_width, .inl (cI, 14, .inl (nF Wd))), (a_net, .inr (0, [.int (nI g), .int (nI gd), .ref a_pairs, .ref a_depths, .ref a_values, .ref a_slots, .int (nI st)])), (a_values, .inl (cI, 1393, .inl (nF Vv)))]) (w2 := fun (u : Unit) => [(a_desk, .inr (5, [.ref a_sig, .ref a_stm, .ref a_chk, .ref a_net, .ref a_mkr, .ref a_nwords, .int (nI rd), .int fw, .int (nI ck)])), (a_sig, .inr (1, [.ref a_kind, .ref a_width, .ref a_rword, .ref a_sop, .ref a_sa, .ref a_sb, .ref a_sc, .int (nI n)])), (a_kind, .inl (cI, 14, .inl (nF Kd))), (a_width, .inl (cI, 14, .inl (nF Wd))), (a_net, .inr (0, [.int (nI g), .int (nI gd), .ref a_pairs, .ref a_depths, .ref a_values, .ref a_slots, .int (nI st)])), (a_values, .inl (cI, 1393, .inl (nF Vv)))]) (va_runS (As := [.int (nI (Wd X))]) (rest := [.int y]) ⟨hx, hb, hml, hown, hts⟩ (c_Desk_maskOf l dC dI cI cZ  tt H.size  (Wd X) (by omega)) (va_cwS 1 hts (gd_S in_tl (mw 481 rfl rfl) (mw 279 rfl rfl) (mw 41 rfl rfl) (mw 280 rfl rfl)) rfl rfl rfl (by decide +kernel) ⟨Nat.le_of_ble_eq_true rfl, Nat.le_of_ble_eq_true rfl⟩) (k_preS hK hP hD hS hA hE [] (by decide) rfl) rfl rfl hl.1 rfl (lv_room (Nat.le_of_ble_eq_true rfl)) d_Desk_input_43 ⟨Nat.zero_le _, Nat.zero_le _⟩) hP hD hS hA [] [0, 1, 2, 3, 4, 5] [0, 1, 2, 3, 4, 5] rfl rfl (by decide) (by decide) (by decide) (fun _ => rfl) (fun r_4 u H locs hw hP hD hS => ?_)
        obtain rfl : (r_4 = nI (2 ^ (Wd X) - 1)) := hw
        have hP : va_P (dC, dI) classes [(a_desk, .inr (5, [.ref a_sig, .ref a_stm, .ref a_chk, .ref a_net, .ref a_mkr, .ref a_nwords, .int (nI rd), .int fw, .int (nI ck)])), (a_sig, .inr (1, [.ref a_kind, .ref a_width, .ref a_rword, .ref a_sop, .ref a_sa, .ref a_sb, .ref a_sc, .int (nI n)])), (a_kind, .inl (cI, 14, .inl (nF Kd))), (a_width, .inl (cI, 14, .inl (nF Wd))), (a_net, .inr (0, [.int (nI g), .int (nI gd), .ref a_pairs, .ref a_depths, .ref a_values, .ref a_slots, .int (nI st)])), (a_values, .inl (cI, 1393, .inl (nF Vv)))] H := hP
        have hD : va_D A [(a_desk, .inr (5, [.ref a_sig, .ref a_stm, .ref a_chk, .ref a_net, .ref a_mkr, .ref a_nwords, .int (nI rd), .int fw, .int (nI ck)])), (a_sig, .inr (1, [.ref a_kind, .ref a_width, .ref a_rword, .ref a_sop, .ref a_sa, .ref a_sb, .ref a_sc, .int (nI n)])), (a_kind, .inl (cI, 14, .inl (nF Kd))), (a_width, .inl (cI, 14, .inl (nF Wd))), (a_net, .inr (0, [.int (nI g), .int (nI gd), .ref a_pairs, .ref a_depths, .ref a_values, .ref a_slots, .int (nI st)])), (a_values, .inl (cI, 1393, .inl (nF Vv)))] := hD
        refine lv_iand hx hb d_Desk_input_46 ?_
        refine k_top (show y &&& (nI (2 ^ (Wd X) - 1)) = nI (lowb y (Wd X)) from (lowb_row y (by omega))) ?_
        refine lv_istore_n (lv' := [(3, .int (nI (lowb y (Wd X)))), (0, .ref a_desk), (1, .int (nI X)), (2, .int y)]) hx hb d_Desk_input_47 rfl hl (by decide) rfl (fun ls hl => ?_)
        refine lv_aload_n hx hb d_Desk_input_48 rfl (lv_at hl 1 rfl) ?_
        refine va_get (D := (dC, dI)) (ci := 5) (v := .ref a_net) (C := R_Desk) (T := F_Desk) (N := 9) hx hb hts (wi i_Desk) hown hK hP 0 rfl rfl 3 (by decide) (hts _ (mt 245 rfl rfl)) (fun _ h9 => h9) rfl d_Desk_input_49 ?_
        refine lv_iload_n hx hb d_Desk_input_52 rfl (lv_at hl 2 rfl) ?_
        refine lv_iload_n hx hb d_Desk_input_53 rfl (lv_at hl 0 rfl) ?_
        refine k_v (wr := [(a_desk, .inr (5, [.ref a_sig, .ref a_stm, .ref a_chk, .ref a_net, .ref a_mkr, .ref a_nwords, .int (nI rd), .int fw, .int (nI ck)])), (a_sig, .inr (1, [.ref a_kind, .ref a_width, .ref a_rword, .ref a_sop, .ref a_sa, .ref a_sb, .ref a_sc, .int (nI n)])), (a_kind, .inl (cI, 14, .inl (nF Kd))), (a_width, .inl (cI, 14, .inl (nF Wd)))]) (w2 := fun (u : Unit) => [(a_desk, .inr (5, [.ref a_sig, .ref a_stm, .ref a_chk, .ref a_net, .ref a_mkr, .ref a_nwords, .int (nI rd), .int fw, .int (nI ck)])), (a_sig, .inr (1, [.ref a_kind, .ref a_width, .ref a_rword, .ref a_sop, .ref a_sa, .ref a_sb, .ref a_sc, .int (nI n)])), (a_kind, .inl (cI, 14, .inl (nF Kd))), (a_width, .inl (cI, 14, .inl (nF Wd))), (a_net, .inr (0, [.int (nI g), .int (nI gd), .ref a_pairs, .ref a_depths, .ref a_values, .ref a_slots, .int (nI 0)])), (a_values, .inl (cI, 1393, .inl (nF (putW Vv X (lowb y (Wd X)) 8))))]) (va_runV (As := [.int (nI X), .int (nI (lowb y (Wd X)))]) (rest := []) ⟨hx, hb, hml, hown, hts⟩ (c_Net_putWord l dC dI cI cZ a_net a_pairs a_depths a_values a_slots tt H.size g gd st Vv X (lowb y (Wd X)) (by omega) (by omega) (by omega) b_Vv (by omega) (by omega)) (cwV 2 hts (gd_V in_tl (mw 469 rfl rfl) (mw 470 rfl rfl) (mw 471 rfl rfl) (mw 45 rfl rfl) (mw 472 rfl rfl)) rfl rfl rfl (by decide +kernel) ⟨Nat.le_of_ble_eq_true rfl, Nat.le_of_ble_eq_true rfl⟩) (k_preV hK hP hD hS hA hE [4, 5] (by decide) rfl 0 4 rfl rfl) rfl rfl hl.1 rfl (lv_room (Nat.le_of_ble_eq_true rfl)) d_Desk_input_54 ⟨Nat.zero_le _, Nat.zero_le _⟩) hP hD hS hA [4, 5] [0, 1, 2, 3] [0, 1, 2, 3, 4, 5] rfl rfl (by decide) (by decide) (by decide) (fun _ => rfl) (fun u H locs hw hP hD hS => ?_)
        have hP : va_P (dC, dI) classes [(a_desk, .inr (5, [.ref a_sig, .ref a_stm, .ref a_chk, .ref a_net, .ref a_mkr, .ref a_nwords, .int (nI rd), .int fw, .int (nI ck)])), (a_sig, .inr (1, [.ref a_kind, .ref a_width, .ref a_rword, .ref a_sop, .ref a_sa, .ref a_sb, .ref a_sc, .int (nI n)])), (a_kind, .inl (cI, 14, .inl (nF Kd))), (a_width, .inl (cI, 14, .inl (nF Wd))), (a_net, .inr (0, [.int (nI g), .int (nI gd), .ref a_pairs, .ref a_depths, .ref a_values, .ref a_slots, .int (nI 0)])), (a_values, .inl (cI, 1393, .inl (nF (putW Vv X (lowb y (Wd X)) 8))))] H := hP
        have hD : va_D A [(a_desk, .inr (5, [.ref a_sig, .ref a_stm, .ref a_chk, .ref a_net, .ref a_mkr, .ref a_nwords, .int (nI rd), .int fw, .int (nI ck)])), (a_sig, .inr (1, [.ref a_kind, .ref a_width, .ref a_rword, .ref a_sop, .ref a_sa, .ref a_sb, .ref a_sc, .int (nI n)])), (a_kind, .inl (cI, 14, .inl (nF Kd))), (a_width, .inl (cI, 14, .inl (nF Wd))), (a_net, .inr (0, [.int (nI g), .int (nI gd), .ref a_pairs, .ref a_depths, .ref a_values, .ref a_slots, .int (nI 0)])), (a_values, .inl (cI, 1393, .inl (nF (putW Vv X (lowb y (Wd X)) 8))))] := hD
        have bV : ∀ j, putW Vv X (lowb y (Wd X)) 8 j < 2 := putW_lt b_Vv
        refine lv_iload_n hx hb d_Desk_input_57 rfl (lv_at hl 0 rfl) ?_
        exact W.iret (v := nI (lowb y (Wd X))) hx hb hr (fun t ht hW => ⟨⟨nI (lowb y (Wd X)), (0, putW Vv X (lowb y (Wd X)) 8), rfl, ⟨(show 0 ≤ 1 from by omega), bV, (show (¬ (rd = 1 ∧ hs n x = 1 ∧ Kd (ix x) = 0) ∧ (-2) = (nI (lowb y (Wd X))) ∧ st = 0 ∧ Vv = (putW Vv X (lowb y (Wd X)) 8)) ∨ ((rd = 1 ∧ hs n x = 1 ∧ Kd (ix x) = 0) ∧ nI (lowb y (Wd (ix x))) = (nI (lowb y (Wd X))) ∧ 0 = 0 ∧ putW Vv (ix x) (lowb y (Wd (ix x))) 8 = (putW Vv X (lowb y (Wd X)) 8)) from Or.inr ⟨hok, by rw [ix_of eX hXb], rfl, by rw [ix_of eX hXb]⟩)⟩, by rw [ht]; exact hP, va_K.moved hW.alike hK, hD⟩, hS.F ht⟩) hS.2.2 d_Desk_input_58
      · skip
        have c27 : ¬ ((Kd X) = 0) := fun h => c27 ((nI_eq0 (by omega)).mpr h)
        have hno : ¬ (rd = 1 ∧ hs n x = 1 ∧ Kd (ix x) = 0) := by first | omega | (intro h; rw [ix_of eX hXb] at h; exact c27 h.2.2)
        refine lv_bipush (v := (-2 : Int32)) hx hb d_Desk_input_30 rfl ?_
        exact W.iret (v := (-2 : Int32)) hx hb hr (fun t ht hW => ⟨⟨(-2 : Int32), (st, Vv), rfl, ⟨(show st ≤ 1 from by omega), b_Vv, (show (¬ (rd = 1 ∧ hs n x = 1 ∧ Kd (ix x) = 0) ∧ (-2) = (-2 : Int32) ∧ st = st ∧ Vv = Vv) ∨ ((rd = 1 ∧ hs n x = 1 ∧ Kd (ix x) = 0) ∧ nI (lowb y (Wd (ix x))) = (-2 : Int32) ∧ 0 = st ∧ putW Vv (ix x) (lowb y (Wd (ix x))) 8 = Vv) from Or.inl ⟨hno, rfl, rfl, rfl⟩)⟩, by rw [ht]; exact hP, va_K.moved hW.alike hK, hD⟩, hS.F ht⟩) hS.2.2 d_Desk_input_32
set_option maxHeartbeats 4000000 in
set_option maxRecDepth 100000 in
theorem c_Desk_startAnew (l : Launch) (dC : Nat → ClassId) (dI : Nat → Nat → Nat) (cI cZ : ClassId) (a_desk a_sig a_stm a_chk a_net a_mkr a_nwords a_kind a_width a_rword a_sop a_sa a_sb a_sc a_pairs a_depths a_values a_slots : Nat) (tt sz : Nat) (rd : Nat) (fw : Int32) (ck : Nat) (n : Nat) (Kd : Nat → Nat) (Rw : Nat → Nat) (g : Nat) (gd : Nat) (st : Nat) (Vv : Nat → Nat) (b_rd : rd ≤ 1) (b_n : n ≤ 14) (b_Kd : ∀ j, Kd j < 4) (b_Rw : ∀ j, Rw j < 256) (b_g : g ≤ 1280) (b_gd : gd < 1400) (b_st : st ≤ 1) (b_Vv : ∀ j, Vv j < 2) : Met l y_Desk_startAnew w_Desk_startAnew ({ frames := 1, cells := 0, slots := 0, locals := 24 }) (va_Pc [.ref a_desk] (PW (dC, dI) classes [(cI, .int), (cZ, .boolean)] tt [(a_desk, .inr (5, [.ref a_sig, .ref a_stm, .ref a_chk, .ref a_net, .ref a_mkr, .ref a_nwords, .int (nI rd), .int fw, .int (nI ck)])), (a_sig, .inr (1, [.ref a_kind, .ref a_width, .ref a_rword, .ref a_sop, .ref a_sa, .ref a_sb, .ref a_sc, .int (nI n)])), (a_kind, .inl (cI, 14, .inl (nF Kd))), (a_rword, .inl (cI, 14, .inl (nF Rw))), (a_net, .inr (0, [.int (nI g), .int (nI gd), .ref a_pairs, .ref a_depths, .ref a_values, .ref a_slots, .int (nI st)])), (a_values, .inl (cI, 1393, .inl (nF Vv)))] sz)) (va_Qv (fun (u : Nat × (Nat → Nat)) => (u.1 ≤ 1) ∧ (∀ j, u.2 j < 2) ∧ (u.2 = swV Vv Kd Rw n) ∧ (u.1 = 0 ∨ (u.1 = st ∧ u.2 = Vv))) (AT (dC, dI) classes [(cI, .int), (cZ, .boolean)] (va_A [(a_desk, .inr (5, [.ref a_sig, .ref a_stm, .ref a_chk, .ref a_net, .ref a_mkr, .ref a_nwords, .int (nI rd), .int fw, .int (nI ck)])), (a_sig, .inr (1, [.ref a_kind, .ref a_width, .ref a_rword, .ref a_sop, .ref a_sa, .ref a_sb, .ref a_sc, .int (nI n)])), (a_kind, .inl (cI, 14, .inl (nF Kd))), (a_rword, .inl (cI, 14, .inl (nF Rw))), (a_net, .inr (0, [.int (nI g), .int (nI gd), .ref a_pairs, .ref a_depths, .ref a_values, .ref a_slots, .int (nI st)])), (a_values, .inl (cI, 1393, .inl (nF Vv)))] sz) (fun (u : Nat × (Nat → Nat)) => [(a_desk, .inr (5, [.ref a_sig, .ref a_stm, .ref a_chk, .ref a_net, .ref a_mkr, .ref a_nwords, .int (nI rd), .int fw, .int (nI 0)])), (a_sig, .inr (1, [.ref a_kind, .ref a_width, .ref a_rword, .ref a_sop, .ref a_sa, .ref a_sb, .ref a_sc, .int (nI n)])), (a_kind, .inl (cI, 14, .inl (nF Kd))), (a_rword, .inl (cI, 14, .inl (nF Rw))), (a_net, .inr (0, [.int (nI g), .int (nI gd), .ref a_pairs, .ref a_depths, .ref a_values, .ref a_slots, .int (nI u.1)])), (a_values, .inl (cI, 1393, .inl (nF u.2)))])) (va_A [(a_desk, .inr (5, [.ref a_sig, .ref a_stm, .ref a_chk, .ref a_net, .ref a_mkr, .ref a_nwords, .int (nI rd), .int fw, .int (nI ck)])), (a_sig, .inr (1, [.ref a_kind, .ref a_width, .ref a_rword, .ref a_sop, .ref a_sa, .ref a_sb, .ref a_sc, .int (nI n)])), (a_kind, .inl (cI, 14, .inl (nF Kd))), (a_rword, .inl (cI, 14, .inl (nF Rw))), (a_net, .inr (0, [.int (nI g), .int (nI gd), .ref a_pairs, .ref a_depths, .ref a_values, .ref a_slots, .int (nI st)])), (a_values, .inl (cI, 1393, .inl (nF Vv)))] sz)) 0 0 (va_A [(a_desk, .inr (5, [.ref a_sig, .ref a_stm, .ref a_chk, .ref a_net, .ref a_mkr, .ref a_nwords, .int (nI rd), .int fw, .int (nI ck)])), (a_sig, .inr (1, [.ref a_kind, .ref a_width, .ref a_rword, .ref a_sop, .ref a_sa, .ref a_sb, .ref a_sc, .int (nI n)])), (a_kind, .inl (cI, 14, .inl (nF Kd))), (a_rword, .inl (cI, 14, .inl (nF Rw))), (a_net, .inr (0, [.int (nI g), .int (nI gd), .ref a_pairs, .ref a_depths, .ref a_values, .ref a_slots, .int (nI st)])), (a_values, .inl (cI, 1393, .inl (nF Vv)))] sz) := by
  refine Met.ofW (cc := b_Desk_startAnew) (maxL := 2) (ret := none) (by decide) rfl ?_
  intro p e s m args below meth c s₁ B hml hv
  obtain ⟨rfl, hsz, hP, hK, hD0, hE⟩ := hv
  have hx := B.exec
  have hb := B.bytes
  have hr := B.returns
  have hts := atoms_spec (ws := w_Desk_startAnew) B.pre
  have hown : s.vm.findClass R_Desk = some m.cls := findClass_of_methodNamed B.named
  have hlocks := B.notSynchronized
  subst hsz
  have hD := hD0.self (sz := s.heap.size)
  generalize hAe : va_A [(a_desk, .inr (5, [.ref a_sig, .ref a_stm, .ref a_chk, .ref a_net, .ref a_mkr, .ref a_nwords, .int (nI rd), .int fw, .int (nI ck)])), (a_sig, .inr (1, [.ref a_kind, .ref a_width, .ref a_rword, .ref a_sop, .ref a_sa, .ref a_sb, .ref a_sc, .int (nI n)])), (a_kind, .inl (cI, 14, .inl (nF Kd))), (a_rword, .inl (cI, 14, .inl (nF Rw))), (a_net, .inr (0, [.int (nI g), .int (nI gd), .ref a_pairs, .ref a_depths, .ref a_values, .ref a_slots, .int (nI st)])), (a_values, .inl (cI, 1393, .inl (nF Vv)))] s.heap.size = A at hD hE ⊢
  have hA : ∀ q : Nat, s.heap.size ≤ q → A q := fun q h => by rw [← hAe]; exact Or.inr h
  have hS : va_S A s.heap s.heap [] := va_S.rf
  have hP : va_P (dC, dI) classes [(a_desk, .inr (5, [.ref a_sig, .ref a_stm, .ref a_chk, .ref a_net, .ref a_mkr, .ref a_nwords, .int (nI rd), .int fw, .int (nI ck)])), (a_sig, .inr (1, [.ref a_kind, .ref a_width, .ref a_rword, .ref a_sop, .ref a_sa, .ref a_sb, .ref a_sc, .int (nI n)])), (a_kind, .inl (cI, 14, .inl (nF Kd))), (a_rword, .inl (cI, 14, .inl (nF Rw))), (a_net, .inr (0, [.int (nI g), .int (nI gd), .ref a_pairs, .ref a_depths, .ref a_values, .ref a_slots, .int (nI st)])), (a_values, .inl (cI, 1393, .inl (nF Vv)))] s.heap := hP
  have hl := lv_entry ([.ref a_desk]) (n := 2) (Nat.le_of_ble_eq_true rfl)
  rw [lg_entry_eq]
  generalize (lg_sl ([.ref a_desk]) ++ List.replicate (2 - (lg_sl ([.ref a_desk])).length) Slot.unset).toArray = ls at hl ⊢
  have hl : lv_has ls 2 [(0, .ref a_desk)] := hl
  refine lv_iconst (v := nI 0) hx hb d_Desk_startAnew_0 rfl ?_
  refine lv_istore_n (lv' := [(1, .int (nI 0)), (0, .ref a_desk)]) hx hb d_Desk_startAnew_1 rfl hl (by decide) rfl (fun ls hl => ?_)
  have hI_1 : (st ≤ 1) ∧ (∀ j, Vv j < 2) ∧ (Vv = swV Vv Kd Rw 0) ∧ (st = 0 ∨ (st = st ∧ Vv = Vv)) ∧ (0 ≤ n) := ⟨(by omega), b_Vv, rfl, (Or.inr ⟨rfl, rfl⟩), (by omega)⟩
  refine k_loop (σ := Nat × Nat × (Nat → Nat)) (D := (dC, dI)) (cl := classes) (A := A) (H0 := s.heap) (fun x => [(a_desk, .inr (5, [.ref a_sig, .ref a_stm, .ref a_chk, .ref a_net, .ref a_mkr, .ref a_nwords, .int (nI rd), .int fw, .int (nI ck)])), (a_sig, .inr (1, [.ref a_kind, .ref a_width, .ref a_rword, .ref a_sop, .ref a_sa, .ref a_sb, .ref a_sc, .int (nI n)])), (a_kind, .inl (cI, 14, .inl (nF Kd))), (a_rword, .inl (cI, 14, .inl (nF Rw))), (a_net, .inr (0, [.int (nI g), .int (nI gd), .ref a_pairs, .ref a_depths, .ref a_values, .ref a_slots, .int (nI x.2.1)])), (a_values, .inl (cI, 1393, .inl (nF x.2.2)))]) (fun x => [(1, .int (nI x.1)), (0, .ref a_desk)]) (fun x => (x.2.1 ≤ 1) ∧ (∀ j, x.2.2 j < 2) ∧ (x.2.2 = swV Vv Kd Rw x.1) ∧ (x.2.1 = 0 ∨ (x.2.1 = st ∧ x.2.2 = Vv)) ∧ (x.1 ≤ n)) (fun x => n - x.1) ?_ (0, st, Vv) hI_1 hP hD hS (lv_sub hl [0, 1] rfl)
  rintro ⟨i, st1, V1⟩ hI ih_2 H locs ls hP hD hS hl
  obtain ⟨b_st1, b_V1, hv1, hs1, hin⟩ : (st1 ≤ 1) ∧ (∀ j, V1 j < 2) ∧ (V1 = swV Vv Kd Rw i) ∧ (st1 = 0 ∨ (st1 = st ∧ V1 = Vv)) ∧ (i ≤ n) := hI
  have hP : va_P (dC, dI) classes [(a_desk, .inr (5, [.ref a_sig, .ref a_stm, .ref a_chk, .ref a_net, .ref a_mkr, .ref a_nwords, .int (nI rd), .int fw, .int (nI ck)])), (a_sig, .inr (1, [.ref a_kind, .ref a_width, .ref a_rword, .ref a_sop, .ref a_sa, .ref a_sb, .ref a_sc, .int (nI n)])), (a_kind, .inl (cI, 14, .inl (nF Kd))), (a_rword, .inl (cI, 14, .inl (nF Rw))), (a_net, .inr (0, [.int (nI g), .int (nI gd), .ref a_pairs, .ref a_depths, .ref a_values, .ref a_slots, .int (nI st1)])), (a_values, .inl (cI, 1393, .inl (nF V1)))] H := hP
  have hD : va_D A [(a_desk, .inr (5, [.ref a_sig, .ref a_stm, .ref a_chk, .ref a_net, .ref a_mkr, .ref a_nwords, .int (nI rd), .int fw, .int (nI ck)])), (a_sig, .inr (1, [.ref a_kind, .ref a_width, .ref a_rword, .ref a_sop, .ref a_sa, .ref a_sb, .ref a_sc, .int (nI n)])), (a_kind, .inl (cI, 14, .inl (nF Kd))), (a_rword, .inl (cI, 14, .inl (nF Rw))), (a_net, .inr (0, [.int (nI g), .int (nI gd), .ref a_pairs, .ref a_depths, .ref a_values, .ref a_slots, .int (nI st1)])), (a_values, .inl (cI, 1393, .inl (nF V1)))] := hD
  have hl : lv_has ls 2 [(1, .int (nI i)), (0, .ref a_desk)] := hl
  refine lv_iload_n hx hb d_Desk_startAnew_2 rfl (lv_at hl 0 rfl) ?_
  refine lv_aload_n hx hb d_Desk_startAnew_3 rfl (lv_at hl 1 rfl) ?_
  refine va_get (D := (dC, dI)) (ci := 5) (v := .ref a_sig) (C := R_Desk) (T := F_Desk) (N := 9) hx hb hts (wi i_Desk) hown hK hP 0 rfl rfl 0 (by decide) (hts _ (mt 242 rfl rfl)) (fun _ h9 => h9) rfl d_Desk_startAnew_4 ?_
  refine va_get (D := (dC, dI)) (ci := 1) (v := .int (nI n)) (C := R_Sig) (T := F_Sig) (N := 8) hx hb hts (wi i_Sig) hown hK hP 1 rfl rfl 7 (by decide) (hts _ (mt 86 rfl rfl)) (fun _ h9 => h9) rfl d_Desk_startAnew_7 ?_
  refine lv_icmp_ge (tgt := 73) hx hb d_Desk_startAnew_10 (by decide) (fun c10 => ?_) (fun c10 => ?_)
  · skip
    have c10 : n ≤ i := (nI_leI (by omega) (by omega)).mp c10
    refine lv_aload_n hx hb d_Desk_startAnew_73 rfl (lv_at hl 1 rfl) ?_
    refine lv_iconst (v := nI 0) hx hb d_Desk_startAnew_74 rfl ?_
    refine va_put (D := (dC, dI)) (ci := 5) (v := .int (nI 0)) (ty := .int) (C := R_Desk) (T := F_Desk) (N := 9) hx hb hts (wi i_Desk) t_Desk t_Desk_ok n_Desk hown hK hP hD hS 0 rfl rfl 8 (by decide) (hts _ (mt 250 rfl rfl)) (fun _ h9 => h9) rfl (by decide +kernel) rfl rfl (Nat.le_of_ble_eq_true rfl) d_Desk_startAnew_75 (fun H locs hP hD hS => ?_)
    have hP : va_P (dC, dI) classes [(a_desk, .inr (5, [.ref a_sig, .ref a_stm, .ref a_chk, .ref a_net, .ref a_mkr, .ref a_nwords, .int (nI rd), .int fw, .int (nI 0)])), (a_sig, .inr (1, [.ref a_kind, .ref a_width, .ref a_rword, .ref a_sop, .ref a_sa, .ref a_sb, .ref a_sc, .int (nI n)])), (a_kind, .inl (cI, 14, .inl (nF Kd))), (a_rword, .inl (cI, 14, .inl (nF Rw))), (a_net, .inr (0, [.int (nI g), .int (nI gd), .ref a_pairs, .ref a_depths, .ref a_values, .ref a_slots, .int (nI st1)])), (a_values, .inl (cI, 1393, .inl (nF V1)))] H := hP
    have hD : va_D A [(a_desk, .inr (5, [.ref a_sig, .ref a_stm, .ref a_chk, .ref a_net, .ref a_mkr, .ref a_nwords, .int (nI rd), .int fw, .int (nI 0)])), (a_sig, .inr (1, [.ref a_kind, .ref a_width, .ref a_rword, .ref a_sop, .ref a_sa, .ref a_sb, .ref a_sc, .int (nI n)])), (a_kind, .inl (cI, 14, .inl (nF Kd))), (a_rword, .inl (cI, 14, .inl (nF Rw))), (a_net, .inr (0, [.int (nI g), .int (nI gd), .ref a_pairs, .ref a_depths, .ref a_values, .ref a_slots, .int (nI st1)])), (a_values, .inl (cI, 1393, .inl (nF V1)))] := hD
    exact W.vret hx hb hr (fun t ht hW => ⟨⟨(st1, V1), rfl, ⟨(show st1 ≤ 1 from by omega), b_V1, (show V1 = swV Vv Kd Rw n from (by rw [hv1, show i = n by omega])), (show st1 = 0 ∨ (st1 = st ∧ V1 = Vv) from hs1)⟩, by rw [ht]; exact hP, va_K.moved hW.alike hK, hD⟩, hS.F ht⟩) hS.2.2 d_Desk_startAnew_78
  · skip
    have c10 : ¬ (n ≤ i) := fun h => c10 ((nI_leI (by omega) (by omega)).mpr h)
    refine lv_aload_n hx hb d_Desk_startAnew_13 rfl (lv_at hl 1 rfl) ?_
    refine va_get (D := (dC, dI)) (ci := 5) (v := .ref a_sig) (C := R_Desk) (T := F_Desk) (N := 9) hx hb hts (wi i_Desk) hown hK hP 0 rfl rfl 0 (by decide) (hts _ (mt 242 rfl rfl)) (fun _ h9 => h9) rfl d_Desk_startAnew_14 ?_
    refine va_get (D := (dC, dI)) (ci := 1) (v := .ref a_kind) (C := R_Sig) (T := F_Sig) (N := 8) hx hb hts (wi i_Sig) hown hK hP 1 rfl rfl 0 (by decide) (hts _ (mt 68 rfl rfl)) (fun _ h9 => h9) rfl d_Desk_startAnew_17 ?_
    refine lv_iload_n hx hb d_Desk_startAnew_20 rfl (lv_at hl 0 rfl) ?_
    refine k_ild hx hb hK hP 2 0 rfl rfl (by omega) (by decide) d_Desk_startAnew_21 ?_
    have hb_3 := b_Kd i
    refine lv_iconst (v := nI 2) hx hb d_Desk_startAnew_22 rfl ?_
    refine lv_icmp_ne (tgt := 46) hx hb d_Desk_startAnew_23 (by decide) (fun c23 => ?_) (fun c23 => ?_)
    · skip
      have c23 : ¬ ((Kd i) = 2) := fun h => c23 ((nI_eq (by omega) (by omega)).mpr h)
      refine lv_aload_n hx hb d_Desk_startAnew_46 rfl (lv_at hl 1 rfl) ?_
      refine va_get (D := (dC, dI)) (ci := 5) (v := .ref a_sig) (C := R_Desk) (T := F_Desk) (N := 9) hx hb hts (wi i_Desk) hown hK hP 0 rfl rfl 0 (by decide) (hts _ (mt 242 rfl rfl)) (fun _ h9 => h9) rfl d_Desk_startAnew_47 ?_
      refine va_get (D := (dC, dI)) (ci := 1) (v := .ref a_kind) (C := R_Sig) (T := F_Sig) (N := 8) hx hb hts (wi i_Sig) hown hK hP 1 rfl rfl 0 (by decide) (hts _ (mt 68 rfl rfl)) (fun _ h9 => h9) rfl d_Desk_startAnew_50 ?_
      refine lv_iload_n hx hb d_Desk_startAnew_53 rfl (lv_at hl 0 rfl) ?_
      refine k_ild hx hb hK hP 2 0 rfl rfl (by omega) (by decide) d_Desk_startAnew_54 ?_
      have hb_4 := b_Kd i
      refine lv_if_ne (tgt := 67) hx hb d_Desk_startAnew_55 (by decide) (fun c55 => ?_) (fun c55 => ?_)
      · skip
        have c55 : ¬ ((Kd i) = 0) := fun h => c55 ((nI_eq0 (by omega)).mpr h)
        refine lv_iinc (v := nI (i + 1)) (lv' := [(1, .int (nI (i + 1))), (0, .ref a_desk)]) hx hb d_Desk_startAnew_67 hl (k := 0) rfl (k_inc _ 1) (by decide) rfl (fun ls hl => ?_)
        refine lv_goto (tgt := 2) hx hb d_Desk_startAnew_70 (by decide) ?_
        have hI_5 : (st1 ≤ 1) ∧ (∀ j, V1 j < 2) ∧ (V1 = swV Vv Kd Rw (i + 1)) ∧ (st1 = 0 ∨ (st1 = st ∧ V1 = Vv)) ∧ ((i + 1) ≤ n) := ⟨(by omega), b_V1, (by rw [hv1]; exact (swV_n c23 c55).symm), hs1, (by omega)⟩
        exact ih_2 (i + 1, st1, V1) hI_5 (show n - (i + 1) < n - i from by omega) _ _ _ hP hD hS (lv_sub hl [0, 1] rfl)
      · skip
        have c55 : (Kd i) = 0 := (nI_eq0 (by omega)).mp c55
        refine lv_aload_n hx hb d_Desk_startAnew_58 rfl (lv_at hl 1 rfl) ?_
        refine va_get (D := (dC, dI)) (ci := 5) (v := .ref a_net) (C := R_Desk) (T := F_Desk) (N := 9) hx hb hts (wi i_Desk) hown hK hP 0 rfl rfl 3 (by decide) (hts _ (mt 245 rfl rfl)) (fun _ h9 => h9) rfl d_Desk_startAnew_59 ?_
        refine lv_iload_n hx hb d_Desk_startAnew_62 rfl (lv_at hl 0 rfl) ?_
        refine lv_iconst (v := nI 0) hx hb d_Desk_startAnew_63 rfl ?_
        refine k_v (wr := [(a_desk, .inr (5, [.ref a_sig, .ref a_stm, .ref a_chk, .ref a_net, .ref a_mkr, .ref a_nwords, .int (nI rd), .int fw, .int (nI ck)])), (a_sig, .inr (1, [.ref a_kind, .ref a_width, .ref a_rword, .ref a_sop, .ref a_sa, .ref a_sb, .ref a_sc, .int (nI n)])), (a_kind, .inl (cI, 14, .inl (nF Kd))), (a_rword, .inl (cI, 14, .inl (nF Rw)))]) (w2 := fun (u : Unit) => [(a_desk, .inr (5, [.ref a_sig, .ref a_stm, .ref a_chk, .ref a_net, .ref a_mkr, .ref a_nwords, .int (nI rd), .int fw, .int (nI ck)])), (a_sig, .inr (1, [.ref a_kind, .ref a_width, .ref a_rword, .ref a_sop, .ref a_sa, .ref a_sb, .ref a_sc, .int (nI n)])), (a_kind, .inl (cI, 14, .inl (nF Kd))), (a_rword, .inl (cI, 14, .inl (nF Rw))), (a_net, .inr (0, [.int (nI g), .int (nI gd), .ref a_pairs, .ref a_depths, .ref a_values, .ref a_slots, .int (nI 0)])), (a_values, .inl (cI, 1393, .inl (nF (putW V1 i 0 8))))]) (va_runV (As := [.int (nI i), .int (nI 0)]) (rest := []) ⟨hx, hb, hml, hown, hts⟩ (c_Net_putWord l dC dI cI cZ a_net a_pairs a_depths a_values a_slots tt H.size g gd st1 V1 i 0 (by omega) (by omega) (by omega) b_V1 (by omega) (by omega)) (cwV 2 hts (gd_V in_tl (mw 469 rfl rfl) (mw 470 rfl rfl) (mw 471 rfl rfl) (mw 45 rfl rfl) (mw 472 rfl rfl)) rfl rfl rfl (by decide +kernel) ⟨Nat.le_of_ble_eq_true rfl, Nat.le_of_ble_eq_true rfl⟩) (k_preV hK hP hD hS hA hE [4, 5] (by decide) rfl 0 4 rfl rfl) rfl rfl hl.1 rfl (lv_room (Nat.le_of_ble_eq_true rfl)) d_Desk_startAnew_64 ⟨Nat.zero_le _, Nat.zero_le _⟩) hP hD hS hA [4, 5] [0, 1, 2, 3] [0, 1, 2, 3, 4, 5] rfl rfl (by decide) (by decide) (by decide) (fun _ => rfl) (fun u H locs hw hP hD hS => ?_)
        have hP : va_P (dC, dI) classes [(a_desk, .inr (5, [.ref a_sig, .ref a_stm, .ref a_chk, .ref a_net, .ref a_mkr, .ref a_nwords, .int (nI rd), .int fw, .int (nI ck)])), (a_sig, .inr (1, [.ref a_kind, .ref a_width, .ref a_rword, .ref a_sop, .ref a_sa, .ref a_sb, .ref a_sc, .int (nI n)])), (a_kind, .inl (cI, 14, .inl (nF Kd))), (a_rword, .inl (cI, 14, .inl (nF Rw))), (a_net, .inr (0, [.int (nI g), .int (nI gd), .ref a_pairs, .ref a_depths, .ref a_values, .ref a_slots, .int (nI 0)])), (a_values, .inl (cI, 1393, .inl (nF (putW V1 i 0 8))))] H := hP
        have hD : va_D A [(a_desk, .inr (5, [.ref a_sig, .ref a_stm, .ref a_chk, .ref a_net, .ref a_mkr, .ref a_nwords, .int (nI rd), .int fw, .int (nI ck)])), (a_sig, .inr (1, [.ref a_kind, .ref a_width, .ref a_rword, .ref a_sop, .ref a_sa, .ref a_sb, .ref a_sc, .int (nI n)])), (a_kind, .inl (cI, 14, .inl (nF Kd))), (a_rword, .inl (cI, 14, .inl (nF Rw))), (a_net, .inr (0, [.int (nI g), .int (nI gd), .ref a_pairs, .ref a_depths, .ref a_values, .ref a_slots, .int (nI 0)])), (a_values, .inl (cI, 1393, .inl (nF (putW V1 i 0 8))))] := hD
        have bV : ∀ j, putW V1 i 0 8 j < 2 := putW_lt b_V1
        refine lv_iinc (v := nI (i + 1)) (lv' := [(1, .int (nI (i + 1))), (0, .ref a_desk)]) hx hb d_Desk_startAnew_67 hl (k := 0) rfl (k_inc _ 1) (by decide) rfl (fun ls hl => ?_)
        refine lv_goto (tgt := 2) hx hb d_Desk_startAnew_70 (by decide) ?_
        have hI_7 : (0 ≤ 1) ∧ (∀ j, (putW V1 i 0 8) j < 2) ∧ ((putW V1 i 0 8) = swV Vv Kd Rw (i + 1)) ∧ (0 = 0 ∨ (0 = st ∧ (putW V1 i 0 8) = Vv)) ∧ ((i + 1) ≤ n) := ⟨(by omega), bV, (by rw [hv1]; exact (swV_0 c55).symm), (Or.inl rfl), (by omega)⟩
        exact ih_2 (i + 1, 0, putW V1 i 0 8) hI_7 (show n - (i + 1) < n - i from by omega) _ _ _ hP hD hS (lv_sub hl [0, 1] rfl)
    · skip
      have c23 : (Kd i) = 2 := (nI_eq (by omega) (by omega)).mp c23
      refine lv_aload_n hx hb d_Desk_startAnew_26 rfl (lv_at hl 1 rfl) ?_
      refine va_get (D := (dC, dI)) (ci := 5) (v := .ref a_net) (C := R_Desk) (T := F_Desk) (N := 9) hx hb hts (wi i_Desk) hown hK hP 0 rfl rfl 3 (by decide) (hts _ (mt 245 rfl rfl)) (fun _ h9 => h9) rfl d_Desk_startAnew_27 ?_
      refine lv_iload_n hx hb d_Desk_startAnew_30 rfl (lv_at hl 0 rfl) ?_
      refine lv_aload_n hx hb d_Desk_startAnew_31 rfl (lv_at hl 1 rfl) ?_
      refine va_get (D := (dC, dI)) (ci := 5) (v := .ref a_sig) (C := R_Desk) (T := F_Desk) (N := 9) hx hb hts (wi i_Desk) hown hK hP 0 rfl rfl 0 (by decide) (hts _ (mt 242 rfl rfl)) (fun _ h9 => h9) rfl d_Desk_startAnew_32 ?_
      refine va_get (D := (dC, dI)) (ci := 1) (v := .ref a_rword) (C := R_Sig) (T := F_Sig) (N := 8) hx hb hts (wi i_Sig) hown hK hP 1 rfl rfl 2 (by decide) (hts _ (mt 73 rfl rfl)) (fun _ h9 => h9) rfl d_Desk_startAnew_35 ?_
      refine lv_iload_n hx hb d_Desk_startAnew_38 rfl (lv_at hl 0 rfl) ?_
      refine k_ild hx hb hK hP 3 0 rfl rfl (by omega) (by decide) d_Desk_startAnew_39 ?_
      have hb_8 := b_Rw i
      refine k_v (wr := [(a_desk, .inr (5, [.ref a_sig, .ref a_stm, .ref a_chk, .ref a_net, .ref a_mkr, .ref a_nwords, .int (nI rd), .int fw, .int (nI ck)])), (a_sig, .inr (1, [.ref a_kind, .ref a_width, .ref a_rword, .ref a_sop, .ref a_sa, .ref a_sb, .ref a_sc, .int (nI n)])), (a_kind, .inl (cI, 14, .inl (nF Kd))), (a_rword, .inl (cI, 14, .inl (nF Rw)))]) (w2 := fun (u : Unit) => [(a_desk, .inr (5, [.ref a_sig, .ref a_stm, .ref a_chk, .ref a_net, .ref a_mkr, .ref a_nwords, .int (nI rd), .int fw, .int (nI ck)])), (a_sig, .inr (1, [.ref a_kind, .ref a_width, .ref a_rword, .ref a_sop, .ref a_sa, .ref a_sb, .ref a_sc, .int (nI n)])), (a_kind, .inl (cI, 14, .inl (nF Kd))), (a_rword, .inl (cI, 14, .inl (nF Rw))), (a_net, .inr (0, [.int (nI g), .int (nI gd), .ref a_pairs, .ref a_depths, .ref a_values, .ref a_slots, .int (nI 0)])), (a_values, .inl (cI, 1393, .inl (nF (putW V1 i (Rw i) 8))))]) (va_runV (As := [.int (nI i), .int (nI (Rw i))]) (rest := []) ⟨hx, hb, hml, hown, hts⟩ (c_Net_putWord l dC dI cI cZ a_net a_pairs a_depths a_values a_slots tt H.size g gd st1 V1 i (Rw i) (by omega) (by omega) (by omega) b_V1 (by omega) (by have := b_Rw i; omega)) (cwV 2 hts (gd_V in_tl (mw 469 rfl rfl) (mw 470 rfl rfl) (mw 471 rfl rfl) (mw 45 rfl rfl) (mw 472 rfl rfl)) rfl rfl rfl (by decide +kernel) ⟨Nat.le_of_ble_eq_true rfl, Nat.le_of_ble_eq_true rfl⟩) (k_preV hK hP hD hS hA hE [4, 5] (by decide) rfl 0 4 rfl rfl) rfl rfl hl.1 rfl (lv_room (Nat.le_of_ble_eq_true rfl)) d_Desk_startAnew_40 ⟨Nat.zero_le _, Nat.zero_le _⟩) hP hD hS hA [4, 5] [0, 1, 2, 3] [0, 1, 2, 3, 4, 5] rfl rfl (by decide) (by decide) (by decide) (fun _ => rfl) (fun u H locs hw hP hD hS => ?_)
      have hP : va_P (dC, dI) classes [(a_desk, .inr (5, [.ref a_sig, .ref a_stm, .ref a_chk, .ref a_net, .ref a_mkr, .ref a_nwords, .int (nI rd), .int fw, .int (nI ck)])), (a_sig, .inr (1, [.ref a_kind, .ref a_width, .ref a_rword, .ref a_sop, .ref a_sa, .ref a_sb, .ref a_sc, .int (nI n)])), (a_kind, .inl (cI, 14, .inl (nF Kd))), (a_rword, .inl (cI, 14, .inl (nF Rw))), (a_net, .inr (0, [.int (nI g), .int (nI gd), .ref a_pairs, .ref a_depths, .ref a_values, .ref a_slots, .int (nI 0)])), (a_values, .inl (cI, 1393, .inl (nF (putW V1 i (Rw i) 8))))] H := hP
      have hD : va_D A [(a_desk, .inr (5, [.ref a_sig, .ref a_stm, .ref a_chk, .ref a_net, .ref a_mkr, .ref a_nwords, .int (nI rd), .int fw, .int (nI ck)])), (a_sig, .inr (1, [.ref a_kind, .ref a_width, .ref a_rword, .ref a_sop, .ref a_sa, .ref a_sb, .ref a_sc, .int (nI n)])), (a_kind, .inl (cI, 14, .inl (nF Kd))), (a_rword, .inl (cI, 14, .inl (nF Rw))), (a_net, .inr (0, [.int (nI g), .int (nI gd), .ref a_pairs, .ref a_depths, .ref a_values, .ref a_slots, .int (nI 0)])), (a_values, .inl (cI, 1393, .inl (nF (putW V1 i (Rw i) 8))))] := hD
      have bV : ∀ j, putW V1 i (Rw i) 8 j < 2 := putW_lt b_V1
      refine lv_goto (tgt := 67) hx hb d_Desk_startAnew_43 (by decide) ?_
      refine lv_iinc (v := nI (i + 1)) (lv' := [(1, .int (nI (i + 1))), (0, .ref a_desk)]) hx hb d_Desk_startAnew_67 hl (k := 0) rfl (k_inc _ 1) (by decide) rfl (fun ls hl => ?_)
      refine lv_goto (tgt := 2) hx hb d_Desk_startAnew_70 (by decide) ?_
      have hI_10 : (0 ≤ 1) ∧ (∀ j, (putW V1 i (Rw i) 8) j < 2) ∧ ((putW V1 i (Rw i) 8) = swV Vv Kd Rw (i + 1)) ∧ (0 = 0 ∨ (0 = st ∧ (putW V1 i (Rw i) 8) = Vv)) ∧ ((i + 1) ≤ n) := ⟨(by omega), bV, (by rw [hv1]; exact (swV_2 c23).symm), (Or.inl rfl), (by omega)⟩
      exact ih_2 (i + 1, 0, putW V1 i (Rw i) 8) hI_10 (show n - (i + 1) < n - i from by omega) _ _ _ hP hD hS (lv_sub hl [0, 1] rfl)
