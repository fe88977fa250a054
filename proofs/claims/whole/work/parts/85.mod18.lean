abbrev b_Mod_input : ByteArray := prog_8_method_31_code
def y_Mod_input : MethodName := ⟨"CircuitDeskModel", "input", "(II)I"⟩
def w_Mod_input : List Cond := .code y_Mod_input b_Mod_input 3 (some .int) :: lw_gw
theorem d_Mod_input_0 : decode b_Mod_input 0 = .ok (.aload_n 0, 1) := by decide +kernel
theorem d_Mod_input_1 : decode b_Mod_input 1 = .ok (.getfield 85, 3) := by decide +kernel
theorem d_Mod_input_4 : decode b_Mod_input 4 = .ok (.ifCond .eq 20, 3) := by decide +kernel
theorem d_Mod_input_7 : decode b_Mod_input 7 = .ok (.aload_n 0, 1) := by decide +kernel
theorem d_Mod_input_8 : decode b_Mod_input 8 = .ok (.iload_n 1, 1) := by decide +kernel
theorem d_Mod_input_9 : decode b_Mod_input 9 = .ok (.invokevirtual 93, 3) := by decide +kernel
theorem d_Mod_input_12 : decode b_Mod_input 12 = .ok (.ifCond .eq 12, 3) := by decide +kernel
theorem d_Mod_input_15 : decode b_Mod_input 15 = .ok (.aload_n 0, 1) := by decide +kernel
theorem d_Mod_input_16 : decode b_Mod_input 16 = .ok (.getfield 7, 3) := by decide +kernel
theorem d_Mod_input_19 : decode b_Mod_input 19 = .ok (.iload_n 1, 1) := by decide +kernel
theorem d_Mod_input_20 : decode b_Mod_input 20 = .ok (.iaload, 1) := by decide +kernel
theorem d_Mod_input_21 : decode b_Mod_input 21 = .ok (.ifCond .eq 6, 3) := by decide +kernel
theorem d_Mod_input_24 : decode b_Mod_input 24 = .ok (.bipush (-2), 2) := by decide +kernel
theorem d_Mod_input_26 : decode b_Mod_input 26 = .ok (.ireturn, 1) := by decide +kernel
theorem d_Mod_input_27 : decode b_Mod_input 27 = .ok (.aload_n 0, 1) := by decide +kernel
theorem d_Mod_input_28 : decode b_Mod_input 28 = .ok (.getfield 31, 3) := by decide +kernel
theorem d_Mod_input_31 : decode b_Mod_input 31 = .ok (.iload_n 1, 1) := by decide +kernel
theorem d_Mod_input_32 : decode b_Mod_input 32 = .ok (.iload_n 2, 1) := by decide +kernel
theorem d_Mod_input_33 : decode b_Mod_input 33 = .ok (.iconst 1, 1) := by decide +kernel
theorem d_Mod_input_34 : decode b_Mod_input 34 = .ok (.aload_n 0, 1) := by decide +kernel
theorem d_Mod_input_35 : decode b_Mod_input 35 = .ok (.getfield 13, 3) := by decide +kernel
theorem d_Mod_input_38 : decode b_Mod_input 38 = .ok (.iload_n 1, 1) := by decide +kernel
theorem d_Mod_input_39 : decode b_Mod_input 39 = .ok (.iaload, 1) := by decide +kernel
theorem d_Mod_input_40 : decode b_Mod_input 40 = .ok (.ishl, 1) := by decide +kernel
theorem d_Mod_input_41 : decode b_Mod_input 41 = .ok (.iconst 1, 1) := by decide +kernel
theorem d_Mod_input_42 : decode b_Mod_input 42 = .ok (.isub, 1) := by decide +kernel
theorem d_Mod_input_43 : decode b_Mod_input 43 = .ok (.iand, 1) := by decide +kernel
theorem d_Mod_input_44 : decode b_Mod_input 44 = .ok (.iastore, 1) := by decide +kernel
theorem d_Mod_input_45 : decode b_Mod_input 45 = .ok (.aload_n 0, 1) := by decide +kernel
theorem d_Mod_input_46 : decode b_Mod_input 46 = .ok (.getfield 31, 3) := by decide +kernel
theorem d_Mod_input_49 : decode b_Mod_input 49 = .ok (.iload_n 1, 1) := by decide +kernel
theorem d_Mod_input_50 : decode b_Mod_input 50 = .ok (.iaload, 1) := by decide +kernel
theorem d_Mod_input_51 : decode b_Mod_input 51 = .ok (.ireturn, 1) := by decide +kernel
abbrev b_Mod_clock : ByteArray := prog_8_method_32_code
def y_Mod_clock : MethodName := ⟨"CircuitDeskModel", "clock", "(I)I"⟩
def w_Mod_clock : List Cond := .code y_Mod_clock b_Mod_clock 4 (some .int) :: lw_gw
theorem d_Mod_clock_0 : decode b_Mod_clock 0 = .ok (.iload_n 1, 1) := by decide +kernel
theorem d_Mod_clock_1 : decode b_Mod_clock 1 = .ok (.iconst 1, 1) := by decide +kernel
theorem d_Mod_clock_2 : decode b_Mod_clock 2 = .ok (.bipush 30, 2) := by decide +kernel
theorem d_Mod_clock_4 : decode b_Mod_clock 4 = .ok (.invokestatic 81, 3) := by decide +kernel
theorem d_Mod_clock_7 : decode b_Mod_clock 7 = .ok (.ifCond .ne 5, 3) := by decide +kernel
theorem d_Mod_clock_10 : decode b_Mod_clock 10 = .ok (.iconst (-1), 1) := by decide +kernel
theorem d_Mod_clock_11 : decode b_Mod_clock 11 = .ok (.ireturn, 1) := by decide +kernel
theorem d_Mod_clock_12 : decode b_Mod_clock 12 = .ok (.aload_n 0, 1) := by decide +kernel
theorem d_Mod_clock_13 : decode b_Mod_clock 13 = .ok (.getfield 85, 3) := by decide +kernel
theorem d_Mod_clock_16 : decode b_Mod_clock 16 = .ok (.ifCond .ne 6, 3) := by decide +kernel
theorem d_Mod_clock_19 : decode b_Mod_clock 19 = .ok (.bipush (-2), 2) := by decide +kernel
theorem d_Mod_clock_21 : decode b_Mod_clock 21 = .ok (.ireturn, 1) := by decide +kernel
theorem d_Mod_clock_22 : decode b_Mod_clock 22 = .ok (.iconst 0, 1) := by decide +kernel
theorem d_Mod_clock_23 : decode b_Mod_clock 23 = .ok (.istore_n 2, 1) := by decide +kernel
theorem d_Mod_clock_24 : decode b_Mod_clock 24 = .ok (.iload_n 2, 1) := by decide +kernel
theorem d_Mod_clock_25 : decode b_Mod_clock 25 = .ok (.iload_n 1, 1) := by decide +kernel
theorem d_Mod_clock_26 : decode b_Mod_clock 26 = .ok (.if_icmp .ge 100, 3) := by decide +kernel
theorem d_Mod_clock_29 : decode b_Mod_clock 29 = .ok (.aload_n 0, 1) := by decide +kernel
theorem d_Mod_clock_30 : decode b_Mod_clock 30 = .ok (.invokevirtual 165, 3) := by decide +kernel
theorem d_Mod_clock_33 : decode b_Mod_clock 33 = .ok (.iconst 0, 1) := by decide +kernel
theorem d_Mod_clock_34 : decode b_Mod_clock 34 = .ok (.istore_n 3, 1) := by decide +kernel
theorem d_Mod_clock_35 : decode b_Mod_clock 35 = .ok (.iload_n 3, 1) := by decide +kernel
theorem d_Mod_clock_36 : decode b_Mod_clock 36 = .ok (.aload_n 0, 1) := by decide +kernel
theorem d_Mod_clock_37 : decode b_Mod_clock 37 = .ok (.getfield 78, 3) := by decide +kernel
theorem d_Mod_clock_40 : decode b_Mod_clock 40 = .ok (.if_icmp .ge 32, 3) := by decide +kernel
theorem d_Mod_clock_43 : decode b_Mod_clock 43 = .ok (.aload_n 0, 1) := by decide +kernel
theorem d_Mod_clock_44 : decode b_Mod_clock 44 = .ok (.getfield 7, 3) := by decide +kernel
theorem d_Mod_clock_47 : decode b_Mod_clock 47 = .ok (.iload_n 3, 1) := by decide +kernel
theorem d_Mod_clock_48 : decode b_Mod_clock 48 = .ok (.iaload, 1) := by decide +kernel
theorem d_Mod_clock_49 : decode b_Mod_clock 49 = .ok (.iconst 2, 1) := by decide +kernel
theorem d_Mod_clock_50 : decode b_Mod_clock 50 = .ok (.if_icmp .ne 16, 3) := by decide +kernel
theorem d_Mod_clock_53 : decode b_Mod_clock 53 = .ok (.aload_n 0, 1) := by decide +kernel
theorem d_Mod_clock_54 : decode b_Mod_clock 54 = .ok (.getfield 28, 3) := by decide +kernel
theorem d_Mod_clock_57 : decode b_Mod_clock 57 = .ok (.iload_n 3, 1) := by decide +kernel
theorem d_Mod_clock_58 : decode b_Mod_clock 58 = .ok (.aload_n 0, 1) := by decide +kernel
theorem d_Mod_clock_59 : decode b_Mod_clock 59 = .ok (.iload_n 3, 1) := by decide +kernel
theorem d_Mod_clock_60 : decode b_Mod_clock 60 = .ok (.bipush 112, 2) := by decide +kernel
theorem d_Mod_clock_62 : decode b_Mod_clock 62 = .ok (.invokevirtual 168, 3) := by decide +kernel
theorem d_Mod_clock_65 : decode b_Mod_clock 65 = .ok (.iastore, 1) := by decide +kernel
theorem d_Mod_clock_66 : decode b_Mod_clock 66 = .ok (.iinc 3 1, 3) := by decide +kernel
theorem d_Mod_clock_69 : decode b_Mod_clock 69 = .ok (.goto (-34), 3) := by decide +kernel
theorem d_Mod_clock_72 : decode b_Mod_clock 72 = .ok (.iconst 0, 1) := by decide +kernel
theorem d_Mod_clock_73 : decode b_Mod_clock 73 = .ok (.istore_n 3, 1) := by decide +kernel
theorem d_Mod_clock_74 : decode b_Mod_clock 74 = .ok (.iload_n 3, 1) := by decide +kernel
theorem d_Mod_clock_75 : decode b_Mod_clock 75 = .ok (.aload_n 0, 1) := by decide +kernel
theorem d_Mod_clock_76 : decode b_Mod_clock 76 = .ok (.getfield 78, 3) := by decide +kernel
theorem d_Mod_clock_79 : decode b_Mod_clock 79 = .ok (.if_icmp .ge 31, 3) := by decide +kernel
theorem d_Mod_clock_82 : decode b_Mod_clock 82 = .ok (.aload_n 0, 1) := by decide +kernel
theorem d_Mod_clock_83 : decode b_Mod_clock 83 = .ok (.getfield 7, 3) := by decide +kernel
theorem d_Mod_clock_86 : decode b_Mod_clock 86 = .ok (.iload_n 3, 1) := by decide +kernel
theorem d_Mod_clock_87 : decode b_Mod_clock 87 = .ok (.iaload, 1) := by decide +kernel
theorem d_Mod_clock_88 : decode b_Mod_clock 88 = .ok (.iconst 2, 1) := by decide +kernel
theorem d_Mod_clock_89 : decode b_Mod_clock 89 = .ok (.if_icmp .ne 15, 3) := by decide +kernel
theorem d_Mod_clock_92 : decode b_Mod_clock 92 = .ok (.aload_n 0, 1) := by decide +kernel
theorem d_Mod_clock_93 : decode b_Mod_clock 93 = .ok (.getfield 31, 3) := by decide +kernel
theorem d_Mod_clock_96 : decode b_Mod_clock 96 = .ok (.iload_n 3, 1) := by decide +kernel
theorem d_Mod_clock_97 : decode b_Mod_clock 97 = .ok (.aload_n 0, 1) := by decide +kernel
theorem d_Mod_clock_98 : decode b_Mod_clock 98 = .ok (.getfield 28, 3) := by decide +kernel
theorem d_Mod_clock_101 : decode b_Mod_clock 101 = .ok (.iload_n 3, 1) := by decide +kernel
theorem d_Mod_clock_102 : decode b_Mod_clock 102 = .ok (.iaload, 1) := by decide +kernel
theorem d_Mod_clock_103 : decode b_Mod_clock 103 = .ok (.iastore, 1) := by decide +kernel
theorem d_Mod_clock_104 : decode b_Mod_clock 104 = .ok (.iinc 3 1, 3) := by decide +kernel
theorem d_Mod_clock_107 : decode b_Mod_clock 107 = .ok (.goto (-33), 3) := by decide +kernel
theorem d_Mod_clock_110 : decode b_Mod_clock 110 = .ok (.aload_n 0, 1) := by decide +kernel
theorem d_Mod_clock_111 : decode b_Mod_clock 111 = .ok (.dup, 1) := by decide +kernel
theorem d_Mod_clock_112 : decode b_Mod_clock 112 = .ok (.getfield 127, 3) := by decide +kernel
theorem d_Mod_clock_115 : decode b_Mod_clock 115 = .ok (.iconst 1, 1) := by decide +kernel
theorem d_Mod_clock_116 : decode b_Mod_clock 116 = .ok (.iadd, 1) := by decide +kernel
theorem d_Mod_clock_117 : decode b_Mod_clock 117 = .ok (.putfield 127, 3) := by decide +kernel
theorem d_Mod_clock_120 : decode b_Mod_clock 120 = .ok (.iinc 2 1, 3) := by decide +kernel
theorem d_Mod_clock_123 : decode b_Mod_clock 123 = .ok (.goto (-99), 3) := by decide +kernel
theorem d_Mod_clock_126 : decode b_Mod_clock 126 = .ok (.aload_n 0, 1) := by decide +kernel
theorem d_Mod_clock_127 : decode b_Mod_clock 127 = .ok (.getfield 127, 3) := by decide +kernel
theorem d_Mod_clock_130 : decode b_Mod_clock 130 = .ok (.ireturn, 1) := by decide +kernel
abbrev b_Mod_reset : ByteArray := prog_8_method_33_code
def y_Mod_reset : MethodName := ⟨"CircuitDeskModel", "reset", "()Z"⟩
def w_Mod_reset : List Cond := .code y_Mod_reset b_Mod_reset 2 (some .boolean) :: lw_gw
theorem d_Mod_reset_0 : decode b_Mod_reset 0 = .ok (.aload_n 0, 1) := by decide +kernel
theorem d_Mod_reset_1 : decode b_Mod_reset 1 = .ok (.getfield 85, 3) := by decide +kernel
theorem d_Mod_reset_4 : decode b_Mod_reset 4 = .ok (.ifCond .ne 5, 3) := by decide +kernel
theorem d_Mod_reset_7 : decode b_Mod_reset 7 = .ok (.iconst 0, 1) := by decide +kernel
theorem d_Mod_reset_8 : decode b_Mod_reset 8 = .ok (.ireturn, 1) := by decide +kernel
theorem d_Mod_reset_9 : decode b_Mod_reset 9 = .ok (.iconst 0, 1) := by decide +kernel
theorem d_Mod_reset_10 : decode b_Mod_reset 10 = .ok (.istore_n 1, 1) := by decide +kernel
theorem d_Mod_reset_11 : decode b_Mod_reset 11 = .ok (.iload_n 1, 1) := by decide +kernel
theorem d_Mod_reset_12 : decode b_Mod_reset 12 = .ok (.aload_n 0, 1) := by decide +kernel
theorem d_Mod_reset_13 : decode b_Mod_reset 13 = .ok (.getfield 78, 3) := by decide +kernel
theorem d_Mod_reset_16 : decode b_Mod_reset 16 = .ok (.if_icmp .ge 47, 3) := by decide +kernel
theorem d_Mod_reset_19 : decode b_Mod_reset 19 = .ok (.aload_n 0, 1) := by decide +kernel
theorem d_Mod_reset_20 : decode b_Mod_reset 20 = .ok (.getfield 7, 3) := by decide +kernel
theorem d_Mod_reset_23 : decode b_Mod_reset 23 = .ok (.iload_n 1, 1) := by decide +kernel
theorem d_Mod_reset_24 : decode b_Mod_reset 24 = .ok (.iaload, 1) := by decide +kernel
theorem d_Mod_reset_25 : decode b_Mod_reset 25 = .ok (.iconst 2, 1) := by decide +kernel
theorem d_Mod_reset_26 : decode b_Mod_reset 26 = .ok (.if_icmp .ne 15, 3) := by decide +kernel
theorem d_Mod_reset_29 : decode b_Mod_reset 29 = .ok (.aload_n 0, 1) := by decide +kernel
theorem d_Mod_reset_30 : decode b_Mod_reset 30 = .ok (.getfield 31, 3) := by decide +kernel
theorem d_Mod_reset_33 : decode b_Mod_reset 33 = .ok (.iload_n 1, 1) := by decide +kernel
theorem d_Mod_reset_34 : decode b_Mod_reset 34 = .ok (.aload_n 0, 1) := by decide +kernel
theorem d_Mod_reset_35 : decode b_Mod_reset 35 = .ok (.getfield 16, 3) := by decide +kernel
theorem d_Mod_reset_38 : decode b_Mod_reset 38 = .ok (.iload_n 1, 1) := by decide +kernel
theorem d_Mod_reset_39 : decode b_Mod_reset 39 = .ok (.iaload, 1) := by decide +kernel
theorem d_Mod_reset_40 : decode b_Mod_reset 40 = .ok (.iastore, 1) := by decide +kernel
theorem d_Mod_reset_41 : decode b_Mod_reset 41 = .ok (.aload_n 0, 1) := by decide +kernel
theorem d_Mod_reset_42 : decode b_Mod_reset 42 = .ok (.getfield 7, 3) := by decide +kernel
theorem d_Mod_reset_45 : decode b_Mod_reset 45 = .ok (.iload_n 1, 1) := by decide +kernel
theorem d_Mod_reset_46 : decode b_Mod_reset 46 = .ok (.iaload, 1) := by decide +kernel
theorem d_Mod_reset_47 : decode b_Mod_reset 47 = .ok (.ifCond .ne 10, 3) := by decide +kernel
theorem d_Mod_reset_50 : decode b_Mod_reset 50 = .ok (.aload_n 0, 1) := by decide +kernel
theorem d_Mod_reset_51 : decode b_Mod_reset 51 = .ok (.getfield 31, 3) := by decide +kernel
theorem d_Mod_reset_54 : decode b_Mod_reset 54 = .ok (.iload_n 1, 1) := by decide +kernel
theorem d_Mod_reset_55 : decode b_Mod_reset 55 = .ok (.iconst 0, 1) := by decide +kernel
theorem d_Mod_reset_56 : decode b_Mod_reset 56 = .ok (.iastore, 1) := by decide +kernel
theorem d_Mod_reset_57 : decode b_Mod_reset 57 = .ok (.iinc 1 1, 3) := by decide +kernel
theorem d_Mod_reset_60 : decode b_Mod_reset 60 = .ok (.goto (-49), 3) := by decide +kernel
theorem d_Mod_reset_63 : decode b_Mod_reset 63 = .ok (.aload_n 0, 1) := by decide +kernel
theorem d_Mod_reset_64 : decode b_Mod_reset 64 = .ok (.iconst 0, 1) := by decide +kernel
theorem d_Mod_reset_65 : decode b_Mod_reset 65 = .ok (.putfield 127, 3) := by decide +kernel
theorem d_Mod_reset_68 : decode b_Mod_reset 68 = .ok (.iconst 1, 1) := by decide +kernel
theorem d_Mod_reset_69 : decode b_Mod_reset 69 = .ok (.ireturn, 1) := by decide +kernel
set_option maxHeartbeats 4000000 in
set_option maxRecDepth 100000 in
theorem c_Mod_input (l : Launch) (dC : Nat → ClassId) (dI : Nat → Nat → Nat) (cI cZ : ClassId) (a_mod a_mkind a_mwidth a_mreset a_mop a_mka a_mkb a_mkc a_mheld a_msort a_mof a_mfrom a_mbit a_mdone a_mrests a_mxx a_myy a_mdepth a_mone a_mbefore a_mfirst a_mturned : Nat) (tt sz : Nat) (mN : Nat) (mMs : Nat) (mG : Nat) (mCk : Nat) (mFw : Int32) (mRd : Nat) (mKd : Nat → Nat) (mWd : Nat → Nat) (mHd : Nat → Nat) (x : Int32) (y : Int32) (b_mN : mN ≤ 14) (b_mMs : mMs ≤ 20) (b_mG : mG ≤ 1280) (b_mRd : mRd ≤ 1) (b_mKd : ∀ j, mKd j < 4) (b_mWd : ∀ j, mWd j < 9) (b_mHd : ∀ j, mHd j < 256) : Met l y_Mod_input w_Mod_input ({ frames := 2, cells := 0, slots := 0, locals := 43 }) (va_Pc [.ref a_mod, .int x, .int y] (PW (dC, dI) classes [(cI, .int), (cZ, .boolean)] tt [(a_mod, .inr (6, [.ref a_mkind, .ref a_mwidth, .ref a_mreset, .ref a_mop, .ref a_mka, .ref a_mkb, .ref a_mkc, .ref a_mheld, .int (nI mN), .ref a_msort, .ref a_mof, .ref a_mfrom, .int (nI mMs), .ref a_mbit, .ref a_mdone, .ref a_mrests, .ref a_mxx, .ref a_myy, .ref a_mdepth, .ref a_mone, .int (nI mG), .int (nI mCk), .int mFw, .int (nI mRd), .ref a_mbefore, .ref a_mfirst, .ref a_mturned])), (a_mkind, .inl (cI, 14, .inl (nF mKd))), (a_mwidth, .inl (cI, 14, .inl (nF mWd))), (a_mheld, .inl (cI, 14, .inl (nF mHd)))] sz)) (va_Qi (fun (r : Int32) (u : (Nat → Nat)) => (∀ j, u j < 256) ∧ ((¬ (mRd = 1 ∧ hs mN x = 1 ∧ mKd (ix x) = 0) ∧ (-2) = r ∧ mHd = u) ∨ ((mRd = 1 ∧ hs mN x = 1 ∧ mKd (ix x) = 0) ∧ nI (lowb y (mWd (ix x))) = r ∧ upN mHd (ix x) (lowb y (mWd (ix x))) = u))) (AT (dC, dI) classes [(cI, .int), (cZ, .boolean)] (va_A [(a_mod, .inr (6, [.ref a_mkind, .ref a_mwidth, .ref a_mreset, .ref a_mop, .ref a_mka, .ref a_mkb, .ref a_mkc, .ref a_mheld, .int (nI mN), .ref a_msort, .ref a_mof, .ref a_mfrom, .int (nI mMs), .ref a_mbit, .ref a_mdone, .ref a_mrests, .ref a_mxx, .ref a_myy, .ref a_mdepth, .ref a_mone, .int (nI mG), .int (nI mCk), .int mFw, .int (nI mRd), .ref a_mbefore, .ref a_mfirst, .ref a_mturned])), (a_mkind, .inl (cI, 14, .inl (nF mKd))), (a_mwidth, .inl (cI, 14, .inl (nF mWd))), (a_mheld, .inl (cI, 14, .inl (nF mHd)))] sz) (fun (u : (Nat → Nat)) => [(a_mod, .inr (6, [.ref a_mkind, .ref a_mwidth, .ref a_mreset, .ref a_mop, .ref a_mka, .ref a_mkb, .ref a_mkc, .ref a_mheld, .int (nI mN), .ref a_msort, .ref a_mof, .ref a_mfrom, .int (nI mMs), .ref a_mbit, .ref a_mdone, .ref a_mrests, .ref a_mxx, .ref a_myy, .ref a_mdepth, .ref a_mone, .int (nI mG), .int (nI mCk), .int mFw, .int (nI mRd), .ref a_mbefore, .ref a_mfirst, .ref a_mturned])), (a_mkind, .inl (cI, 14, .inl (nF mKd))), (a_mwidth, .inl (cI, 14, .inl (nF mWd))), (a_mheld, .inl (cI, 14, .inl (nF u)))])) (va_A [(a_mod, .inr (6, [.ref a_mkind, .ref a_mwidth, .ref a_mreset, .ref a_mop, .ref a_mka, .ref a_mkb, .ref a_mkc, .ref a_mheld, .int (nI mN), .ref a_msort, .ref a_mof, .ref a_mfrom, .int (nI mMs), .ref a_mbit, .ref a_mdone, .ref a_mrests, .ref a_mxx, .ref a_myy, .ref a_mdepth, .ref a_mone, .int (nI mG), .int (nI mCk), .int mFw, .int (nI mRd), .ref a_mbefore, .ref a_mfirst, .ref a_mturned])), (a_mkind, .inl (cI, 14, .inl (nF mKd))), (a_mwidth, .inl (cI, 14, .inl (nF mWd))), (a_mheld, .inl (cI, 14, .inl (nF mHd)))] sz)) 0 0 (va_A [(a_mod, .inr (6, [.ref a_mkind, .ref a_mwidth, .ref a_mreset, .ref a_mop, .ref a_mka, .ref a_mkb, .ref a_mkc, .ref a_mheld, .int (nI mN), .ref a_msort, .ref a_mof, .ref a_mfrom, .int (nI mMs), .ref a_mbit, .ref a_mdone, .ref a_mrests, .ref a_mxx, .ref a_myy, .ref a_mdepth, .ref a_mone, .int (nI mG), .int (nI mCk), .int mFw, .int (nI mRd), .ref a_mbefore, .ref a_mfirst, .ref a_mturned])), (a_mkind, .inl (cI, 14, .inl (nF mKd))), (a_mwidth, .inl (cI, 14, .inl (nF mWd))), (a_mheld, .inl (cI, 14, .inl (nF mHd)))] sz) := by
  refine Met.ofW (cc := b_Mod_input) (maxL := 3) (ret := (some .int)) (by decide) rfl ?_
  intro p e s m args below meth c s₁ B hml hv
  obtain ⟨rfl, hsz, hP, hK, hD0, hE⟩ := hv
  have hx := B.exec
  have hb := B.bytes
  have hr := B.returns
  have hts := atoms_spec (ws := w_Mod_input) B.pre
  have hown : s.vm.findClass R_Mod = some m.cls := findClass_of_methodNamed B.named
  have hlocks := B.notSynchronized
  subst hsz
  have hD := hD0.self (sz := s.heap.size)
  generalize hAe : va_A [(a_mod, .inr (6, [.ref a_mkind, .ref a_mwidth, .ref a_mreset, .ref a_mop, .ref a_mka, .ref a_mkb, .ref a_mkc, .ref a_mheld, .int (nI mN), .ref a_msort, .ref a_mof, .ref a_mfrom, .int (nI mMs), .ref a_mbit, .ref a_mdone, .ref a_mrests, .ref a_mxx, .ref a_myy, .ref a_mdepth, .ref a_mone, .int (nI mG), .int (nI mCk), .int mFw, .int (nI mRd), .ref a_mbefore, .ref a_mfirst, .ref a_mturned])), (a_mkind, .inl (cI, 14, .inl (nF mKd))), (a_mwidth, .inl (cI, 14, .inl (nF mWd))), (a_mheld, .inl (cI, 14, .inl (nF mHd)))] s.heap.size = A at hD hE ⊢
  have hA : ∀ q : Nat, s.heap.size ≤ q → A q := fun q h => by rw [← hAe]; exact Or.inr h
  have hS : va_S A s.heap s.heap [] := va_S.rf
  have hP : va_P (dC, dI) classes [(a_mod, .inr (6, [.ref a_mkind, .ref a_mwidth, .ref a_mreset, .ref a_mop, .ref a_mka, .ref a_mkb, .ref a_mkc, .ref a_mheld, .int (nI mN), .ref a_msort, .ref a_mof, .ref a_mfrom, .int (nI mMs), .ref a_mbit, .ref a_mdone, .ref a_mrests, .ref a_mxx, .ref a_myy, .ref a_mdepth, .ref a_mone, .int (nI mG), .int (nI mCk), .int mFw, .int (nI mRd), .ref a_mbefore, .ref a_mfirst, .ref a_mturned])), (a_mkind, .inl (cI, 14, .inl (nF mKd))), (a_mwidth, .inl (cI, 14, .inl (nF mWd))), (a_mheld, .inl (cI, 14, .inl (nF mHd)))] s.heap := hP
  have hl := lv_entry ([.ref a_mod, .int x, .int y]) (n := 3) (Nat.le_of_ble_eq_true rfl)
  rw [lg_entry_eq]
  generalize (lg_sl ([.ref a_mod, .int x, .int y]) ++ List.replicate (3 - (lg_sl ([.ref a_mod, .int x, .int y])).length) Slot.unset).toArray = ls at hl ⊢
  have hl : lv_has ls 3 [(0, .ref a_mod), (1, .int x), (2, .int y)] := hl
  refine lv_aload_n hx hb d_Mod_input_0 rfl (lv_at hl 0 rfl) ?_
  refine va_get (D := (dC, dI)) (ci := 6) (v := .int (nI mRd)) (C := R_Mod) (T := F_Mod) (N := 27) hx hb hts (wi i_Mod) hown hK hP 0 rfl rfl 23 (by decide) (hts _ (mt 565 rfl rfl)) (fun _ h9 => h9) rfl d_Mod_input_1 ?_
  refine lv_if_eq (tgt := 24) hx hb d_Mod_input_4 (by decide) (fun c4 => ?_) (fun c4 => ?_)
  · skip
    have c4 : mRd = 0 := (nI_eq0 (by omega)).mp c4
    have hno : ¬ (mRd = 1 ∧ hs mN x = 1 ∧ mKd (ix x) = 0) := by first | omega | (intro h; rw [ix_of eX hXb] at h; exact c21 h.2.2)
    refine lv_bipush (v := (-2 : Int32)) hx hb d_Mod_input_24 rfl ?_
    exact W.iret (v := (-2 : Int32)) hx hb hr (fun t ht hW => ⟨⟨(-2 : Int32), (mHd), rfl, ⟨b_mHd, (show (¬ (mRd = 1 ∧ hs mN x = 1 ∧ mKd (ix x) = 0) ∧ (-2) = (-2 : Int32) ∧ mHd = mHd) ∨ ((mRd = 1 ∧ hs mN x = 1 ∧ mKd (ix x) = 0) ∧ nI (lowb y (mWd (ix x))) = (-2 : Int32) ∧ upN mHd (ix x) (lowb y (mWd (ix x))) = mHd) from Or.inl ⟨hno, rfl, rfl⟩)⟩, by rw [ht]; exact hP, va_K.moved hW.alike hK, hD⟩, hS.F ht⟩) hS.2.2 d_Mod_input_26
  · skip
    have c4 : ¬ (mRd = 0) := fun h => c4 ((nI_eq0 (by omega)).mpr h)
    refine lv_aload_n hx hb d_Mod_input_7 rfl (lv_at hl 0 rfl) ?_
    refine lv_iload_n hx hb d_Mod_input_8 rfl (lv_at hl 1 rfl) ?_
    refine k_i (wr := [(a_mkind, .inl (cI, 14, .inl (nF mKd))), (a_mwidth, .inl (cI, 14, .inl (nF mWd))), (a_mheld, .inl (cI, 14, .inl (nF mHd)))]) (w2 := fun (u : Unit) => [(a_mod, .inr (6, [.ref a_mkind, .ref a_mwidth, .ref a_mreset, .ref a_mop, .ref a_mka, .ref a_mkb, .ref a_mkc, .ref a_mheld, .int (nI mN), .ref a_msort, .ref a_mof, .ref a_mfrom, .int (nI mMs), .ref a_mbit, .ref a_mdone, .ref a_mrests, .ref a_mxx, .ref a_myy, .ref a_mdepth, .ref a_mone, .int (nI mG), .int (nI mCk), .int mFw, .int (nI mRd), .ref a_mbefore, .ref a_mfirst, .ref a_mturned])), (a_mkind, .inl (cI, 14, .inl (nF mKd))), (a_mwidth, .inl (cI, 14, .inl (nF mWd))), (a_mheld, .inl (cI, 14, .inl (nF mHd)))]) (va_runV (As := [.int x]) (rest := []) ⟨hx, hb, hml, hown, hts⟩ (c_Mod_is l dC dI cI cZ a_mod a_mkind a_mwidth a_mreset a_mop a_mka a_mkb a_mkc a_mheld a_msort a_mof a_mfrom a_mbit a_mdone a_mrests a_mxx a_myy a_mdepth a_mone a_mbefore a_mfirst a_mturned tt s.heap.size mN mMs mG mCk mFw mRd x (by omega) (by omega) (by omega) (by omega)) (cwV 1 hts (gd_V in_tl (mw 643 rfl rfl) (mw 645 rfl rfl) (mw 21 rfl rfl) (mw 47 rfl rfl) (mw 646 rfl rfl)) rfl rfl rfl (by decide +kernel) ⟨Nat.le_of_ble_eq_true rfl, Nat.le_of_ble_eq_true rfl⟩) (k_preV hK hP hD hS hA hE [0] (by decide) rfl 6 0 rfl rfl) rfl rfl hl.1 rfl (lv_room (Nat.le_of_ble_eq_true rfl)) d_Mod_input_9 ⟨Nat.zero_le _, Nat.zero_le _⟩) hP hD hS hA [0] [1, 2, 3] [3, 0, 1, 2] rfl rfl (by decide) (by decide) (by decide) (fun _ => rfl) (fun r_1 u H locs hw hP hD hS => ?_)
    obtain rfl : (r_1 = nI (hs mN x)) := hw
    have hP : va_P (dC, dI) classes [(a_mod, .inr (6, [.ref a_mkind, .ref a_mwidth, .ref a_mreset, .ref a_mop, .ref a_mka, .ref a_mkb, .ref a_mkc, .ref a_mheld, .int (nI mN), .ref a_msort, .ref a_mof, .ref a_mfrom, .int (nI mMs), .ref a_mbit, .ref a_mdone, .ref a_mrests, .ref a_mxx, .ref a_myy, .ref a_mdepth, .ref a_mone, .int (nI mG), .int (nI mCk), .int mFw, .int (nI mRd), .ref a_mbefore, .ref a_mfirst, .ref a_mturned])), (a_mkind, .inl (cI, 14, .inl (nF mKd))), (a_mwidth, .inl (cI, 14, .inl (nF mWd))), (a_mheld, .inl (cI, 14, .inl (nF mHd)))] H := hP
    have hD : va_D A [(a_mod, .inr (6, [.ref a_mkind, .ref a_mwidth, .ref a_mreset, .ref a_mop, .ref a_mka, .ref a_mkb, .ref a_mkc, .ref a_mheld, .int (nI mN), .ref a_msort, .ref a_mof, .ref a_mfrom, .int (nI mMs), .ref a_mbit, .ref a_mdone, .ref a_mrests, .ref a_mxx, .ref a_myy, .ref a_mdepth, .ref a_mone, .int (nI mG), .int (nI mCk), .int mFw, .int (nI mRd), .ref a_mbefore, .ref a_mfirst, .ref a_mturned])), (a_mkind, .inl (cI, 14, .inl (nF mKd))), (a_mwidth, .inl (cI, 14, .inl (nF mWd))), (a_mheld, .inl (cI, 14, .inl (nF mHd)))] := hD
    refine lv_if_eq (tgt := 24) hx hb d_Mod_input_12 (by decide) (fun c12 => ?_) (fun c12 => ?_)
    · skip
      have c12 : (hs mN x) = 0 := (nI_eq0 (by have := hs_le mN x; omega)).mp c12
      have hno : ¬ (mRd = 1 ∧ hs mN x = 1 ∧ mKd (ix x) = 0) := by first | omega | (intro h; rw [ix_of eX hXb] at h; exact c21 h.2.2)
      refine lv_bipush (v := (-2 : Int32)) hx hb d_Mod_input_24 rfl ?_
      exact W.iret (v := (-2 : Int32)) hx hb hr (fun t ht hW => ⟨⟨(-2 : Int32), (mHd), rfl, ⟨b_mHd, (show (¬ (mRd = 1 ∧ hs mN x = 1 ∧ mKd (ix x) = 0) ∧ (-2) = (-2 : Int32) ∧ mHd = mHd) ∨ ((mRd = 1 ∧ hs mN x = 1 ∧ mKd (ix x) = 0) ∧ nI (lowb y (mWd (ix x))) = (-2 : Int32) ∧ upN mHd (ix x) (lowb y (mWd (ix x))) = mHd) from Or.inl ⟨hno, rfl, rfl⟩)⟩, by rw [ht]; exact hP, va_K.moved hW.alike hK, hD⟩, hS.F ht⟩) hS.2.2 d_Mod_input_26
    · skip
      have c12 : ¬ ((hs mN x) = 0) := fun h => c12 ((nI_eq0 (by have := hs_le mN x; omega)).mpr h)
      have hs1 : hs mN x = 1 := by have := hs_le mN x; omega
      obtain ⟨X, eX, hXn, hXb⟩ := hs_of (n := mN) (x := x) (by rw [hs1]; decide)
      rw [eX] at hl
      refine lv_aload_n hx hb d_Mod_input_15 rfl (lv_at hl 0 rfl) ?_
      refine va_get (D := (dC, dI)) (ci := 6) (v := .ref a_mkind) (C := R_Mod) (T := F_Mod) (N := 27) hx hb hts (wi i_Mod) hown hK hP 0 rfl rfl 0 (by decide) (hts _ (mt 542 rfl rfl)) (fun _ h9 => h9) rfl d_Mod_input_16 ?_
      refine lv_iload_n hx hb d_Mod_input_19 rfl (lv_at hl 1 rfl) ?_
      refine k_ild hx hb hK hP 1 0 rfl rfl (by omega) (by decide) d_Mod_input_20 ?_
      have hb_2 := b_mKd X
      refine lv_if_eq (tgt := 27) hx hb d_Mod_input_21 (by decide) (fun c21 => ?_) (fun c21 => ?_)
      · skip
        have c21 : (mKd X) = 0 := (nI_eq0 (by omega)).mp c21
        have hok : mRd = 1 ∧ hs mN x = 1 ∧ mKd (ix x) = 0 := ⟨by omega, hs1, by rw [ix_of eX hXb]; exact c21⟩
        have hw9 := b_mWd X
        have hp8 := pow8 (n := mWd X) (by omega)
        have hpp := Nat.two_pow_pos (mWd X)
        have hlb := lowb_lt y (mWd X)
        refine lv_aload_n hx hb d_Mod_input_27 rfl (lv_at hl 0 rfl) ?_
        refine va_get (D := (dC, dI)) (ci := 6) (v := .ref a_mheld) (C := R_Mod) (T := F_Mod) (N := 27) hx hb hts (wi i_Mod) hown hK hP 0 rfl rfl 7 (by decide) (hts _ (mt 549 rfl rfl)) (fun _ h9 => h9) rfl d_Mod_input_28 ?_
        refine lv_iload_n hx hb d_Mod_input_31 rfl (lv_at hl 1 rfl) ?_
        refine lv_iload_n hx hb d_Mod_input_32 rfl (lv_at hl 2 rfl) ?_
        refine lv_iconst (v := nI 1) hx hb d_Mod_input_33 rfl ?_
        refine lv_aload_n hx hb d_Mod_input_34 rfl (lv_at hl 0 rfl) ?_
        refine va_get (D := (dC, dI)) (ci := 6) (v := .ref a_mwidth) (C := R_Mod) (T := F_Mod) (N := 27) hx hb hts (wi i_Mod) hown hK hP 0 rfl rfl 1 (by decide) (hts _ (mt 543 rfl rfl)) (fun _ h9 => h9) rfl d_Mod_input_35 ?_
        refine lv_iload_n hx hb d_Mod_input_38 rfl (lv_at hl 1 rfl) ?_
        refine k_ild hx hb hK hP 2 0 rfl rfl (by omega) (by decide) d_Mod_input_39 ?_
        have hb_3 := b_mWd X
        refine lv_ishl hx hb d_Mod_input_40 ?_
        refine k_top (nI_shl _ (by omega)) ?_
        refine lv_iconst (v := nI 1) hx hb d_Mod_input_41 rfl ?_
        refine lv_isub hx hb d_Mod_input_42 ?_
        refine k_top (pk_sub (by omega)) ?_
        refine lv_iand hx hb d_Mod_input_43 ?_
        refine k_top (show y &&& (nI ((1 * 2 ^ (mWd X)) - 1)) = nI (lowb y (mWd X)) from (by rw [Nat.one_mul]; exact lowb_row y (by omega))) ?_
        refine k_ist hx hb hK hP hD hS 3 0 rfl rfl (by omega) (by decide) d_Mod_input_44 (fun H locs hP hD hS => ?_)
        have bb_4 : ∀ j, upN mHd X (lowb y (mWd X)) j < 256 := upN_lt b_mHd (by omega)
        have hP : va_P (dC, dI) classes [(a_mod, .inr (6, [.ref a_mkind, .ref a_mwidth, .ref a_mreset, .ref a_mop, .ref a_mka, .ref a_mkb, .ref a_mkc, .ref a_mheld, .int (nI mN), .ref a_msort, .ref a_mof, .ref a_mfrom, .int (nI mMs), .ref a_mbit, .ref a_mdone, .ref a_mrests, .ref a_mxx, .ref a_myy, .ref a_mdepth, .ref a_mone, .int (nI mG), .int (nI mCk), .int mFw, .int (nI mRd), .ref a_mbefore, .ref a_mfirst, .ref a_mturned])), (a_mkind, .inl (cI, 14, .inl (nF mKd))), (a_mwidth, .inl (cI, 14, .inl (nF mWd))), (a_mheld, .inl (cI, 14, .inl (nF (upN mHd X (lowb y (mWd X))))))] H := hP
        have hD : va_D A [(a_mod, .inr (6, [.ref a_mkind, .ref a_mwidth, .ref a_mreset, .ref a_mop, .ref a_mka, .ref a_mkb, .ref a_mkc, .ref a_mheld, .int (nI mN), .ref a_msort, .ref a_mof, .ref a_mfrom, .int (nI mMs), .ref a_mbit, .ref a_mdone, .ref a_mrests, .ref a_mxx, .ref a_myy, .ref a_mdepth, .ref a_mone, .int (nI mG), .int (nI mCk), .int mFw, .int (nI mRd), .ref a_mbefore, .ref a_mfirst, .ref a_mturned])), (a_mkind, .inl (cI, 14, .inl (nF mKd))), (a_mwidth, .inl (cI, 14, .inl (nF mWd))), (a_mheld, .inl (cI, 14, .inl (nF (upN mHd X (lowb y (mWd X))))))] := hD
        refine lv_aload_n hx hb d_Mod_input_45 rfl (lv_at hl 0 rfl) ?_
        refine va_get (D := (dC, dI)) (ci := 6) (v := .ref a_mheld) (C := R_Mod) (T := F_Mod) (N := 27) hx hb hts (wi i_Mod) hown hK hP 0 rfl rfl 7 (by decide) (hts _ (mt 549 rfl rfl)) (fun _ h9 => h9) rfl d_Mod_input_46 ?_
        refine lv_iload_n hx hb d_Mod_input_49 rfl (lv_at hl 1 rfl) ?_
        refine k_ild hx hb hK hP 3 0 rfl rfl (by omega) (by decide) d_Mod_input_50 ?_
        have hb_5 := bb_4 X
        exact W.iret (v := nI ((upN mHd X (lowb y (mWd X))) X)) hx hb hr (fun t ht hW => ⟨⟨nI ((upN mHd X (lowb y (mWd X))) X), (upN mHd X (lowb y (mWd X))), rfl, ⟨bb_4, (show (¬ (mRd = 1 ∧ hs mN x = 1 ∧ mKd (ix x) = 0) ∧ (-2) = (nI ((upN mHd X (lowb y (mWd X))) X)) ∧ mHd = (upN mHd X (lowb y (mWd X)))) ∨ ((mRd = 1 ∧ hs mN x = 1 ∧ mKd (ix x) = 0) ∧ nI (lowb y (mWd (ix x))) = (nI ((upN mHd X (lowb y (mWd X))) X)) ∧ upN mHd (ix x) (lowb y (mWd (ix x))) = (upN mHd X (lowb y (mWd X)))) from Or.inr ⟨hok, by rw [upN_self, ix_of eX hXb], by rw [ix_of eX hXb]⟩)⟩, by rw [ht]; exact hP, va_K.moved hW.alike hK, hD⟩, hS.F ht⟩) hS.2.2 d_Mod_input_51
      · skip
        have c21 : ¬ ((mKd X) = 0) := fun h => c21 ((nI_eq0 (by omega)).mpr h)
        have hno : ¬ (mRd = 1 ∧ hs mN x = 1 ∧ mKd (ix x) = 0) := by first | omega | (intro h; rw [ix_of eX hXb] at h; exact c21 h.2.2)
        refine lv_bipush (v := (-2 : Int32)) hx hb d_Mod_input_24 rfl ?_
        exact W.iret (v := (-2 : Int32)) hx hb hr (fun t ht hW => ⟨⟨(-2 : Int32), (mHd), rfl, ⟨b_mHd, (show (¬ (mRd = 1 ∧ hs mN x = 1 ∧ mKd (ix x) = 0) ∧ (-2) = (-2 : Int32) ∧ mHd = mHd) ∨ ((mRd = 1 ∧ hs mN x = 1 ∧ mKd (ix x) = 0) ∧ nI (lowb y (mWd (ix x))) = (-2 : Int32) ∧ upN mHd (ix x) (lowb y (mWd (ix x))) = mHd) from Or.inl ⟨hno, rfl, rfl⟩)⟩, by rw [ht]; exact hP, va_K.moved hW.alike hK, hD⟩, hS.F ht⟩) hS.2.2 d_Mod_input_26
set_option maxHeartbeats 4000000 in
set_option maxRecDepth 100000 in
theorem c_Mod_clock (l : Launch) (dC : Nat → ClassId) (dI : Nat → Nat → Nat) (cI cZ : ClassId) (a_mod a_mkind a_mwidth a_mreset a_mop a_mka a_mkb a_mkc a_mheld a_msort a_mof a_mfrom a_mbit a_mdone a_mrests a_mxx a_myy a_mdepth a_mone a_mbefore a_mfirst a_mturned : Nat) (tt sz : Nat) (mN : Nat) (mMs : Nat) (mG : Nat) (mCk : Nat) (mFw : Int32) (mRd : Nat) (mKd : Nat → Nat) (mWd : Nat → Nat) (mHd : Nat → Nat) (mBi : Nat → Nat) (mX : Nat → Nat) (mY : Nat → Nat) (mDe : Nat → Nat) (mIo : Nat → Nat) (mAc : Nat → Int32) (gd : Nat) (P : Nat → Nat) (Dp : Nat → Nat) (Sl : Nat → Nat) (T : Nat → Nat) (CB : Nat → Nat → Nat) (NX : Nat → Nat → Nat) (x : Int32) (b_mN : mN ≤ 14) (b_mMs : mMs ≤ 20) (b_mG : mG ≤ 1280) (b_mRd : mRd ≤ 1) (b_mKd : ∀ j, mKd j < 4) (b_mWd : ∀ j, mWd j < 9) (b_mHd : ∀ j, mHd j < 256) (b_mBi : ∀ j, mBi j < 2786) (b_mX : ∀ j, mX j < 2786) (b_mY : ∀ j, mY j < 2786) (b_mDe : ∀ j, mDe j < 1400) (b_mIo : ∀ j, mIo j < 2) (hM : mRd = 1 → MRD mN mKd mWd mG gd P Dp Sl T mX mY mDe mBi CB NX) : Met l y_Mod_clock w_Mod_clock ({ frames := 2, cells := 0, slots := 0, locals := 46 }) (va_Pc [.ref a_mod, .int x] (PW (dC, dI) classes [(cI, .int), (cZ, .boolean)] tt [(a_mod, .inr (6, [.ref a_mkind, .ref a_mwidth, .ref a_mreset, .ref a_mop, .ref a_mka, .ref a_mkb, .ref a_mkc, .ref a_mheld, .int (nI mN), .ref a_msort, .ref a_mof, .ref a_mfrom, .int (nI mMs), .ref a_mbit, .ref a_mdone, .ref a_mrests, .ref a_mxx, .ref a_myy, .ref a_mdepth, .ref a_mone, .int (nI mG), .int (nI mCk), .int mFw, .int (nI mRd), .ref a_mbefore, .ref a_mfirst, .ref a_mturned])), (a_mkind, .inl (cI, 14, .inl (nF mKd))), (a_mwidth, .inl (cI, 14, .inl (nF mWd))), (a_mheld, .inl (cI, 14, .inl (nF mHd))), (a_mbit, .inl (cI, 224, .inl (nF mBi))), (a_mxx, .inl (cI, 2600, .inl (nF mX))), (a_myy, .inl (cI, 2600, .inl (nF mY))), (a_mdepth, .inl (cI, 2600, .inl (nF mDe))), (a_mone, .inl (cZ, 2600, .inl (nF mIo))), (a_mkc, .inl (cI, 14, .inl mAc))] sz)) (va_Qi (fun (r : Int32) (u : (Nat → Nat) × (Nat → Nat) × (Nat → Int32) × Nat) => (∀ j, u.1 j < 256) ∧ (∀ j, u.2.1 j < 2) ∧ ((¬ (1 ≤ x.toInt ∧ x.toInt ≤ 30) ∧ (-1) = r ∧ mCk = u.2.2.2 ∧ mHd = u.1 ∧ mAc = u.2.2.1) ∨ ((1 ≤ x.toInt ∧ x.toInt ≤ 30) ∧ mRd = 0 ∧ (-2) = r ∧ mCk = u.2.2.2 ∧ mHd = u.1 ∧ mAc = u.2.2.1) ∨ ((1 ≤ x.toInt ∧ x.toInt ≤ 30) ∧ mRd = 1 ∧ nI (mCk + ix x) = r ∧ mCk + ix x = u.2.2.2 ∧ (ckH mN mKd mWd NX mHd (ix x)) = u.1 ∧ ∀ z, ¬ mKd z = 2 → u.2.2.1 z = mAc z))) (AT (dC, dI) classes [(cI, .int), (cZ, .boolean)] (va_A [(a_mod, .inr (6, [.ref a_mkind, .ref a_mwidth, .ref a_mreset, .ref a_mop, .ref a_mka, .ref a_mkb, .ref a_mkc, .ref a_mheld, .int (nI mN), .ref a_msort, .ref a_mof, .ref a_mfrom, .int (nI mMs), .ref a_mbit, .ref a_mdone, .ref a_mrests, .ref a_mxx, .ref a_myy, .ref a_mdepth, .ref a_mone, .int (nI mG), .int (nI mCk), .int mFw, .int (nI mRd), .ref a_mbefore, .ref a_mfirst, .ref a_mturned])), (a_mkind, .inl (cI, 14, .inl (nF mKd))), (a_mwidth, .inl (cI, 14, .inl (nF mWd))), (a_mheld, .inl (cI, 14, .inl (nF mHd))), (a_mbit, .inl (cI, 224, .inl (nF mBi))), (a_mxx, .inl (cI, 2600, .inl (nF mX))), (a_myy, .inl (cI, 2600, .inl (nF mY))), (a_mdepth, .inl (cI, 2600, .inl (nF mDe))), (a_mone, .inl (cZ, 2600, .inl (nF mIo))), (a_mkc, .inl (cI, 14, .inl mAc))] sz) (fun (u : (Nat → Nat) × (Nat → Nat) × (Nat → Int32) × Nat) => [(a_mod, .inr (6, [.ref a_mkind, .ref a_mwidth, .ref a_mreset, .ref a_mop, .ref a_mka, .ref a_mkb, .ref a_mkc, .ref a_mheld, .int (nI mN), .ref a_msort, .ref a_mof, .ref a_mfrom, .int (nI mMs), .ref a_mbit, .ref a_mdone, .ref a_mrests, .ref a_mxx, .ref a_myy, .ref a_mdepth, .ref a_mone, .int (nI mG), .int (nI u.2.2.2), .int mFw, .int (nI mRd), .ref a_mbefore, .ref a_mfirst, .ref a_mturned])), (a_mkind, .inl (cI, 14, .inl (nF mKd))), (a_mwidth, .inl (cI, 14, .inl (nF mWd))), (a_mheld, .inl (cI, 14, .inl (nF u.1))), (a_mbit, .inl (cI, 224, .inl (nF mBi))), (a_mxx, .inl (cI, 2600, .inl (nF mX))), (a_myy, .inl (cI, 2600, .inl (nF mY))), (a_mdepth, .inl (cI, 2600, .inl (nF mDe))), (a_mone, .inl (cZ, 2600, .inl (nF u.2.1))), (a_mkc, .inl (cI, 14, .inl u.2.2.1))])) (va_A [(a_mod, .inr (6, [.ref a_mkind, .ref a_mwidth, .ref a_mreset, .ref a_mop, .ref a_mka, .ref a_mkb, .ref a_mkc, .ref a_mheld, .int (nI mN), .ref a_msort, .ref a_mof, .ref a_mfrom, .int (nI mMs), .ref a_mbit, .ref a_mdone, .ref a_mrests, .ref a_mxx, .ref a_myy, .ref a_mdepth, .ref a_mone, .int (nI mG), .int (nI mCk), .int mFw, .int (nI mRd), .ref a_mbefore, .ref a_mfirst, .ref a_mturned])), (a_mkind, .inl (cI, 14, .inl (nF mKd))), (a_mwidth, .inl (cI, 14, .inl (nF mWd))), (a_mheld, .inl (cI, 14, .inl (nF mHd))), (a_mbit, .inl (cI, 224, .inl (nF mBi))), (a_mxx, .inl (cI, 2600, .inl (nF mX))), (a_myy, .inl (cI, 2600, .inl (nF mY))), (a_mdepth, .inl (cI, 2600, .inl (nF mDe))), (a_mone, .inl (cZ, 2600, .inl (nF mIo))), (a_mkc, .inl (cI, 14, .inl mAc))] sz)) 0 0 (va_A [(a_mod, .inr (6, [.ref a_mkind, .ref a_mwidth, .ref a_mreset, .ref a_mop, .ref a_mka, .ref a_mkb, .ref a_mkc, .ref a_mheld, .int (nI mN), .ref a_msort, .ref a_mof, .ref a_mfrom, .int (nI mMs), .ref a_mbit, .ref a_mdone, .ref a_mrests, .ref a_mxx, .ref a_myy, .ref a_mdepth, .ref a_mone, .int (nI mG), .int (nI mCk), .int mFw, .int (nI mRd), .ref a_mbefore, .ref a_mfirst, .ref a_mturned])), (a_mkind, .inl (cI, 14, .inl (nF mKd))), (a_mwidth, .inl (cI, 14, .inl (nF mWd))), (a_mheld, .inl (cI, 14, .inl (nF mHd))), (a_mbit, .inl (cI, 224, .inl (nF mBi))), (a_mxx, .inl (cI, 2600, .inl (nF mX))), (a_myy, .inl (cI, 2600, .inl (nF mY))), (a_mdepth, .inl (cI, 2600, .inl (nF mDe))), (a_mone, .inl (cZ, 2600, .inl (nF mIo))), (a_mkc, .inl (cI, 14, .inl mAc))] sz) := by
  refine Met.ofW (cc := b_Mod_clock) (maxL := 4) (ret := (some .int)) (by decide) rfl ?_
  intro p e s m args below meth c s₁ B hml hv
  obtain ⟨rfl, hsz, hP, hK, hD0, hE⟩ := hv
  have hx := B.exec
  have hb := B.bytes
  have hr := B.returns
  have hts := atoms_spec (ws := w_Mod_clock) B.pre
  have hown : s.vm.findClass R_Mod = some m.cls := findClass_of_methodNamed B.named
  have hlocks := B.notSynchronized
  subst hsz
  have hD := hD0.self (sz := s.heap.size)
  generalize hAe : va_A [(a_mod, .inr (6, [.ref a_mkind, .ref a_mwidth, .ref a_mreset, .ref a_mop, .ref a_mka, .ref a_mkb, .ref a_mkc, .ref a_mheld, .int (nI mN), .ref a_msort, .ref a_mof, .ref a_mfrom, .int (nI mMs), .ref a_mbit, .ref a_mdone, .ref a_mrests, .ref a_mxx, .ref a_myy, .ref a_mdepth, .ref a_mone, .int (nI mG), .int (nI mCk), .int mFw, .int (nI mRd), .ref a_mbefore, .ref a_mfirst, .ref a_mturned])), (a_mkind, .inl (cI, 14, .inl (nF mKd))), (a_mwidth, .inl (cI, 14, .inl (nF mWd))), (a_mheld, .inl (cI, 14, .inl (nF mHd))), (a_mbit, .inl (cI, 224, .inl (nF mBi))), (a_mxx, .inl (cI, 2600, .inl (nF mX))), (a_myy, .inl (cI, 2600, .inl (nF mY))), (a_mdepth, .inl (cI, 2600, .inl (nF mDe))), (a_mone, .inl (cZ, 2600, .inl (nF mIo))), (a_mkc, .inl (cI, 14, .inl mAc))] s.heap.size = A at hD hE ⊢
  have hA : ∀ q : Nat, s.heap.size ≤ q → A q := fun q h => by rw [← hAe]; exact Or.inr h
  have hS : va_S A s.heap s.heap [] := va_S.rf
  have hP : va_P (dC, dI) classes [(a_mod, .inr (6, [.ref a_mkind, .ref a_mwidth, .ref a_mreset, .ref a_mop, .ref a_mka, .ref a_mkb, .ref a_mkc, .ref a_mheld, .int (nI mN), .ref a_msort, .ref a_mof, .ref a_mfrom, .int (nI mMs), .ref a_mbit, .ref a_mdone, .ref a_mrests, .ref a_mxx, .ref a_myy, .ref a_mdepth, .ref a_mone, .int (nI mG), .int (nI mCk), .int mFw, .int (nI mRd), .ref a_mbefore, .ref a_mfirst, .ref a_mturned])), (a_mkind, .inl (cI, 14, .inl (nF mKd))), (a_mwidth, .inl (cI, 14, .inl (nF mWd))), (a_mheld, .inl (cI, 14, .inl (nF mHd))), (a_mbit, .inl (cI, 224, .inl (nF mBi))), (a_mxx, .inl (cI, 2600, .inl (nF mX))), (a_myy, .inl (cI, 2600, .inl (nF mY))), (a_mdepth, .inl (cI, 2600, .inl (nF mDe))), (a_mone, .inl (cZ, 2600, .inl (nF mIo))), (a_mkc, .inl (cI, 14, .inl mAc))] s.heap := hP
  have hl := lv_entry ([.ref a_mod, .int x]) (n := 4) (Nat.le_of_ble_eq_true rfl)
  rw [lg_entry_eq]
  generalize (lg_sl ([.ref a_mod, .int x]) ++ List.replicate (4 - (lg_sl ([.ref a_mod, .int x])).length) Slot.unset).toArray = ls at hl ⊢
  have hl : lv_has ls 4 [(0, .ref a_mod), (1, .int x)] := hl
  refine lv_iload_n hx hb d_Mod_clock_0 rfl (lv_at hl 1 rfl) ?_
  refine lv_iconst (v := nI 1) hx hb d_Mod_clock_1 rfl ?_
  refine lv_bipush (v := nI 30) hx hb d_Mod_clock_2 rfl ?_
  refine k_i (wr := [(a_mod, .inr (6, [.ref a_mkind, .ref a_mwidth, .ref a_mreset, .ref a_mop, .ref a_mka, .ref a_mkb, .ref a_mkc, .ref a_mheld, .int (nI mN), .ref a_msort, .ref a_mof, .ref a_mfrom, .int (nI mMs), .ref a_mbit, .ref a_mdone, .ref a_mrests, .ref a_mxx, .ref a_myy, .ref a_mdepth, .ref a_mone, .int (nI mG), .int (nI mCk), .int mFw, .int (nI mRd), .ref a_mbefore, .ref a_mfirst, .ref a_mturned])), (a_mkind, .inl (cI, 14, .inl (nF mKd))), (a_mwidth, .inl (cI, 14, .inl (nF mWd))), (a_mheld, .inl (cI, 14, .inl (nF mHd))), (a_mbit, .inl (cI, 224, .inl (nF mBi))), (a_mxx, .inl (cI, 2600, .inl (nF mX))), (a_myy, .inl (cI, 2600, .inl (nF mY))), (a_mdepth, .inl (cI, 2600, .inl (nF mDe))), (a_mone, .inl (cZ, 2600, .inl (nF mIo))), (a_mkc, .inl (cI, 14, .inl mAc))]) (w2 := fun (u : Unit) => [(a_mod, .inr (6, [.ref a_mkind, .ref a_mwidth, .ref a_mreset, .ref a_mop, .ref a_mka, .ref a_mkb, .ref a_mkc, .ref a_mheld, .int (nI mN), .ref a_msort, .ref a_mof, .ref a_mfrom, .int (nI mMs), .ref a_mbit, .ref a_mdone, .ref a_mrests, .ref a_mxx, .ref a_myy, .ref a_mdepth, .ref a_mone, .int (nI mG), .int (nI mCk), .int mFw, .int (nI mRd), .ref a_mbefore, .ref a_mfirst, .ref a_mturned])), (a_mkind, .inl (cI, 14, .inl (nF mKd))), (a_mwidth, .inl (cI, 14, .inl (nF mWd))), (a_mheld, .inl (cI, 14, .inl (nF mHd))), (a_mbit, .inl (cI, 224, .inl (nF mBi))), (a_mxx, .inl (cI, 2600, .inl (nF mX))), (a_myy, .inl (cI, 2600, .inl (nF mY))), (a_mdepth, .inl (cI, 2600, .inl (nF mDe))), (a_mone, .inl (cZ, 2600, .inl (nF mIo))), (a_mkc, .inl (cI, 14, .inl mAc))]) (va_runS (As := [.int x, .int (nI 1), .int (nI 30)]) (rest := []) ⟨hx, hb, hml, hown, hts⟩ (c_Mod_inN l dC dI cI cZ  tt s.heap.size  x 1 30 (by omega) (by omega)) (va_cwS 3 hts (gd_S in_tl (mw 628 rfl rfl) (mw 629 rfl rfl) (mw 47 rfl rfl) (mw 630 rfl rfl)) rfl rfl rfl (by decide +kernel) ⟨Nat.le_of_ble_eq_true rfl, Nat.le_of_ble_eq_true rfl⟩) (k_preS hK hP hD hS hA hE [] (by decide) rfl) rfl rfl hl.1 rfl (lv_room (Nat.le_of_ble_eq_true rfl)) d_Mod_clock_4 ⟨Nat.zero_le _, Nat.zero_le _⟩) hP hD hS hA [] [0, 1, 2, 3, 4, 5, 6, 7, 8, 9] [0, 1, 2, 3, 4, 5, 6, 7, 8, 9] rfl rfl (by decide) (by decide) (by decide) (fun _ => rfl) (fun r_1 u H locs hw hP hD hS => ?_)
  obtain rfl : (r_1 = nI (inr x.toInt ((1 : Nat) : Int) ((30 : Nat) : Int))) := hw
  have hP : va_P (dC, dI) classes [(a_mod, .inr (6, [.ref a_mkind, .ref a_mwidth, .ref a_mreset, .ref a_mop, .ref a_mka, .ref a_mkb, .ref a_mkc, .ref a_mheld, .int (nI mN), .ref a_msort, .ref a_mof, .ref a_mfrom, .int (nI mMs), .ref a_mbit, .ref a_mdone, .ref a_mrests, .ref a_mxx, .ref a_myy, .ref a_mdepth, .ref a_mone, .int (nI mG), .int (nI mCk), .int mFw, .int (nI mRd), .ref a_mbefore, .ref a_mfirst, .ref a_mturned])), (a_mkind, .inl (cI, 14, .inl (nF mKd))), (a_mwidth, .inl (cI, 14, .inl (nF mWd))), (a_mheld, .inl (cI, 14, .inl (nF mHd))), (a_mbit, .inl (cI, 224, .inl (nF mBi))), (a_mxx, .inl (cI, 2600, .inl (nF mX))), (a_myy, .inl (cI, 2600, .inl (nF mY))), (a_mdepth, .inl (cI, 2600, .inl (nF mDe))), (a_mone, .inl (cZ, 2600, .inl (nF mIo))), (a_mkc, .inl (cI, 14, .inl mAc))] H := hP
  have hD : va_D A [(a_mod, .inr (6, [.ref a_mkind, .ref a_mwidth, .ref a_mreset, .ref a_mop, .ref a_mka, .ref a_mkb, .ref a_mkc, .ref a_mheld, .int (nI mN), .ref a_msort, .ref a_mof, .ref a_mfrom, .int (nI mMs), .ref a_mbit, .ref a_mdone, .ref a_mrests, .ref a_mxx, .ref a_myy, .ref a_mdepth, .ref a_mone, .int (nI mG), .int (nI mCk), .int mFw, .int (nI mRd), .ref a_mbefore, .ref a_mfirst, .ref a_mturned])), (a_mkind, .inl (cI, 14, .inl (nF mKd))), (a_mwidth, .inl (cI, 14, .inl (nF mWd))), (a_mheld, .inl (cI, 14, .inl (nF mHd))), (a_mbit, .inl (cI, 224, .inl (nF mBi))), (a_mxx, .inl (cI, 2600, .inl (nF mX))), (a_myy, .inl (cI, 2600, .inl (nF mY))), (a_mdepth, .inl (cI, 2600, .inl (nF mDe))), (a_mone, .inl (cZ, 2600, .inl (nF mIo))), (a_mkc, .inl (cI, 14, .inl mAc))] := hD
  refine lv_if_ne (tgt := 12) hx hb d_Mod_clock_7 (by decide) (fun c7 => ?_) (fun c7 => ?_)
  · skip
    have c7 : ¬ ((inr x.toInt ((1 : Nat) : Int) ((30 : Nat) : Int)) = 0) := fun h => c7 ((nI_eq0 (Nat.lt_of_le_of_lt (inr_le _ _ _) (by decide))).mpr h)
    have q7 := inr_1 c7
    obtain ⟨X, eX, hX, hXb⟩ := raw_nat (x := x) (by omega)
    rw [eX] at hl
    refine lv_aload_n hx hb d_Mod_clock_12 rfl (lv_at hl 0 rfl) ?_
    refine va_get (D := (dC, dI)) (ci := 6) (v := .int (nI mRd)) (C := R_Mod) (T := F_Mod) (N := 27) hx hb hts (wi i_Mod) hown hK hP 0 rfl rfl 23 (by decide) (hts _ (mt 565 rfl rfl)) (fun _ h9 => h9) rfl d_Mod_clock_13 ?_
    refine lv_if_ne (tgt := 22) hx hb d_Mod_clock_16 (by decide) (fun c16 => ?_) (fun c16 => ?_)
    · skip
      have c16 : ¬ (mRd = 0) := fun h => c16 ((nI_eq0 (by omega)).mpr h)
      have hM1 := hM (by omega)
      refine lv_iconst (v := nI 0) hx hb d_Mod_clock_22 rfl ?_
      refine lv_istore_n (lv' := [(2, .int (nI 0)), (0, .ref a_mod), (1, .int (nI X))]) hx hb d_Mod_clock_23 rfl hl (by decide) rfl (fun ls hl => ?_)
      have hI_2 : (∀ j, mHd j < 256) ∧ (∀ j, mIo j < 2) ∧ (0 ≤ X) ∧ (mHd = (ckH mN mKd mWd NX mHd 0)) ∧ (mCk = mCk + 0) ∧ (∀ z, ¬ mKd z = 2 → mAc z = mAc z) := ⟨b_mHd, b_mIo, (by omega), rfl, (by omega), (fun _ _ => rfl)⟩
      refine k_loop (σ := Nat × (Nat → Nat) × (Nat → Nat) × (Nat → Int32) × Nat) (D := (dC, dI)) (cl := classes) (A := A) (H0 := s.heap) (fun x => [(a_mod, .inr (6, [.ref a_mkind, .ref a_mwidth, .ref a_mreset, .ref a_mop, .ref a_mka, .ref a_mkb, .ref a_mkc, .ref a_mheld, .int (nI mN), .ref a_msort, .ref a_mof, .ref a_mfrom, .int (nI mMs), .ref a_mbit, .ref a_mdone, .ref a_mrests, .ref a_mxx, .ref a_myy, .ref a_mdepth, .ref a_mone, .int (nI mG), .int (nI x.2.2.2.2), .int mFw, .int (nI mRd), .ref a_mbefore, .ref a_mfirst, .ref a_mturned])), (a_mkind, .inl (cI, 14, .inl (nF mKd))), (a_mwidth, .inl (cI, 14, .inl (nF mWd))), (a_mheld, .inl (cI, 14, .inl (nF x.2.1))), (a_mbit, .inl (cI, 224, .inl (nF mBi))), (a_mxx, .inl (cI, 2600, .inl (nF mX))), (a_myy, .inl (cI, 2600, .inl (nF mY))), (a_mdepth, .inl (cI, 2600, .inl (nF mDe))), (a_mone, .inl (cZ, 2600, .inl (nF x.2.2.1))), (a_mkc, .inl (cI, 14, .inl x.2.2.2.1))]) (fun x => [(2, .int (nI x.1)), (0, .ref a_mod), (1, .int (nI X))]) (fun x => (∀ j, x.2.1 j < 256) ∧ (∀ j, x.2.2.1 j < 2) ∧ (x.1 ≤ X) ∧ (x.2.1 = (ckH mN mKd mWd NX mHd x.1)) ∧ (x.2.2.2.2 = mCk + x.1) ∧ (∀ z, ¬ mKd z = 2 → x.2.2.2.1 z = mAc z)) (fun x => X - x.1) ?_ (0, mHd, mIo, mAc, mCk) hI_2 hP hD hS (lv_sub hl [0, 1, 2] rfl)
      rintro ⟨i, H1, I1, C1, k1⟩ hI ih_3 H locs ls hP hD hS hl
      obtain ⟨b_H1, b_I1, hi, hH1, hk1, hC1⟩ : (∀ j, H1 j < 256) ∧ (∀ j, I1 j < 2) ∧ (i ≤ X) ∧ (H1 = (ckH mN mKd mWd NX mHd i)) ∧ (k1 = mCk + i) ∧ (∀ z, ¬ mKd z = 2 → C1 z = mAc z) := hI
      have hP : va_P (dC, dI) classes [(a_mod, .inr (6, [.ref a_mkind, .ref a_mwidth, .ref a_mreset, .ref a_mop, .ref a_mka, .ref a_mkb, .ref a_mkc, .ref a_mheld, .int (nI mN), .ref a_msort, .ref a_mof, .ref a_mfrom, .int (nI mMs), .ref a_mbit, .ref a_mdone, .ref a_mrests, .ref a_mxx, .ref a_myy, .ref a_mdepth, .ref a_mone, .int (nI mG), .int (nI k1), .int mFw, .int (nI mRd), .ref a_mbefore, .ref a_mfirst, .ref a_mturned])), (a_mkind, .inl (cI, 14, .inl (nF mKd))), (a_mwidth, .inl (cI, 14, .inl (nF mWd))), (a_mheld, .inl (cI, 14, .inl (nF H1))), (a_mbit, .inl (cI, 224, .inl (nF mBi))), (a_mxx, .inl (cI, 2600, .inl (nF mX))), (a_myy, .inl (cI, 2600, .inl (nF mY))), (a_mdepth, .inl (cI, 2600, .inl (nF mDe))), (a_mone, .inl (cZ, 2600, .inl (nF I1))), (a_mkc, .inl (cI, 14, .inl C1))] H := hP
      have hD : va_D A [(a_mod, .inr (6, [.ref a_mkind, .ref a_mwidth, .ref a_mreset, .ref a_mop, .ref a_mka, .ref a_mkb, .ref a_mkc, .ref a_mheld, .int (nI mN), .ref a_msort, .ref a_mof, .ref a_mfrom, .int (nI mMs), .ref a_mbit, .ref a_mdone, .ref a_mrests, .ref a_mxx, .ref a_myy, .ref a_mdepth, .ref a_mone, .int (nI mG), .int (nI k1), .int mFw, .int (nI mRd), .ref a_mbefore, .ref a_mfirst, .ref a_mturned])), (a_mkind, .inl (cI, 14, .inl (nF mKd))), (a_mwidth, .inl (cI, 14, .inl (nF mWd))), (a_mheld, .inl (cI, 14, .inl (nF H1))), (a_mbit, .inl (cI, 224, .inl (nF mBi))), (a_mxx, .inl (cI, 2600, .inl (nF mX))), (a_myy, .inl (cI, 2600, .inl (nF mY))), (a_mdepth, .inl (cI, 2600, .inl (nF mDe))), (a_mone, .inl (cZ, 2600, .inl (nF I1))), (a_mkc, .inl (cI, 14, .inl C1))] := hD
      have hl : lv_has ls 4 [(2, .int (nI i)), (0, .ref a_mod), (1, .int (nI X))] := hl
      refine lv_iload_n hx hb d_Mod_clock_24 rfl (lv_at hl 0 rfl) ?_
      refine lv_iload_n hx hb d_Mod_clock_25 rfl (lv_at hl 2 rfl) ?_
      refine lv_icmp_ge (tgt := 126) hx hb d_Mod_clock_26 (by decide) (fun c26 => ?_) (fun c26 => ?_)
      · skip
        have c26 : X ≤ i := (nI_leI (by omega) (by omega)).mp c26
        refine lv_aload_n hx hb d_Mod_clock_126 rfl (lv_at hl 1 rfl) ?_
        refine va_get (D := (dC, dI)) (ci := 6) (v := .int (nI k1)) (C := R_Mod) (T := F_Mod) (N := 27) hx hb hts (wi i_Mod) hown hK hP 0 rfl rfl 21 (by decide) (hts _ (mt 563 rfl rfl)) (fun _ h9 => h9) rfl d_Mod_clock_127 ?_
        exact W.iret (v := nI k1) hx hb hr (fun t ht hW => ⟨⟨nI k1, (H1, I1, C1, k1), rfl, ⟨b_H1, b_I1, (show (¬ (1 ≤ x.toInt ∧ x.toInt ≤ 30) ∧ (-1) = (nI k1) ∧ mCk = k1 ∧ mHd = H1 ∧ mAc = C1) ∨ ((1 ≤ x.toInt ∧ x.toInt ≤ 30) ∧ mRd = 0 ∧ (-2) = (nI k1) ∧ mCk = k1 ∧ mHd = H1 ∧ mAc = C1) ∨ ((1 ≤ x.toInt ∧ x.toInt ≤ 30) ∧ mRd = 1 ∧ nI (mCk + ix x) = (nI k1) ∧ mCk + ix x = k1 ∧ (ckH mN mKd mWd NX mHd (ix x)) = H1 ∧ ∀ z, ¬ mKd z = 2 → C1 z = mAc z) from Or.inr (Or.inr ⟨by omega, by omega, by rw [ix_of eX hXb, hk1, show X = i by omega], by rw [ix_of eX hXb]; omega, by rw [hH1, ix_of eX hXb, show X = i by omega], hC1⟩))⟩, by rw [ht]; exact hP, va_K.moved hW.alike hK, hD⟩, hS.F ht⟩) hS.2.2 d_Mod_clock_130
      · skip
        have c26 : ¬ (X ≤ i) := fun h => c26 ((nI_leI (by omega) (by omega)).mpr h)
        refine lv_aload_n hx hb d_Mod_clock_29 rfl (lv_at hl 1 rfl) ?_
        refine k_v (wr := [(a_mkind, .inl (cI, 14, .inl (nF mKd))), (a_mwidth, .inl (cI, 14, .inl (nF mWd))), (a_mbit, .inl (cI, 224, .inl (nF mBi))), (a_mdepth, .inl (cI, 2600, .inl (nF mDe))), (a_mkc, .inl (cI, 14, .inl C1))]) (w2 := fun (u : (Nat → Nat)) => [(a_mod, .inr (6, [.ref a_mkind, .ref a_mwidth, .ref a_mreset, .ref a_mop, .ref a_mka, .ref a_mkb, .ref a_mkc, .ref a_mheld, .int (nI mN), .ref a_msort, .ref a_mof, .ref a_mfrom, .int (nI mMs), .ref a_mbit, .ref a_mdone, .ref a_mrests, .ref a_mxx, .ref a_myy, .ref a_mdepth, .ref a_mone, .int (nI mG), .int (nI k1), .int mFw, .int (nI mRd), .ref a_mbefore, .ref a_mfirst, .ref a_mturned])), (a_mkind, .inl (cI, 14, .inl (nF mKd))), (a_mwidth, .inl (cI, 14, .inl (nF mWd))), (a_mheld, .inl (cI, 14, .inl (nF H1))), (a_mbit, .inl (cI, 224, .inl (nF mBi))), (a_mxx, .inl (cI, 2600, .inl (nF mX))), (a_myy, .inl (cI, 2600, .inl (nF mY))), (a_mdepth, .inl (cI, 2600, .inl (nF mDe))), (a_mone, .inl (cZ, 2600, .inl (nF u))), (a_mkc, .inl (cI, 14, .inl C1))]) (va_runV (As := []) (rest := []) ⟨hx, hb, hml, hown, hts⟩ (c_Mod_work l dC dI cI cZ a_mod a_mkind a_mwidth a_mreset a_mop a_mka a_mkb a_mkc a_mheld a_msort a_mof a_mfrom a_mbit a_mdone a_mrests a_mxx a_myy a_mdepth a_mone a_mbefore a_mfirst a_mturned tt H.size mN mMs mG k1 mFw mRd mX mY H1 I1 gd P Dp Sl T mDe  (by omega) (by omega) (by omega) (by omega) b_mX b_mY b_H1 b_I1 hM1.1 hM1.2.1) (cwV 0 hts (gd_V in_tl (mw 734 rfl rfl) (mw 736 rfl rfl) (mw 37 rfl rfl) (mw 47 rfl rfl) (mw 737 rfl rfl)) rfl rfl rfl (by decide +kernel) ⟨Nat.le_of_ble_eq_true rfl, Nat.le_of_ble_eq_true rfl⟩) (k_preV hK hP hD hS hA hE [0, 5, 6, 3, 8] (by decide) rfl 6 0 rfl rfl) rfl rfl hl.1 rfl (lv_room (Nat.le_of_ble_eq_true rfl)) d_Mod_clock_30 ⟨Nat.zero_le _, Nat.zero_le _⟩) hP hD hS hA [0, 5, 6, 3, 8] [1, 2, 4, 7, 9] [5, 0, 1, 8, 2, 6, 7, 3, 9, 4] rfl rfl (by decide) (by decide) (by decide) (fun _ => rfl) (fun u H locs hw hP hD hS => ?_)
        obtain ⟨mIov_4, rfl⟩ : ∃ z, z = u := ⟨_, rfl⟩
        obtain ⟨b_mIov_4, hI_30⟩ : (∀ j, mIov_4 j < 2) ∧ (∀ j, j < mG → mIov_4 j = evn (eH H1) (T (113 + j))) := hw
        have hP : va_P (dC, dI) classes [(a_mod, .inr (6, [.ref a_mkind, .ref a_mwidth, .ref a_mreset, .ref a_mop, .ref a_mka, .ref a_mkb, .ref a_mkc, .ref a_mheld, .int (nI mN), .ref a_msort, .ref a_mof, .ref a_mfrom, .int (nI mMs), .ref a_mbit, .ref a_mdone, .ref a_mrests, .ref a_mxx, .ref a_myy, .ref a_mdepth, .ref a_mone, .int (nI mG), .int (nI k1), .int mFw, .int (nI mRd), .ref a_mbefore, .ref a_mfirst, .ref a_mturned])), (a_mkind, .inl (cI, 14, .inl (nF mKd))), (a_mwidth, .inl (cI, 14, .inl (nF mWd))), (a_mheld, .inl (cI, 14, .inl (nF H1))), (a_mbit, .inl (cI, 224, .inl (nF mBi))), (a_mxx, .inl (cI, 2600, .inl (nF mX))), (a_myy, .inl (cI, 2600, .inl (nF mY))), (a_mdepth, .inl (cI, 2600, .inl (nF mDe))), (a_mone, .inl (cZ, 2600, .inl (nF mIov_4))), (a_mkc, .inl (cI, 14, .inl C1))] H := hP
        have hD : va_D A [(a_mod, .inr (6, [.ref a_mkind, .ref a_mwidth, .ref a_mreset, .ref a_mop, .ref a_mka, .ref a_mkb, .ref a_mkc, .ref a_mheld, .int (nI mN), .ref a_msort, .ref a_mof, .ref a_mfrom, .int (nI mMs), .ref a_mbit, .ref a_mdone, .ref a_mrests, .ref a_mxx, .ref a_myy, .ref a_mdepth, .ref a_mone, .int (nI mG), .int (nI k1), .int mFw, .int (nI mRd), .ref a_mbefore, .ref a_mfirst, .ref a_mturned])), (a_mkind, .inl (cI, 14, .inl (nF mKd))), (a_mwidth, .inl (cI, 14, .inl (nF mWd))), (a_mheld, .inl (cI, 14, .inl (nF H1))), (a_mbit, .inl (cI, 224, .inl (nF mBi))), (a_mxx, .inl (cI, 2600, .inl (nF mX))), (a_myy, .inl (cI, 2600, .inl (nF mY))), (a_mdepth, .inl (cI, 2600, .inl (nF mDe))), (a_mone, .inl (cZ, 2600, .inl (nF mIov_4))), (a_mkc, .inl (cI, 14, .inl C1))] := hD
        refine lv_iconst (v := nI 0) hx hb d_Mod_clock_33 rfl ?_
        refine lv_istore_n (lv' := [(3, .int (nI 0)), (2, .int (nI i)), (0, .ref a_mod), (1, .int (nI X))]) hx hb d_Mod_clock_34 rfl hl (by decide) rfl (fun ls hl => ?_)
        have hI_6 : (0 ≤ mN) ∧ (∀ z, ¬ mKd z = 2 → C1 z = mAc z) ∧ (∀ z, z < 0 → mKd z = 2 → C1 z = nI (wrd (fun j => evl (eH H1) (NX z j)) (mWd z))) := ⟨(by omega), hC1, (fun z h => absurd h (by omega))⟩
        refine k_loop (σ := Nat × (Nat → Int32)) (D := (dC, dI)) (cl := classes) (A := A) (H0 := s.heap) (fun x => [(a_mod, .inr (6, [.ref a_mkind, .ref a_mwidth, .ref a_mreset, .ref a_mop, .ref a_mka, .ref a_mkb, .ref a_mkc, .ref a_mheld, .int (nI mN), .ref a_msort, .ref a_mof, .ref a_mfrom, .int (nI mMs), .ref a_mbit, .ref a_mdone, .ref a_mrests, .ref a_mxx, .ref a_myy, .ref a_mdepth, .ref a_mone, .int (nI mG), .int (nI k1), .int mFw, .int (nI mRd), .ref a_mbefore, .ref a_mfirst, .ref a_mturned])), (a_mkind, .inl (cI, 14, .inl (nF mKd))), (a_mwidth, .inl (cI, 14, .inl (nF mWd))), (a_mheld, .inl (cI, 14, .inl (nF H1))), (a_mbit, .inl (cI, 224, .inl (nF mBi))), (a_mxx, .inl (cI, 2600, .inl (nF mX))), (a_myy, .inl (cI, 2600, .inl (nF mY))), (a_mdepth, .inl (cI, 2600, .inl (nF mDe))), (a_mone, .inl (cZ, 2600, .inl (nF mIov_4))), (a_mkc, .inl (cI, 14, .inl x.2))]) (fun x => [(3, .int (nI x.1)), (2, .int (nI i)), (0, .ref a_mod), (1, .int (nI X))]) (fun x => (x.1 ≤ mN) ∧ (∀ z, ¬ mKd z = 2 → x.2 z = mAc z) ∧ (∀ z, z < x.1 → mKd z = 2 → x.2 z = nI (wrd (fun j => evl (eH H1) (NX z j)) (mWd z)))) (fun x => mN - x.1) ?_ (0, C1) hI_6 hP hD hS (lv_sub hl [0, 1, 2, 3] rfl)
        rintro ⟨i2, C2⟩ hI ih_7 H locs ls hP hD hS hl
        obtain ⟨hi2, hC2, hW2⟩ : (i2 ≤ mN) ∧ (∀ z, ¬ mKd z = 2 → C2 z = mAc z) ∧ (∀ z, z < i2 → mKd z = 2 → C2 z = nI (wrd (fun j => evl (eH H1) (NX z j)) (mWd z))) := hI
        have hP : va_P (dC, dI) classes [(a_mod, .inr (6, [.ref a_mkind, .ref a_mwidth, .ref a_mreset, .ref a_mop, .ref a_mka, .ref a_mkb, .ref a_mkc, .ref a_mheld, .int (nI mN), .ref a_msort, .ref a_mof, .ref a_mfrom, .int (nI mMs), .ref a_mbit, .ref a_mdone, .ref a_mrests, .ref a_mxx, .ref a_myy, .ref a_mdepth, .ref a_mone, .int (nI mG), .int (nI k1), .int mFw, .int (nI mRd), .ref a_mbefore, .ref a_mfirst, .ref a_mturned])), (a_mkind, .inl (cI, 14, .inl (nF mKd))), (a_mwidth, .inl (cI, 14, .inl (nF mWd))), (a_mheld, .inl (cI, 14, .inl (nF H1))), (a_mbit, .inl (cI, 224, .inl (nF mBi))), (a_mxx, .inl (cI, 2600, .inl (nF mX))), (a_myy, .inl (cI, 2600, .inl (nF mY))), (a_mdepth, .inl (cI, 2600, .inl (nF mDe))), (a_mone, .inl (cZ, 2600, .inl (nF mIov_4))), (a_mkc, .inl (cI, 14, .inl C2))] H := hP
        have hD : va_D A [(a_mod, .inr (6, [.ref a_mkind, .ref a_mwidth, .ref a_mreset, .ref a_mop, .ref a_mka, .ref a_mkb, .ref a_mkc, .ref a_mheld, .int (nI mN), .ref a_msort, .ref a_mof, .ref a_mfrom, .int (nI mMs), .ref a_mbit, .ref a_mdone, .ref a_mrests, .ref a_mxx, .ref a_myy, .ref a_mdepth, .ref a_mone, .int (nI mG), .int (nI k1), .int mFw, .int (nI mRd), .ref a_mbefore, .ref a_mfirst, .ref a_mturned])), (a_mkind, .inl (cI, 14, .inl (nF mKd))), (a_mwidth, .inl (cI, 14, .inl (nF mWd))), (a_mheld, .inl (cI, 14, .inl (nF H1))), (a_mbit, .inl (cI, 224, .inl (nF mBi))), (a_mxx, .inl (cI, 2600, .inl (nF mX))), (a_myy, .inl (cI, 2600, .inl (nF mY))), (a_mdepth, .inl (cI, 2600, .inl (nF mDe))), (a_mone, .inl (cZ, 2600, .inl (nF mIov_4))), (a_mkc, .inl (cI, 14, .inl C2))] := hD
        have hl : lv_has ls 4 [(3, .int (nI i2)), (2, .int (nI i)), (0, .ref a_mod), (1, .int (nI X))] := hl
        refine lv_iload_n hx hb d_Mod_clock_35 rfl (lv_at hl 0 rfl) ?_
        refine lv_aload_n hx hb d_Mod_clock_36 rfl (lv_at hl 2 rfl) ?_
        refine va_get (D := (dC, dI)) (ci := 6) (v := .int (nI mN)) (C := R_Mod) (T := F_Mod) (N := 27) hx hb hts (wi i_Mod) hown hK hP 0 rfl rfl 8 (by decide) (hts _ (mt 550 rfl rfl)) (fun _ h9 => h9) rfl d_Mod_clock_37 ?_
        refine lv_icmp_ge (tgt := 72) hx hb d_Mod_clock_40 (by decide) (fun c40 => ?_) (fun c40 => ?_)
        · skip
          have c40 : mN ≤ i2 := (nI_leI (by omega) (by omega)).mp c40
          refine lv_iconst (v := nI 0) hx hb d_Mod_clock_72 rfl ?_
          refine lv_istore_n (lv' := [(3, .int (nI 0)), (2, .int (nI i)), (0, .ref a_mod), (1, .int (nI X))]) hx hb d_Mod_clock_73 rfl hl (by decide) rfl (fun ls hl => ?_)
          have hI_8 : (∀ j, H1 j < 256) ∧ (0 ≤ mN) ∧ (H1 = fun z => if mKd z = 2 ∧ z < 0 then wrd (fun j => evl (eH H1) (NX z j)) (mWd z) else H1 z) := ⟨b_H1, (by omega), (by funext z; rw [if_neg (by omega)])⟩
          refine k_loop (σ := Nat × (Nat → Nat)) (D := (dC, dI)) (cl := classes) (A := A) (H0 := s.heap) (fun x => [(a_mod, .inr (6, [.ref a_mkind, .ref a_mwidth, .ref a_mreset, .ref a_mop, .ref a_mka, .ref a_mkb, .ref a_mkc, .ref a_mheld, .int (nI mN), .ref a_msort, .ref a_mof, .ref a_mfrom, .int (nI mMs), .ref a_mbit, .ref a_mdone, .ref a_mrests, .ref a_mxx, .ref a_myy, .ref a_mdepth, .ref a_mone, .int (nI mG), .int (nI k1), .int mFw, .int (nI mRd), .ref a_mbefore, .ref a_mfirst, .ref a_mturned])), (a_mkind, .inl (cI, 14, .inl (nF mKd))), (a_mwidth, .inl (cI, 14, .inl (nF mWd))), (a_mheld, .inl (cI, 14, .inl (nF x.2))), (a_mbit, .inl (cI, 224, .inl (nF mBi))), (a_mxx, .inl (cI, 2600, .inl (nF mX))), (a_myy, .inl (cI, 2600, .inl (nF mY))), (a_mdepth, .inl (cI, 2600, .inl (nF mDe))), (a_mone, .inl (cZ, 2600, .inl (nF mIov_4))), (a_mkc, .inl (cI, 14, .inl C2))]) (fun x => [(3, .int (nI x.1)), (2, .int (nI i)), (0, .ref a_mod), (1, .int (nI X))]) (fun x => (∀ j, x.2 j < 256) ∧ (x.1 ≤ mN) ∧ (x.2 = fun z => if mKd z = 2 ∧ z < x.1 then wrd (fun j => evl (eH H1) (NX z j)) (mWd z) else H1 z)) (fun x => mN - x.1) ?_ (0, H1) hI_8 hP hD hS (lv_sub hl [0, 1, 2, 3] rfl)
          rintro ⟨i3, H2⟩ hI ih_9 H locs ls hP hD hS hl
          obtain ⟨b_H2, hi3, hH2⟩ : (∀ j, H2 j < 256) ∧ (i3 ≤ mN) ∧ (H2 = fun z => if mKd z = 2 ∧ z < i3 then wrd (fun j => evl (eH H1) (NX z j)) (mWd z) else H1 z) := hI
          have hP : va_P (dC, dI) classes [(a_mod, .inr (6, [.ref a_mkind, .ref a_mwidth, .ref a_mreset, .ref a_mop, .ref a_mka, .ref a_mkb, .ref a_mkc, .ref a_mheld, .int (nI mN), .ref a_msort, .ref a_mof, .ref a_mfrom, .int (nI mMs), .ref a_mbit, .ref a_mdone, .ref a_mrests, .ref a_mxx, .ref a_myy, .ref a_mdepth, .ref a_mone, .int (nI mG), .int (nI k1), .int mFw, .int (nI mRd), .ref a_mbefore, .ref a_mfirst, .ref a_mturned])), (a_mkind, .inl (cI, 14, .inl (nF mKd))), (a_mwidth, .inl (cI, 14, .inl (nF mWd))), (a_mheld, .inl (cI, 14, .inl (nF H2))), (a_mbit, .inl (cI, 224, .inl (nF mBi))), (a_mxx, .inl (cI, 2600, .inl (nF mX))), (a_myy, .inl (cI, 2600, .inl (nF mY))), (a_mdepth, .inl (cI, 2600, .inl (nF mDe))), (a_mone, .inl (cZ, 2600, .inl (nF mIov_4))), (a_mkc, .inl (cI, 14, .inl C2))] H := hP
          have hD : va_D A [(a_mod, .inr (6, [.ref a_mkind, .ref a_mwidth, .ref a_mreset, .ref a_mop, .ref a_mka, .ref a_mkb, .ref a_mkc, .ref a_mheld, .int (nI mN), .ref a_msort, .ref a_mof, .ref a_mfrom, .int (nI mMs), .ref a_mbit, .ref a_mdone, .ref a_mrests, .ref a_mxx, .ref a_myy, .ref a_mdepth, .ref a_mone, .int (nI mG), .int (nI k1), .int mFw, .int (nI mRd), .ref a_mbefore, .ref a_mfirst, .ref a_mturned])), (a_mkind, .inl (cI, 14, .inl (nF mKd))), (a_mwidth, .inl (cI, 14, .inl (nF mWd))), (a_mheld, .inl (cI, 14, .inl (nF H2))), (a_mbit, .inl (cI, 224, .inl (nF mBi))), (a_mxx, .inl (cI, 2600, .inl (nF mX))), (a_myy, .inl (cI, 2600, .inl (nF mY))), (a_mdepth, .inl (cI, 2600, .inl (nF mDe))), (a_mone, .inl (cZ, 2600, .inl (nF mIov_4))), (a_mkc, .inl (cI, 14, .inl C2))] := hD
          have hl : lv_has ls 4 [(3, .int (nI i3)), (2, .int (nI i)), (0, .ref a_mod), (1, .int (nI X))] := hl
          refine lv_iload_n hx hb d_Mod_clock_74 rfl (lv_at hl 0 rfl) ?_
          refine lv_aload_n hx hb d_Mod_clock_75 rfl (lv_at hl 2 rfl) ?_
          refine va_get (D := (dC, dI)) (ci := 6) (v := .int (nI mN)) (C := R_Mod) (T := F_Mod) (N := 27) hx hb hts (wi i_Mod) hown hK hP 0 rfl rfl 8 (by decide) (hts _ (mt 550 rfl rfl)) (fun _ h9 => h9) rfl d_Mod_clock_76 ?_
          refine lv_icmp_ge (tgt := 110) hx hb d_Mod_clock_79 (by decide) (fun c79 => ?_) (fun c79 => ?_)
          · skip
            have c79 : mN ≤ i3 := (nI_leI (by omega) (by omega)).mp c79
            refine lv_aload_n hx hb d_Mod_clock_110 rfl (lv_at hl 2 rfl) ?_
            refine lv_dup hx hb d_Mod_clock_111 rfl ?_
            refine va_get (D := (dC, dI)) (ci := 6) (v := .int (nI k1)) (C := R_Mod) (T := F_Mod) (N := 27) hx hb hts (wi i_Mod) hown hK hP 0 rfl rfl 21 (by decide) (hts _ (mt 563 rfl rfl)) (fun _ h9 => h9) rfl d_Mod_clock_112 ?_
            refine lv_iconst (v := nI 1) hx hb d_Mod_clock_115 rfl ?_
            refine lv_iadd hx hb d_Mod_clock_116 ?_
            refine k_top (nI_add _ _) ?_
            refine va_put (D := (dC, dI)) (ci := 6) (v := .int (nI (k1 + 1))) (ty := .int) (C := R_Mod) (T := F_Mod) (N := 27) hx hb hts (wi i_Mod) t_Mod t_Mod_ok n_Mod hown hK hP hD hS 0 rfl rfl 21 (by decide) (hts _ (mt 563 rfl rfl)) (fun _ h9 => h9) rfl (by decide +kernel) rfl rfl (Nat.le_of_ble_eq_true rfl) d_Mod_clock_117 (fun H locs hP hD hS => ?_)
            have hP : va_P (dC, dI) classes [(a_mod, .inr (6, [.ref a_mkind, .ref a_mwidth, .ref a_mreset, .ref a_mop, .ref a_mka, .ref a_mkb, .ref a_mkc, .ref a_mheld, .int (nI mN), .ref a_msort, .ref a_mof, .ref a_mfrom, .int (nI mMs), .ref a_mbit, .ref a_mdone, .ref a_mrests, .ref a_mxx, .ref a_myy, .ref a_mdepth, .ref a_mone, .int (nI mG), .int (nI (k1 + 1)), .int mFw, .int (nI mRd), .ref a_mbefore, .ref a_mfirst, .ref a_mturned])), (a_mkind, .inl (cI, 14, .inl (nF mKd))), (a_mwidth, .inl (cI, 14, .inl (nF mWd))), (a_mheld, .inl (cI, 14, .inl (nF H2))), (a_mbit, .inl (cI, 224, .inl (nF mBi))), (a_mxx, .inl (cI, 2600, .inl (nF mX))), (a_myy, .inl (cI, 2600, .inl (nF mY))), (a_mdepth, .inl (cI, 2600, .inl (nF mDe))), (a_mone, .inl (cZ, 2600, .inl (nF mIov_4))), (a_mkc, .inl (cI, 14, .inl C2))] H := hP
            have hD : va_D A [(a_mod, .inr (6, [.ref a_mkind, .ref a_mwidth, .ref a_mreset, .ref a_mop, .ref a_mka, .ref a_mkb, .ref a_mkc, .ref a_mheld, .int (nI mN), .ref a_msort, .ref a_mof, .ref a_mfrom, .int (nI mMs), .ref a_mbit, .ref a_mdone, .ref a_mrests, .ref a_mxx, .ref a_myy, .ref a_mdepth, .ref a_mone, .int (nI mG), .int (nI (k1 + 1)), .int mFw, .int (nI mRd), .ref a_mbefore, .ref a_mfirst, .ref a_mturned])), (a_mkind, .inl (cI, 14, .inl (nF mKd))), (a_mwidth, .inl (cI, 14, .inl (nF mWd))), (a_mheld, .inl (cI, 14, .inl (nF H2))), (a_mbit, .inl (cI, 224, .inl (nF mBi))), (a_mxx, .inl (cI, 2600, .inl (nF mX))), (a_myy, .inl (cI, 2600, .inl (nF mY))), (a_mdepth, .inl (cI, 2600, .inl (nF mDe))), (a_mone, .inl (cZ, 2600, .inl (nF mIov_4))), (a_mkc, .inl (cI, 14, .inl C2))] := hD
            refine lv_iinc (v := nI (i + 1)) (lv' := [(2, .int (nI (i + 1))), (3, .int (nI i3)), (0, .ref a_mod), (1, .int (nI X))]) hx hb d_Mod_clock_120 hl (k := 1) rfl (k_inc _ 1) (by decide) rfl (fun ls hl => ?_)
            refine lv_goto (tgt := 24) hx hb d_Mod_clock_123 (by decide) ?_
            have hI_10 : (∀ j, H2 j < 256) ∧ (∀ j, mIov_4 j < 2) ∧ ((i + 1) ≤ X) ∧ (H2 = (ckH mN mKd mWd NX mHd (i + 1))) ∧ ((k1 + 1) = mCk + (i + 1)) ∧ (∀ z, ¬ mKd z = 2 → C2 z = mAc z) := ⟨b_H2, b_mIov_4, (by omega), (by rw [hH2, show i3 = mN by omega, hH1]; rfl), (by omega), hC2⟩
            exact ih_3 (i + 1, H2, mIov_4, C2, k1 + 1) hI_10 (show X - (i + 1) < X - i from by omega) _ _ _ hP hD hS (lv_sub hl [0, 2, 3] rfl)
          · skip
            have c79 : ¬ (mN ≤ i3) := fun h => c79 ((nI_leI (by omega) (by omega)).mpr h)
            refine lv_aload_n hx hb d_Mod_clock_82 rfl (lv_at hl 2 rfl) ?_
            refine va_get (D := (dC, dI)) (ci := 6) (v := .ref a_mkind) (C := R_Mod) (T := F_Mod) (N := 27) hx hb hts (wi i_Mod) hown hK hP 0 rfl rfl 0 (by decide) (hts _ (mt 542 rfl rfl)) (fun _ h9 => h9) rfl d_Mod_clock_83 ?_
            refine lv_iload_n hx hb d_Mod_clock_86 rfl (lv_at hl 0 rfl) ?_
            refine k_ild hx hb hK hP 1 0 rfl rfl (by omega) (by decide) d_Mod_clock_87 ?_
            have hb_11 := b_mKd i3
            refine lv_iconst (v := nI 2) hx hb d_Mod_clock_88 rfl ?_
            refine lv_icmp_ne (tgt := 104) hx hb d_Mod_clock_89 (by decide) (fun c89 => ?_) (fun c89 => ?_)
            · skip
              have c89 : ¬ ((mKd i3) = 2) := fun h => c89 ((nI_eq (by omega) (by omega)).mpr h)
              refine lv_iinc (v := nI (i3 + 1)) (lv' := [(3, .int (nI (i3 + 1))), (2, .int (nI i)), (0, .ref a_mod), (1, .int (nI X))]) hx hb d_Mod_clock_104 hl (k := 0) rfl (k_inc _ 1) (by decide) rfl (fun ls hl => ?_)
              refine lv_goto (tgt := 74) hx hb d_Mod_clock_107 (by decide) ?_
              have hI_12 : (∀ j, H2 j < 256) ∧ ((i3 + 1) ≤ mN) ∧ (H2 = fun z => if mKd z = 2 ∧ z < (i3 + 1) then wrd (fun j => evl (eH H1) (NX z j)) (mWd z) else H1 z) := ⟨b_H2, (by omega), (ckS_sk hH2 c89)⟩
              exact ih_9 (i3 + 1, H2) hI_12 (show mN - (i3 + 1) < mN - i3 from by omega) _ _ _ hP hD hS (lv_sub hl [0, 1, 2, 3] rfl)
            · skip
              have c89 : (mKd i3) = 2 := (nI_eq (by omega) (by omega)).mp c89
              have hcv := hW2 i3 (by omega) c89
              have hw9 := b_mWd i3
              have hp8 := pow8 (n := mWd i3) (by omega)
              have hwl := wrd_lt (f := fun j => evl (eH H1) (NX i3 j)) (fun j => evl_lt _ _) (mWd i3)
              refine lv_aload_n hx hb d_Mod_clock_92 rfl (lv_at hl 2 rfl) ?_
              refine va_get (D := (dC, dI)) (ci := 6) (v := .ref a_mheld) (C := R_Mod) (T := F_Mod) (N := 27) hx hb hts (wi i_Mod) hown hK hP 0 rfl rfl 7 (by decide) (hts _ (mt 549 rfl rfl)) (fun _ h9 => h9) rfl d_Mod_clock_93 ?_
              refine lv_iload_n hx hb d_Mod_clock_96 rfl (lv_at hl 0 rfl) ?_
              refine lv_aload_n hx hb d_Mod_clock_97 rfl (lv_at hl 2 rfl) ?_
              refine va_get (D := (dC, dI)) (ci := 6) (v := .ref a_mkc) (C := R_Mod) (T := F_Mod) (N := 27) hx hb hts (wi i_Mod) hown hK hP 0 rfl rfl 6 (by decide) (hts _ (mt 548 rfl rfl)) (fun _ h9 => h9) rfl d_Mod_clock_98 ?_
              refine lv_iload_n hx hb d_Mod_clock_101 rfl (lv_at hl 0 rfl) ?_
              refine k_rld hx hb hK hP 9 0 rfl rfl (by omega) (by decide) d_Mod_clock_102 ?_
              refine k_top (show C2 i3 = nI (wrd (fun j => evl (eH H1) (NX i3 j)) (mWd i3)) from hcv) ?_
              refine k_ist hx hb hK hP hD hS 3 0 rfl rfl (by omega) (by decide) d_Mod_clock_103 (fun H locs hP hD hS => ?_)
              have bb_13 : ∀ j, upN H2 i3 (wrd (fun j => evl (eH H1) (NX i3 j)) (mWd i3)) j < 256 := upN_lt b_H2 (by omega)
              have hP : va_P (dC, dI) classes [(a_mod, .inr (6, [.ref a_mkind, .ref a_mwidth, .ref a_mreset, .ref a_mop, .ref a_mka, .ref a_mkb, .ref a_mkc, .ref a_mheld, .int (nI mN), .ref a_msort, .ref a_mof, .ref a_mfrom, .int (nI mMs), .ref a_mbit, .ref a_mdone, .ref a_mrests, .ref a_mxx, .ref a_myy, .ref a_mdepth, .ref a_mone, .int (nI mG), .int (nI k1), .int mFw, .int (nI mRd), .ref a_mbefore, .ref a_mfirst, .ref a_mturned])), (a_mkind, .inl (cI, 14, .inl (nF mKd))), (a_mwidth, .inl (cI, 14, .inl (nF mWd))), (a_mheld, .inl (cI, 14, .inl (nF (upN H2 i3 (wrd (fun j => evl (eH H1) (NX i3 j)) (mWd i3)))))), (a_mbit, .inl (cI, 224, .inl (nF mBi))), (a_mxx, .inl (cI, 2600, .inl (nF mX))), (a_myy, .inl (cI, 2600, .inl (nF mY))), (a_mdepth, .inl (cI, 2600, .inl (nF mDe))), (a_mone, .inl (cZ, 2600, .inl (nF mIov_4))), (a_mkc, .inl (cI, 14, .inl C2))] H := hP
              have hD : va_D A [(a_mod, .inr (6, [.ref a_mkind, .ref a_mwidth, .ref a_mreset, .ref a_mop, .ref a_mka, .ref a_mkb, .ref a_mkc, .ref a_mheld, .int (nI mN), .ref a_msort, .ref a_mof, .ref a_mfrom, .int (nI mMs), .ref a_mbit, .ref a_mdone, .ref a_mrests, .ref a_mxx, .ref a_myy, .ref a_mdepth, .ref a_mone, .int (nI mG), .int (nI k1), .int mFw, .int (nI mRd), .ref a_mbefore, .ref a_mfirst, .ref a_mturned])), (a_mkind, .inl (cI, 14, .inl (nF mKd))), (a_mwidth, .inl (cI, 14, .inl (nF mWd))), (a_mheld, .inl (cI, 14, .inl (nF (upN H2 i3 (wrd (fun j => evl (eH H1) (NX i3 j)) (mWd i3)))))), (a_mbit, .inl (cI, 224, .inl (nF mBi))), (a_mxx, .inl (cI, 2600, .inl (nF mX))), (a_myy, .inl (cI, 2600, .inl (nF mY))), (a_mdepth, .inl (cI, 2600, .inl (nF mDe))), (a_mone, .inl (cZ, 2600, .inl (nF mIov_4))), (a_mkc, .inl (cI, 14, .inl C2))] := hD
              refine lv_iinc (v := nI (i3 + 1)) (lv' := [(3, .int (nI (i3 + 1))), (2, .int (nI i)), (0, .ref a_mod), (1, .int (nI X))]) hx hb d_Mod_clock_104 hl (k := 0) rfl (k_inc _ 1) (by decide) rfl (fun ls hl => ?_)
              refine lv_goto (tgt := 74) hx hb d_Mod_clock_107 (by decide) ?_
              have hI_14 : (∀ j, (upN H2 i3 (wrd (fun j => evl (eH H1) (NX i3 j)) (mWd i3))) j < 256) ∧ ((i3 + 1) ≤ mN) ∧ ((upN H2 i3 (wrd (fun j => evl (eH H1) (NX i3 j)) (mWd i3))) = fun z => if mKd z = 2 ∧ z < (i3 + 1) then wrd (fun j => evl (eH H1) (NX z j)) (mWd z) else H1 z) := ⟨bb_13, (by omega), (ckS_up (n := mN) hH2 c89 rfl)⟩
              exact ih_9 (i3 + 1, upN H2 i3 (wrd (fun j => evl (eH H1) (NX i3 j)) (mWd i3))) hI_14 (show mN - (i3 + 1) < mN - i3 from by omega) _ _ _ hP hD hS (lv_sub hl [0, 1, 2, 3] rfl)
        · skip
          have c40 : ¬ (mN ≤ i2) := fun h => c40 ((nI_leI (by omega) (by omega)).mpr h)
          refine lv_aload_n hx hb d_Mod_clock_43 rfl (lv_at hl 2 rfl) ?_
          refine va_get (D := (dC, dI)) (ci := 6) (v := .ref a_mkind) (C := R_Mod) (T := F_Mod) (N := 27) hx hb hts (wi i_Mod) hown hK hP 0 rfl rfl 0 (by decide) (hts _ (mt 542 rfl rfl)) (fun _ h9 => h9) rfl d_Mod_clock_44 ?_
          refine lv_iload_n hx hb d_Mod_clock_47 rfl (lv_at hl 0 rfl) ?_
          refine k_ild hx hb hK hP 1 0 rfl rfl (by omega) (by decide) d_Mod_clock_48 ?_
          have hb_15 := b_mKd i2
          refine lv_iconst (v := nI 2) hx hb d_Mod_clock_49 rfl ?_
          refine lv_icmp_ne (tgt := 66) hx hb d_Mod_clock_50 (by decide) (fun c50 => ?_) (fun c50 => ?_)
          · skip
            have c50 : ¬ ((mKd i2) = 2) := fun h => c50 ((nI_eq (by omega) (by omega)).mpr h)
            refine lv_iinc (v := nI (i2 + 1)) (lv' := [(3, .int (nI (i2 + 1))), (2, .int (nI i)), (0, .ref a_mod), (1, .int (nI X))]) hx hb d_Mod_clock_66 hl (k := 0) rfl (k_inc _ 1) (by decide) rfl (fun ls hl => ?_)
            refine lv_goto (tgt := 35) hx hb d_Mod_clock_69 (by decide) ?_
            have hI_16 : ((i2 + 1) ≤ mN) ∧ (∀ z, ¬ mKd z = 2 → C2 z = mAc z) ∧ (∀ z, z < (i2 + 1) → mKd z = 2 → C2 z = nI (wrd (fun j => evl (eH H1) (NX z j)) (mWd z))) := ⟨(by omega), hC2, (fun z hz h => by by_cases e : z = i2; (subst e; exact absurd h c50); exact hW2 z (by omega) h)⟩
            exact ih_7 (i2 + 1, C2) hI_16 (show mN - (i2 + 1) < mN - i2 from by omega) _ _ _ hP hD hS (lv_sub hl [0, 1, 2, 3] rfl)
          · skip
            have c50 : (mKd i2) = 2 := (nI_eq (by omega) (by omega)).mp c50
            refine lv_aload_n hx hb d_Mod_clock_53 rfl (lv_at hl 2 rfl) ?_
            refine va_get (D := (dC, dI)) (ci := 6) (v := .ref a_mkc) (C := R_Mod) (T := F_Mod) (N := 27) hx hb hts (wi i_Mod) hown hK hP 0 rfl rfl 6 (by decide) (hts _ (mt 548 rfl rfl)) (fun _ h9 => h9) rfl d_Mod_clock_54 ?_
            refine lv_iload_n hx hb d_Mod_clock_57 rfl (lv_at hl 0 rfl) ?_
            refine lv_aload_n hx hb d_Mod_clock_58 rfl (lv_at hl 2 rfl) ?_
            refine lv_iload_n hx hb d_Mod_clock_59 rfl (lv_at hl 0 rfl) ?_
            refine lv_bipush (v := nI 112) hx hb d_Mod_clock_60 rfl ?_
            refine k_i (wr := [(a_mkind, .inl (cI, 14, .inl (nF mKd))), (a_mxx, .inl (cI, 2600, .inl (nF mX))), (a_myy, .inl (cI, 2600, .inl (nF mY))), (a_mdepth, .inl (cI, 2600, .inl (nF mDe))), (a_mkc, .inl (cI, 14, .inl C2))]) (w2 := fun (u : Unit) => [(a_mod, .inr (6, [.ref a_mkind, .ref a_mwidth, .ref a_mreset, .ref a_mop, .ref a_mka, .ref a_mkb, .ref a_mkc, .ref a_mheld, .int (nI mN), .ref a_msort, .ref a_mof, .ref a_mfrom, .int (nI mMs), .ref a_mbit, .ref a_mdone, .ref a_mrests, .ref a_mxx, .ref a_myy, .ref a_mdepth, .ref a_mone, .int (nI mG), .int (nI k1), .int mFw, .int (nI mRd), .ref a_mbefore, .ref a_mfirst, .ref a_mturned])), (a_mkind, .inl (cI, 14, .inl (nF mKd))), (a_mwidth, .inl (cI, 14, .inl (nF mWd))), (a_mheld, .inl (cI, 14, .inl (nF H1))), (a_mbit, .inl (cI, 224, .inl (nF mBi))), (a_mxx, .inl (cI, 2600, .inl (nF mX))), (a_myy, .inl (cI, 2600, .inl (nF mY))), (a_mdepth, .inl (cI, 2600, .inl (nF mDe))), (a_mone, .inl (cZ, 2600, .inl (nF mIov_4))), (a_mkc, .inl (cI, 14, .inl C2))]) (va_runV (As := [.int (nI i2), .int (nI 112)]) (rest := [.int (nI i2), .ref a_mkc]) ⟨hx, hb, hml, hown, hts⟩ (c_Mod_read l dC dI cI cZ a_mod a_mkind a_mwidth a_mreset a_mop a_mka a_mkb a_mkc a_mheld a_msort a_mof a_mfrom a_mbit a_mdone a_mrests a_mxx a_myy a_mdepth a_mone a_mbefore a_mfirst a_mturned tt H.size mN mMs mG k1 mFw mRd mWd H1 mBi mIov_4 i2 112 (by omega) (by omega) (by omega) (by omega) b_mWd b_H1 b_mBi b_mIov_4 (by omega) (by omega)) (cwV 2 hts (gd_V in_tl (mw 742 rfl rfl) (mw 744 rfl rfl) (mw 39 rfl rfl) (mw 47 rfl rfl) (mw 745 rfl rfl)) rfl rfl rfl (by decide +kernel) ⟨Nat.le_of_ble_eq_true rfl, Nat.le_of_ble_eq_true rfl⟩) (k_preV hK hP hD hS hA hE [0, 2, 3, 4, 8] (by decide) rfl 6 0 rfl rfl) rfl rfl hl.1 rfl (lv_room (Nat.le_of_ble_eq_true rfl)) d_Mod_clock_62 ⟨Nat.zero_le _, Nat.zero_le _⟩) hP hD hS hA [0, 2, 3, 4, 8] [1, 5, 6, 7, 9] [5, 0, 6, 7, 8, 1, 2, 3, 9, 4] rfl rfl (by decide) (by decide) (by decide) (fun _ => rfl) (fun r_17 u H locs hw hP hD hS => ?_)
            obtain rfl : (r_17 = nI (wrd (fun j => (mV H1 mIov_4 (mBi (112 + 8 * i2 + j) / 2) + mBi (112 + 8 * i2 + j) % 2) % 2) (mWd i2))) := hw
            have hP : va_P (dC, dI) classes [(a_mod, .inr (6, [.ref a_mkind, .ref a_mwidth, .ref a_mreset, .ref a_mop, .ref a_mka, .ref a_mkb, .ref a_mkc, .ref a_mheld, .int (nI mN), .ref a_msort, .ref a_mof, .ref a_mfrom, .int (nI mMs), .ref a_mbit, .ref a_mdone, .ref a_mrests, .ref a_mxx, .ref a_myy, .ref a_mdepth, .ref a_mone, .int (nI mG), .int (nI k1), .int mFw, .int (nI mRd), .ref a_mbefore, .ref a_mfirst, .ref a_mturned])), (a_mkind, .inl (cI, 14, .inl (nF mKd))), (a_mwidth, .inl (cI, 14, .inl (nF mWd))), (a_mheld, .inl (cI, 14, .inl (nF H1))), (a_mbit, .inl (cI, 224, .inl (nF mBi))), (a_mxx, .inl (cI, 2600, .inl (nF mX))), (a_myy, .inl (cI, 2600, .inl (nF mY))), (a_mdepth, .inl (cI, 2600, .inl (nF mDe))), (a_mone, .inl (cZ, 2600, .inl (nF mIov_4))), (a_mkc, .inl (cI, 14, .inl C2))] H := hP
            have hD : va_D A [(a_mod, .inr (6, [.ref a_mkind, .ref a_mwidth, .ref a_mreset, .ref a_mop, .ref a_mka, .ref a_mkb, .ref a_mkc, .ref a_mheld, .int (nI mN), .ref a_msort, .ref a_mof, .ref a_mfrom, .int (nI mMs), .ref a_mbit, .ref a_mdone, .ref a_mrests, .ref a_mxx, .ref a_myy, .ref a_mdepth, .ref a_mone, .int (nI mG), .int (nI k1), .int mFw, .int (nI mRd), .ref a_mbefore, .ref a_mfirst, .ref a_mturned])), (a_mkind, .inl (cI, 14, .inl (nF mKd))), (a_mwidth, .inl (cI, 14, .inl (nF mWd))), (a_mheld, .inl (cI, 14, .inl (nF H1))), (a_mbit, .inl (cI, 224, .inl (nF mBi))), (a_mxx, .inl (cI, 2600, .inl (nF mX))), (a_myy, .inl (cI, 2600, .inl (nF mY))), (a_mdepth, .inl (cI, 2600, .inl (nF mDe))), (a_mone, .inl (cZ, 2600, .inl (nF mIov_4))), (a_mkc, .inl (cI, 14, .inl C2))] := hD
            have hrv : (wrd (fun j => (mV H1 mIov_4 (mBi (112 + 8 * i2 + j) / 2) + mBi (112 + 8 * i2 + j) % 2) % 2) (mWd i2)) = wrd (fun j => evl (eH H1) (NX i2 j)) (mWd i2) := mr_val (a := 112 + 8 * i2) hM1.1 hI_30 (fun j hj => hM1.2.2.2 i2 (by omega) c50 j hj)
            refine k_rst hx hb hK hP hD hS 9 0 rfl rfl (by omega) (by decide) d_Mod_clock_65 (fun H locs hP hD hS => ?_)
            have hP : va_P (dC, dI) classes [(a_mod, .inr (6, [.ref a_mkind, .ref a_mwidth, .ref a_mreset, .ref a_mop, .ref a_mka, .ref a_mkb, .ref a_mkc, .ref a_mheld, .int (nI mN), .ref a_msort, .ref a_mof, .ref a_mfrom, .int (nI mMs), .ref a_mbit, .ref a_mdone, .ref a_mrests, .ref a_mxx, .ref a_myy, .ref a_mdepth, .ref a_mone, .int (nI mG), .int (nI k1), .int mFw, .int (nI mRd), .ref a_mbefore, .ref a_mfirst, .ref a_mturned])), (a_mkind, .inl (cI, 14, .inl (nF mKd))), (a_mwidth, .inl (cI, 14, .inl (nF mWd))), (a_mheld, .inl (cI, 14, .inl (nF H1))), (a_mbit, .inl (cI, 224, .inl (nF mBi))), (a_mxx, .inl (cI, 2600, .inl (nF mX))), (a_myy, .inl (cI, 2600, .inl (nF mY))), (a_mdepth, .inl (cI, 2600, .inl (nF mDe))), (a_mone, .inl (cZ, 2600, .inl (nF mIov_4))), (a_mkc, .inl (cI, 14, .inl (upd C2 i2 (nI (wrd (fun j => (mV H1 mIov_4 (mBi (112 + 8 * i2 + j) / 2) + mBi (112 + 8 * i2 + j) % 2) % 2) (mWd i2))))))] H := hP
            have hD : va_D A [(a_mod, .inr (6, [.ref a_mkind, .ref a_mwidth, .ref a_mreset, .ref a_mop, .ref a_mka, .ref a_mkb, .ref a_mkc, .ref a_mheld, .int (nI mN), .ref a_msort, .ref a_mof, .ref a_mfrom, .int (nI mMs), .ref a_mbit, .ref a_mdone, .ref a_mrests, .ref a_mxx, .ref a_myy, .ref a_mdepth, .ref a_mone, .int (nI mG), .int (nI k1), .int mFw, .int (nI mRd), .ref a_mbefore, .ref a_mfirst, .ref a_mturned])), (a_mkind, .inl (cI, 14, .inl (nF mKd))), (a_mwidth, .inl (cI, 14, .inl (nF mWd))), (a_mheld, .inl (cI, 14, .inl (nF H1))), (a_mbit, .inl (cI, 224, .inl (nF mBi))), (a_mxx, .inl (cI, 2600, .inl (nF mX))), (a_myy, .inl (cI, 2600, .inl (nF mY))), (a_mdepth, .inl (cI, 2600, .inl (nF mDe))), (a_mone, .inl (cZ, 2600, .inl (nF mIov_4))), (a_mkc, .inl (cI, 14, .inl (upd C2 i2 (nI (wrd (fun j => (mV H1 mIov_4 (mBi (112 + 8 * i2 + j) / 2) + mBi (112 + 8 * i2 + j) % 2) % 2) (mWd i2))))))] := hD
            refine lv_iinc (v := nI (i2 + 1)) (lv' := [(3, .int (nI (i2 + 1))), (2, .int (nI i)), (0, .ref a_mod), (1, .int (nI X))]) hx hb d_Mod_clock_66 hl (k := 0) rfl (k_inc _ 1) (by decide) rfl (fun ls hl => ?_)
            refine lv_goto (tgt := 35) hx hb d_Mod_clock_69 (by decide) ?_
            have hI_18 : ((i2 + 1) ≤ mN) ∧ (∀ z, ¬ mKd z = 2 → (upd C2 i2 (nI (wrd (fun j => (mV H1 mIov_4 (mBi (112 + 8 * i2 + j) / 2) + mBi (112 + 8 * i2 + j) % 2) % 2) (mWd i2)))) z = mAc z) ∧ (∀ z, z < (i2 + 1) → mKd z = 2 → (upd C2 i2 (nI (wrd (fun j => (mV H1 mIov_4 (mBi (112 + 8 * i2 + j) / 2) + mBi (112 + 8 * i2 + j) % 2) % 2) (mWd i2)))) z = nI (wrd (fun j => evl (eH H1) (NX z j)) (mWd z))) := ⟨(by omega), (fun z hz => by have : z ≠ i2 := (fun e => by subst e; exact hz c50); rw [upd_ne _ _ this]; exact hC2 z hz), (fun z hz h => by by_cases e : z = i2; (subst e; rw [upd_self, hrv]); (rw [upd_ne _ _ e]; exact hW2 z (by omega) h))⟩
            exact ih_7 (i2 + 1, upd C2 i2 (nI (wrd (fun j => (mV H1 mIov_4 (mBi (112 + 8 * i2 + j) / 2) + mBi (112 + 8 * i2 + j) % 2) % 2) (mWd i2)))) hI_18 (show mN - (i2 + 1) < mN - i2 from by omega) _ _ _ hP hD hS (lv_sub hl [0, 1, 2, 3] rfl)
    · skip
      have c16 : mRd = 0 := (nI_eq0 (by omega)).mp c16
      refine lv_bipush (v := (-2 : Int32)) hx hb d_Mod_clock_19 rfl ?_
      exact W.iret (v := (-2 : Int32)) hx hb hr (fun t ht hW => ⟨⟨(-2 : Int32), (mHd, mIo, mAc, mCk), rfl, ⟨b_mHd, b_mIo, (show (¬ (1 ≤ x.toInt ∧ x.toInt ≤ 30) ∧ (-1) = (-2 : Int32) ∧ mCk = mCk ∧ mHd = mHd ∧ mAc = mAc) ∨ ((1 ≤ x.toInt ∧ x.toInt ≤ 30) ∧ mRd = 0 ∧ (-2) = (-2 : Int32) ∧ mCk = mCk ∧ mHd = mHd ∧ mAc = mAc) ∨ ((1 ≤ x.toInt ∧ x.toInt ≤ 30) ∧ mRd = 1 ∧ nI (mCk + ix x) = (-2 : Int32) ∧ mCk + ix x = mCk ∧ (ckH mN mKd mWd NX mHd (ix x)) = mHd ∧ ∀ z, ¬ mKd z = 2 → mAc z = mAc z) from Or.inr (Or.inl ⟨by omega, c16, rfl, rfl, rfl, rfl⟩))⟩, by rw [ht]; exact hP, va_K.moved hW.alike hK, hD⟩, hS.F ht⟩) hS.2.2 d_Mod_clock_21
  · skip
    have c7 : (inr x.toInt ((1 : Nat) : Int) ((30 : Nat) : Int)) = 0 := (nI_eq0 (Nat.lt_of_le_of_lt (inr_le _ _ _) (by decide))).mp c7
    have q7 := inr_0 c7
    refine lv_iconst (v := (-1 : Int32)) hx hb d_Mod_clock_10 rfl ?_
    exact W.iret (v := (-1 : Int32)) hx hb hr (fun t ht hW => ⟨⟨(-1 : Int32), (mHd, mIo, mAc, mCk), rfl, ⟨b_mHd, b_mIo, (show (¬ (1 ≤ x.toInt ∧ x.toInt ≤ 30) ∧ (-1) = (-1 : Int32) ∧ mCk = mCk ∧ mHd = mHd ∧ mAc = mAc) ∨ ((1 ≤ x.toInt ∧ x.toInt ≤ 30) ∧ mRd = 0 ∧ (-2) = (-1 : Int32) ∧ mCk = mCk ∧ mHd = mHd ∧ mAc = mAc) ∨ ((1 ≤ x.toInt ∧ x.toInt ≤ 30) ∧ mRd = 1 ∧ nI (mCk + ix x) = (-1 : Int32) ∧ mCk + ix x = mCk ∧ (ckH mN mKd mWd NX mHd (ix x)) = mHd ∧ ∀ z, ¬ mKd z = 2 → mAc z = mAc z) from Or.inl ⟨by omega, rfl, rfl, rfl, rfl⟩)⟩, by rw [ht]; exact hP, va_K.moved hW.alike hK, hD⟩, hS.F ht⟩) hS.2.2 d_Mod_clock_11
set_option maxHeartbeats 4000000 in
set_option maxRecDepth 100000 in
theorem c_Mod_reset (l : Launch) (dC : Nat → ClassId) (dI : Nat → Nat → Nat) (cI cZ : ClassId) (a_mod a_mkind a_mwidth a_mreset a_mop a_mka a_mkb a_mkc a_mheld a_msort a_mof a_mfrom a_mbit a_mdone a_mrests a_mxx a_myy a_mdepth a_mone a_mbefore a_mfirst a_mturned : Nat) (tt sz : Nat) (mN : Nat) (mMs : Nat) (mG : Nat) (mCk : Nat) (mFw : Int32) (mRd : Nat) (mKd : Nat → Nat) (mRs : Nat → Nat) (mHd : Nat → Nat) (b_mN : mN ≤ 14) (b_mMs : mMs ≤ 20) (b_mG : mG ≤ 1280) (b_mRd : mRd ≤ 1) (b_mKd : ∀ j, mKd j < 4) (b_mRs : ∀ j, mRs j < 256) (b_mHd : ∀ j, mHd j < 256) : Met l y_Mod_reset w_Mod_reset ({ frames := 0, cells := 0, slots := 0, locals := 0 }) (va_Pc [.ref a_mod] (PW (dC, dI) classes [(cI, .int), (cZ, .boolean)] tt [(a_mod, .inr (6, [.ref a_mkind, .ref a_mwidth, .ref a_mreset, .ref a_mop, .ref a_mka, .ref a_mkb, .ref a_mkc, .ref a_mheld, .int (nI mN), .ref a_msort, .ref a_mof, .ref a_mfrom, .int (nI mMs), .ref a_mbit, .ref a_mdone, .ref a_mrests, .ref a_mxx, .ref a_myy, .ref a_mdepth, .ref a_mone, .int (nI mG), .int (nI mCk), .int mFw, .int (nI mRd), .ref a_mbefore, .ref a_mfirst, .ref a_mturned])), (a_mkind, .inl (cI, 14, .inl (nF mKd))), (a_mreset, .inl (cI, 14, .inl (nF mRs))), (a_mheld, .inl (cI, 14, .inl (nF mHd)))] sz)) (va_Qi (fun (r : Int32) (u : (Nat → Nat) × Nat) => (r = nI mRd) ∧ (∀ j, u.1 j < 256) ∧ ((mRd = 0 ∧ mHd = u.1 ∧ mCk = u.2) ∨ (mRd = 1 ∧ 0 = u.2 ∧ ∀ z, z < mN → (mKd z = 0 ∨ mKd z = 2) → u.1 z = h0W mKd mRs z))) (AT (dC, dI) classes [(cI, .int), (cZ, .boolean)] (va_A [(a_mod, .inr (6, [.ref a_mkind, .ref a_mwidth, .ref a_mreset, .ref a_mop, .ref a_mka, .ref a_mkb, .ref a_mkc, .ref a_mheld, .int (nI mN), .ref a_msort, .ref a_mof, .ref a_mfrom, .int (nI mMs), .ref a_mbit, .ref a_mdone, .ref a_mrests, .ref a_mxx, .ref a_myy, .ref a_mdepth, .ref a_mone, .int (nI mG), .int (nI mCk), .int mFw, .int (nI mRd), .ref a_mbefore, .ref a_mfirst, .ref a_mturned])), (a_mkind, .inl (cI, 14, .inl (nF mKd))), (a_mreset, .inl (cI, 14, .inl (nF mRs))), (a_mheld, .inl (cI, 14, .inl (nF mHd)))] sz) (fun (u : (Nat → Nat) × Nat) => [(a_mod, .inr (6, [.ref a_mkind, .ref a_mwidth, .ref a_mreset, .ref a_mop, .ref a_mka, .ref a_mkb, .ref a_mkc, .ref a_mheld, .int (nI mN), .ref a_msort, .ref a_mof, .ref a_mfrom, .int (nI mMs), .ref a_mbit, .ref a_mdone, .ref a_mrests, .ref a_mxx, .ref a_myy, .ref a_mdepth, .ref a_mone, .int (nI mG), .int (nI u.2), .int mFw, .int (nI mRd), .ref a_mbefore, .ref a_mfirst, .ref a_mturned])), (a_mkind, .inl (cI, 14, .inl (nF mKd))), (a_mreset, .inl (cI, 14, .inl (nF mRs))), (a_mheld, .inl (cI, 14, .inl (nF u.1)))])) (va_A [(a_mod, .inr (6, [.ref a_mkind, .ref a_mwidth, .ref a_mreset, .ref a_mop, .ref a_mka, .ref a_mkb, .ref a_mkc, .ref a_mheld, .int (nI mN), .ref a_msort, .ref a_mof, .ref a_mfrom, .int (nI mMs), .ref a_mbit, .ref a_mdone, .ref a_mrests, .ref a_mxx, .ref a_myy, .ref a_mdepth, .ref a_mone, .int (nI mG), .int (nI mCk), .int mFw, .int (nI mRd), .ref a_mbefore, .ref a_mfirst, .ref a_mturned])), (a_mkind, .inl (cI, 14, .inl (nF mKd))), (a_mreset, .inl (cI, 14, .inl (nF mRs))), (a_mheld, .inl (cI, 14, .inl (nF mHd)))] sz)) 0 0 (va_A [(a_mod, .inr (6, [.ref a_mkind, .ref a_mwidth, .ref a_mreset, .ref a_mop, .ref a_mka, .ref a_mkb, .ref a_mkc, .ref a_mheld, .int (nI mN), .ref a_msort, .ref a_mof, .ref a_mfrom, .int (nI mMs), .ref a_mbit, .ref a_mdone, .ref a_mrests, .ref a_mxx, .ref a_myy, .ref a_mdepth, .ref a_mone, .int (nI mG), .int (nI mCk), .int mFw, .int (nI mRd), .ref a_mbefore, .ref a_mfirst, .ref a_mturned])), (a_mkind, .inl (cI, 14, .inl (nF mKd))), (a_mreset, .inl (cI, 14, .inl (nF mRs))), (a_mheld, .inl (cI, 14, .inl (nF mHd)))] sz) := by
  refine Met.ofW (cc := b_Mod_reset) (maxL := 2) (ret := (some .boolean)) (by decide) rfl ?_
  intro p e s m args below meth c s₁ B hml hv
  obtain ⟨rfl, hsz, hP, hK, hD0, hE⟩ := hv
  have hx := B.exec
  have hb := B.bytes
  have hr := B.returns
  have hts := atoms_spec (ws := w_Mod_reset) B.pre
  have hown : s.vm.findClass R_Mod = some m.cls := findClass_of_methodNamed B.named
  have hlocks := B.notSynchronized
  subst hsz
  have hD := hD0.self (sz := s.heap.size)
  generalize hAe : va_A [(a_mod, .inr (6, [.ref a_mkind, .ref a_mwidth, .ref a_mreset, .ref a_mop, .ref a_mka, .ref a_mkb, .ref a_mkc, .ref a_mheld, .int (nI mN), .ref a_msort, .ref a_mof, .ref a_mfrom, .int (nI mMs), .ref a_mbit, .ref a_mdone, .ref a_mrests, .ref a_mxx, .ref a_myy, .ref a_mdepth, .ref a_mone, .int (nI mG), .int (nI mCk), .int mFw, .int (nI mRd), .ref a_mbefore, .ref a_mfirst, .ref a_mturned])), (a_mkind, .inl (cI, 14, .inl (nF mKd))), (a_mreset, .inl (cI, 14, .inl (nF mRs))), (a_mheld, .inl (cI, 14, .inl (nF mHd)))] s.heap.size = A at hD hE ⊢
  have hA : ∀ q : Nat, s.heap.size ≤ q → A q := fun q h => by rw [← hAe]; exact Or.inr h
  have hS : va_S A s.heap s.heap [] := va_S.rf
  have hP : va_P (dC, dI) classes [(a_mod, .inr (6, [.ref a_mkind, .ref a_mwidth, .ref a_mreset, .ref a_mop, .ref a_mka, .ref a_mkb, .ref a_mkc, .ref a_mheld, .int (nI mN), .ref a_msort, .ref a_mof, .ref a_mfrom, .int (nI mMs), .ref a_mbit, .ref a_mdone, .ref a_mrests, .ref a_mxx, .ref a_myy, .ref a_mdepth, .ref a_mone, .int (nI mG), .int (nI mCk), .int mFw, .int (nI mRd), .ref a_mbefore, .ref a_mfirst, .ref a_mturned])), (a_mkind, .inl (cI, 14, .inl (nF mKd))), (a_mreset, .inl (cI, 14, .inl (nF mRs))), (a_mheld, .inl (cI, 14, .inl (nF mHd)))] s.heap := hP
  have hl := lv_entry ([.ref a_mod]) (n := 2) (Nat.le_of_ble_eq_true rfl)
  rw [lg_entry_eq]
  generalize (lg_sl ([.ref a_mod]) ++ List.replicate (2 - (lg_sl ([.ref a_mod])).length) Slot.unset).toArray = ls at hl ⊢
  have hl : lv_has ls 2 [(0, .ref a_mod)] := hl
  refine lv_aload_n hx hb d_Mod_reset_0 rfl (lv_at hl 0 rfl) ?_
  refine va_get (D := (dC, dI)) (ci := 6) (v := .int (nI mRd)) (C := R_Mod) (T := F_Mod) (N := 27) hx hb hts (wi i_Mod) hown hK hP 0 rfl rfl 23 (by decide) (hts _ (mt 565 rfl rfl)) (fun _ h9 => h9) rfl d_Mod_reset_1 ?_
  refine lv_if_ne (tgt := 9) hx hb d_Mod_reset_4 (by decide) (fun c4 => ?_) (fun c4 => ?_)
  · skip
    have c4 : ¬ (mRd = 0) := fun h => c4 ((nI_eq0 (by omega)).mpr h)
    refine lv_iconst (v := nI 0) hx hb d_Mod_reset_9 rfl ?_
    refine lv_istore_n (lv' := [(1, .int (nI 0)), (0, .ref a_mod)]) hx hb d_Mod_reset_10 rfl hl (by decide) rfl (fun ls hl => ?_)
    have hI_1 : (∀ j, mHd j < 256) ∧ (0 ≤ mN) ∧ (∀ z, z < 0 → (mKd z = 0 ∨ mKd z = 2) → mHd z = h0W mKd mRs z) := ⟨b_mHd, (by omega), (fun z h => absurd h (by omega))⟩
    refine k_loop (σ := Nat × (Nat → Nat)) (D := (dC, dI)) (cl := classes) (A := A) (H0 := s.heap) (fun x => [(a_mod, .inr (6, [.ref a_mkind, .ref a_mwidth, .ref a_mreset, .ref a_mop, .ref a_mka, .ref a_mkb, .ref a_mkc, .ref a_mheld, .int (nI mN), .ref a_msort, .ref a_mof, .ref a_mfrom, .int (nI mMs), .ref a_mbit, .ref a_mdone, .ref a_mrests, .ref a_mxx, .ref a_myy, .ref a_mdepth, .ref a_mone, .int (nI mG), .int (nI mCk), .int mFw, .int (nI mRd), .ref a_mbefore, .ref a_mfirst, .ref a_mturned])), (a_mkind, .inl (cI, 14, .inl (nF mKd))), (a_mreset, .inl (cI, 14, .inl (nF mRs))), (a_mheld, .inl (cI, 14, .inl (nF x.2)))]) (fun x => [(1, .int (nI x.1)), (0, .ref a_mod)]) (fun x => (∀ j, x.2 j < 256) ∧ (x.1 ≤ mN) ∧ (∀ z, z < x.1 → (mKd z = 0 ∨ mKd z = 2) → x.2 z = h0W mKd mRs z)) (fun x => mN - x.1) ?_ (0, mHd) hI_1 hP hD hS (lv_sub hl [0, 1] rfl)
    rintro ⟨i, H1⟩ hI ih_2 H locs ls hP hD hS hl
    obtain ⟨b_H1, hi, hH⟩ : (∀ j, H1 j < 256) ∧ (i ≤ mN) ∧ (∀ z, z < i → (mKd z = 0 ∨ mKd z = 2) → H1 z = h0W mKd mRs z) := hI
    have hP : va_P (dC, dI) classes [(a_mod, .inr (6, [.ref a_mkind, .ref a_mwidth, .ref a_mreset, .ref a_mop, .ref a_mka, .ref a_mkb, .ref a_mkc, .ref a_mheld, .int (nI mN), .ref a_msort, .ref a_mof, .ref a_mfrom, .int (nI mMs), .ref a_mbit, .ref a_mdone, .ref a_mrests, .ref a_mxx, .ref a_myy, .ref a_mdepth, .ref a_mone, .int (nI mG), .int (nI mCk), .int mFw, .int (nI mRd), .ref a_mbefore, .ref a_mfirst, .ref a_mturned])), (a_mkind, .inl (cI, 14, .inl (nF mKd))), (a_mreset, .inl (cI, 14, .inl (nF mRs))), (a_mheld, .inl (cI, 14, .inl (nF H1)))] H := hP
    have hD : va_D A [(a_mod, .inr (6, [.ref a_mkind, .ref a_mwidth, .ref a_mreset, .ref a_mop, .ref a_mka, .ref a_mkb, .ref a_mkc, .ref a_mheld, .int (nI mN), .ref a_msort, .ref a_mof, .ref a_mfrom, .int (nI mMs), .ref a_mbit, .ref a_mdone, .ref a_mrests, .ref a_mxx, .ref a_myy, .ref a_mdepth, .ref a_mone, .int (nI mG), .int (nI mCk), .int mFw, .int (nI mRd), .ref a_mbefore, .ref a_mfirst, .ref a_mturned])), (a_mkind, .inl (cI, 14, .inl (nF mKd))), (a_mreset, .inl (cI, 14, .inl (nF mRs))), (a_mheld, .inl (cI, 14, .inl (nF H1)))] := hD
    have hl : lv_has ls 2 [(1, .int (nI i)), (0, .ref a_mod)] := hl
    refine lv_iload_n hx hb d_Mod_reset_11 rfl (lv_at hl 0 rfl) ?_
    refine lv_aload_n hx hb d_Mod_reset_12 rfl (lv_at hl 1 rfl) ?_
    refine va_get (D := (dC, dI)) (ci := 6) (v := .int (nI mN)) (C := R_Mod) (T := F_Mod) (N := 27) hx hb hts (wi i_Mod) hown hK hP 0 rfl rfl 8 (by decide) (hts _ (mt 550 rfl rfl)) (fun _ h9 => h9) rfl d_Mod_reset_13 ?_
    refine lv_icmp_ge (tgt := 63) hx hb d_Mod_reset_16 (by decide) (fun c16 => ?_) (fun c16 => ?_)
    · skip
      have c16 : mN ≤ i := (nI_leI (by omega) (by omega)).mp c16
      refine lv_aload_n hx hb d_Mod_reset_63 rfl (lv_at hl 1 rfl) ?_
      refine lv_iconst (v := nI 0) hx hb d_Mod_reset_64 rfl ?_
      refine va_put (D := (dC, dI)) (ci := 6) (v := .int (nI 0)) (ty := .int) (C := R_Mod) (T := F_Mod) (N := 27) hx hb hts (wi i_Mod) t_Mod t_Mod_ok n_Mod hown hK hP hD hS 0 rfl rfl 21 (by decide) (hts _ (mt 563 rfl rfl)) (fun _ h9 => h9) rfl (by decide +kernel) rfl rfl (Nat.le_of_ble_eq_true rfl) d_Mod_reset_65 (fun H locs hP hD hS => ?_)
      have hP : va_P (dC, dI) classes [(a_mod, .inr (6, [.ref a_mkind, .ref a_mwidth, .ref a_mreset, .ref a_mop, .ref a_mka, .ref a_mkb, .ref a_mkc, .ref a_mheld, .int (nI mN), .ref a_msort, .ref a_mof, .ref a_mfrom, .int (nI mMs), .ref a_mbit, .ref a_mdone, .ref a_mrests, .ref a_mxx, .ref a_myy, .ref a_mdepth, .ref a_mone, .int (nI mG), .int (nI 0), .int mFw, .int (nI mRd), .ref a_mbefore, .ref a_mfirst, .ref a_mturned])), (a_mkind, .inl (cI, 14, .inl (nF mKd))), (a_mreset, .inl (cI, 14, .inl (nF mRs))), (a_mheld, .inl (cI, 14, .inl (nF H1)))] H := hP
      have hD : va_D A [(a_mod, .inr (6, [.ref a_mkind, .ref a_mwidth, .ref a_mreset, .ref a_mop, .ref a_mka, .ref a_mkb, .ref a_mkc, .ref a_mheld, .int (nI mN), .ref a_msort, .ref a_mof, .ref a_mfrom, .int (nI mMs), .ref a_mbit, .ref a_mdone, .ref a_mrests, .ref a_mxx, .ref a_myy, .ref a_mdepth, .ref a_mone, .int (nI mG), .int (nI 0), .int mFw, .int (nI mRd), .ref a_mbefore, .ref a_mfirst, .ref a_mturned])), (a_mkind, .inl (cI, 14, .inl (nF mKd))), (a_mreset, .inl (cI, 14, .inl (nF mRs))), (a_mheld, .inl (cI, 14, .inl (nF H1)))] := hD
      refine lv_iconst (v := nI 1) hx hb d_Mod_reset_68 rfl ?_
      exact W.zret (v := nI 1) (ty := .boolean) hx hb hr (k_narZ (by omega)) (fun t ht hW => ⟨⟨nI 1, (H1, 0), rfl, ⟨(by rw [show mRd = 1 by omega]), b_H1, (show (mRd = 0 ∧ mHd = H1 ∧ mCk = 0) ∨ (mRd = 1 ∧ 0 = 0 ∧ ∀ z, z < mN → (mKd z = 0 ∨ mKd z = 2) → H1 z = h0W mKd mRs z) from Or.inr ⟨by omega, rfl, fun z hz h => hH z (by omega) h⟩)⟩, by rw [ht]; exact hP, va_K.moved hW.alike hK, hD⟩, hS.F ht⟩) hS.2.2 d_Mod_reset_69
    · skip
      have c16 : ¬ (mN ≤ i) := fun h => c16 ((nI_leI (by omega) (by omega)).mpr h)
      refine lv_aload_n hx hb d_Mod_reset_19 rfl (lv_at hl 1 rfl) ?_
      refine va_get (D := (dC, dI)) (ci := 6) (v := .ref a_mkind) (C := R_Mod) (T := F_Mod) (N := 27) hx hb hts (wi i_Mod) hown hK hP 0 rfl rfl 0 (by decide) (hts _ (mt 542 rfl rfl)) (fun _ h9 => h9) rfl d_Mod_reset_20 ?_
      refine lv_iload_n hx hb d_Mod_reset_23 rfl (lv_at hl 0 rfl) ?_
      refine k_ild hx hb hK hP 1 0 rfl rfl (by omega) (by decide) d_Mod_reset_24 ?_
      have hb_3 := b_mKd i
      refine lv_iconst (v := nI 2) hx hb d_Mod_reset_25 rfl ?_
      refine lv_icmp_ne (tgt := 41) hx hb d_Mod_reset_26 (by decide) (fun c26 => ?_) (fun c26 => ?_)
      · skip
        have c26 : ¬ ((mKd i) = 2) := fun h => c26 ((nI_eq (by omega) (by omega)).mpr h)
        refine lv_aload_n hx hb d_Mod_reset_41 rfl (lv_at hl 1 rfl) ?_
        refine va_get (D := (dC, dI)) (ci := 6) (v := .ref a_mkind) (C := R_Mod) (T := F_Mod) (N := 27) hx hb hts (wi i_Mod) hown hK hP 0 rfl rfl 0 (by decide) (hts _ (mt 542 rfl rfl)) (fun _ h9 => h9) rfl d_Mod_reset_42 ?_
        refine lv_iload_n hx hb d_Mod_reset_45 rfl (lv_at hl 0 rfl) ?_
        refine k_ild hx hb hK hP 1 0 rfl rfl (by omega) (by decide) d_Mod_reset_46 ?_
        have hb_4 := b_mKd i
        refine lv_if_ne (tgt := 57) hx hb d_Mod_reset_47 (by decide) (fun c47 => ?_) (fun c47 => ?_)
        · skip
          have c47 : ¬ ((mKd i) = 0) := fun h => c47 ((nI_eq0 (by omega)).mpr h)
          refine lv_iinc (v := nI (i + 1)) (lv' := [(1, .int (nI (i + 1))), (0, .ref a_mod)]) hx hb d_Mod_reset_57 hl (k := 0) rfl (k_inc _ 1) (by decide) rfl (fun ls hl => ?_)
          refine lv_goto (tgt := 11) hx hb d_Mod_reset_60 (by decide) ?_
          have hI_5 : (∀ j, H1 j < 256) ∧ ((i + 1) ≤ mN) ∧ (∀ z, z < (i + 1) → (mKd z = 0 ∨ mKd z = 2) → H1 z = h0W mKd mRs z) := ⟨b_H1, (by omega), (fun z hz h => by by_cases e : z = i; (subst e; exfalso; omega); exact hH z (by omega) h)⟩
          exact ih_2 (i + 1, H1) hI_5 (show mN - (i + 1) < mN - i from by omega) _ _ _ hP hD hS (lv_sub hl [0, 1] rfl)
        · skip
          have c47 : (mKd i) = 0 := (nI_eq0 (by omega)).mp c47
          refine lv_aload_n hx hb d_Mod_reset_50 rfl (lv_at hl 1 rfl) ?_
          refine va_get (D := (dC, dI)) (ci := 6) (v := .ref a_mheld) (C := R_Mod) (T := F_Mod) (N := 27) hx hb hts (wi i_Mod) hown hK hP 0 rfl rfl 7 (by decide) (hts _ (mt 549 rfl rfl)) (fun _ h9 => h9) rfl d_Mod_reset_51 ?_
          refine lv_iload_n hx hb d_Mod_reset_54 rfl (lv_at hl 0 rfl) ?_
          refine lv_iconst (v := nI 0) hx hb d_Mod_reset_55 rfl ?_
          refine k_ist hx hb hK hP hD hS 3 0 rfl rfl (by omega) (by decide) d_Mod_reset_56 (fun H locs hP hD hS => ?_)
          have bb_6 : ∀ j, upN H1 i 0 j < 256 := upN_lt b_H1 (by omega)
          have hP : va_P (dC, dI) classes [(a_mod, .inr (6, [.ref a_mkind, .ref a_mwidth, .ref a_mreset, .ref a_mop, .ref a_mka, .ref a_mkb, .ref a_mkc, .ref a_mheld, .int (nI mN), .ref a_msort, .ref a_mof, .ref a_mfrom, .int (nI mMs), .ref a_mbit, .ref a_mdone, .ref a_mrests, .ref a_mxx, .ref a_myy, .ref a_mdepth, .ref a_mone, .int (nI mG), .int (nI mCk), .int mFw, .int (nI mRd), .ref a_mbefore, .ref a_mfirst, .ref a_mturned])), (a_mkind, .inl (cI, 14, .inl (nF mKd))), (a_mreset, .inl (cI, 14, .inl (nF mRs))), (a_mheld, .inl (cI, 14, .inl (nF (upN H1 i 0))))] H := hP
          have hD : va_D A [(a_mod, .inr (6, [.ref a_mkind, .ref a_mwidth, .ref a_mreset, .ref a_mop, .ref a_mka, .ref a_mkb, .ref a_mkc, .ref a_mheld, .int (nI mN), .ref a_msort, .ref a_mof, .ref a_mfrom, .int (nI mMs), .ref a_mbit, .ref a_mdone, .ref a_mrests, .ref a_mxx, .ref a_myy, .ref a_mdepth, .ref a_mone, .int (nI mG), .int (nI mCk), .int mFw, .int (nI mRd), .ref a_mbefore, .ref a_mfirst, .ref a_mturned])), (a_mkind, .inl (cI, 14, .inl (nF mKd))), (a_mreset, .inl (cI, 14, .inl (nF mRs))), (a_mheld, .inl (cI, 14, .inl (nF (upN H1 i 0))))] := hD
          refine lv_iinc (v := nI (i + 1)) (lv' := [(1, .int (nI (i + 1))), (0, .ref a_mod)]) hx hb d_Mod_reset_57 hl (k := 0) rfl (k_inc _ 1) (by decide) rfl (fun ls hl => ?_)
          refine lv_goto (tgt := 11) hx hb d_Mod_reset_60 (by decide) ?_
          have hI_7 : (∀ j, (upN H1 i 0) j < 256) ∧ ((i + 1) ≤ mN) ∧ (∀ z, z < (i + 1) → (mKd z = 0 ∨ mKd z = 2) → (upN H1 i 0) z = h0W mKd mRs z) := ⟨bb_6, (by omega), (fun z hz h => by by_cases e : z = i; (subst e; rw [upN_self]; unfold h0W; rw [if_neg c26]); (rw [upN_ne _ _ e]; exact hH z (by omega) h))⟩
          exact ih_2 (i + 1, upN H1 i 0) hI_7 (show mN - (i + 1) < mN - i from by omega) _ _ _ hP hD hS (lv_sub hl [0, 1] rfl)
      · skip
        have c26 : (mKd i) = 2 := (nI_eq (by omega) (by omega)).mp c26
        refine lv_aload_n hx hb d_Mod_reset_29 rfl (lv_at hl 1 rfl) ?_
        refine va_get (D := (dC, dI)) (ci := 6) (v := .ref a_mheld) (C := R_Mod) (T := F_Mod) (N := 27) hx hb hts (wi i_Mod) hown hK hP 0 rfl rfl 7 (by decide) (hts _ (mt 549 rfl rfl)) (fun _ h9 => h9) rfl d_Mod_reset_30 ?_
        refine lv_iload_n hx hb d_Mod_reset_33 rfl (lv_at hl 0 rfl) ?_
        refine lv_aload_n hx hb d_Mod_reset_34 rfl (lv_at hl 1 rfl) ?_
        refine va_get (D := (dC, dI)) (ci := 6) (v := .ref a_mreset) (C := R_Mod) (T := F_Mod) (N := 27) hx hb hts (wi i_Mod) hown hK hP 0 rfl rfl 2 (by decide) (hts _ (mt 544 rfl rfl)) (fun _ h9 => h9) rfl d_Mod_reset_35 ?_
        refine lv_iload_n hx hb d_Mod_reset_38 rfl (lv_at hl 0 rfl) ?_
        refine k_ild hx hb hK hP 2 0 rfl rfl (by omega) (by decide) d_Mod_reset_39 ?_
        have hb_8 := b_mRs i
        refine k_ist hx hb hK hP hD hS 3 0 rfl rfl (by omega) (by decide) d_Mod_reset_40 (fun H locs hP hD hS => ?_)
        have bb_9 : ∀ j, upN H1 i (mRs i) j < 256 := upN_lt b_H1 (by omega)
        have hP : va_P (dC, dI) classes [(a_mod, .inr (6, [.ref a_mkind, .ref a_mwidth, .ref a_mreset, .ref a_mop, .ref a_mka, .ref a_mkb, .ref a_mkc, .ref a_mheld, .int (nI mN), .ref a_msort, .ref a_mof, .ref a_mfrom, .int (nI mMs), .ref a_mbit, .ref a_mdone, .ref a_mrests, .ref a_mxx, .ref a_myy, .ref a_mdepth, .ref a_mone, .int (nI mG), .int (nI mCk), .int mFw, .int (nI mRd), .ref a_mbefore, .ref a_mfirst, .ref a_mturned])), (a_mkind, .inl (cI, 14, .inl (nF mKd))), (a_mreset, .inl (cI, 14, .inl (nF mRs))), (a_mheld, .inl (cI, 14, .inl (nF (upN H1 i (mRs i)))))] H := hP
        have hD : va_D A [(a_mod, .inr (6, [.ref a_mkind, .ref a_mwidth, .ref a_mreset, .ref a_mop, .ref a_mka, .ref a_mkb, .ref a_mkc, .ref a_mheld, .int (nI mN), .ref a_msort, .ref a_mof, .ref a_mfrom, .int (nI mMs), .ref a_mbit, .ref a_mdone, .ref a_mrests, .ref a_mxx, .ref a_myy, .ref a_mdepth, .ref a_mone, .int (nI mG), .int (nI mCk), .int mFw, .int (nI mRd), .ref a_mbefore, .ref a_mfirst, .ref a_mturned])), (a_mkind, .inl (cI, 14, .inl (nF mKd))), (a_mreset, .inl (cI, 14, .inl (nF mRs))), (a_mheld, .inl (cI, 14, .inl (nF (upN H1 i (mRs i)))))] := hD
        refine lv_aload_n hx hb d_Mod_reset_41 rfl (lv_at hl 1 rfl) ?_
        refine va_get (D := (dC, dI)) (ci := 6) (v := .ref a_mkind) (C := R_Mod) (T := F_Mod) (N := 27) hx hb hts (wi i_Mod) hown hK hP 0 rfl rfl 0 (by decide) (hts _ (mt 542 rfl rfl)) (fun _ h9 => h9) rfl d_Mod_reset_42 ?_
        refine lv_iload_n hx hb d_Mod_reset_45 rfl (lv_at hl 0 rfl) ?_
        refine k_ild hx hb hK hP 1 0 rfl rfl (by omega) (by decide) d_Mod_reset_46 ?_
        have hb_10 := b_mKd i
        refine lv_if_ne (tgt := 57) hx hb d_Mod_reset_47 (by decide) (fun c47 => ?_) (fun c47 => ?_)
        · skip
          have c47 : ¬ ((mKd i) = 0) := fun h => c47 ((nI_eq0 (by omega)).mpr h)
          refine lv_iinc (v := nI (i + 1)) (lv' := [(1, .int (nI (i + 1))), (0, .ref a_mod)]) hx hb d_Mod_reset_57 hl (k := 0) rfl (k_inc _ 1) (by decide) rfl (fun ls hl => ?_)
          refine lv_goto (tgt := 11) hx hb d_Mod_reset_60 (by decide) ?_
          have hI_11 : (∀ j, (upN H1 i (mRs i)) j < 256) ∧ ((i + 1) ≤ mN) ∧ (∀ z, z < (i + 1) → (mKd z = 0 ∨ mKd z = 2) → (upN H1 i (mRs i)) z = h0W mKd mRs z) := ⟨bb_9, (by omega), (fun z hz h => by by_cases e : z = i; (subst e; rw [upN_self]; unfold h0W; rw [if_pos c26]); (rw [upN_ne _ _ e]; exact hH z (by omega) h))⟩
          exact ih_2 (i + 1, upN H1 i (mRs i)) hI_11 (show mN - (i + 1) < mN - i from by omega) _ _ _ hP hD hS (lv_sub hl [0, 1] rfl)
        · skip
          have c47 : (mKd i) = 0 := (nI_eq0 (by omega)).mp c47
          refine lv_aload_n hx hb d_Mod_reset_50 rfl (lv_at hl 1 rfl) ?_
          refine va_get (D := (dC, dI)) (ci := 6) (v := .ref a_mheld) (C := R_Mod) (T := F_Mod) (N := 27) hx hb hts (wi i_Mod) hown hK hP 0 rfl rfl 7 (by decide) (hts _ (mt 549 rfl rfl)) (fun _ h9 => h9) rfl d_Mod_reset_51 ?_
          refine lv_iload_n hx hb d_Mod_reset_54 rfl (lv_at hl 0 rfl) ?_
          refine lv_iconst (v := nI 0) hx hb d_Mod_reset_55 rfl ?_
          refine k_ist hx hb hK hP hD hS 3 0 rfl rfl (by omega) (by decide) d_Mod_reset_56 (fun H locs hP hD hS => ?_)
          have bb_12 : ∀ j, upN (upN H1 i (mRs i)) i 0 j < 256 := upN_lt bb_9 (by omega)
          have hP : va_P (dC, dI) classes [(a_mod, .inr (6, [.ref a_mkind, .ref a_mwidth, .ref a_mreset, .ref a_mop, .ref a_mka, .ref a_mkb, .ref a_mkc, .ref a_mheld, .int (nI mN), .ref a_msort, .ref a_mof, .ref a_mfrom, .int (nI mMs), .ref a_mbit, .ref a_mdone, .ref a_mrests, .ref a_mxx, .ref a_myy, .ref a_mdepth, .ref a_mone, .int (nI mG), .int (nI mCk), .int mFw, .int (nI mRd), .ref a_mbefore, .ref a_mfirst, .ref a_mturned])), (a_mkind, .inl (cI, 14, .inl (nF mKd))), (a_mreset, .inl (cI, 14, .inl (nF mRs))), (a_mheld, .inl (cI, 14, .inl (nF (upN (upN H1 i (mRs i)) i 0))))] H := hP
          have hD : va_D A [(a_mod, .inr (6, [.ref a_mkind, .ref a_mwidth, .ref a_mreset, .ref a_mop, .ref a_mka, .ref a_mkb, .ref a_mkc, .ref a_mheld, .int (nI mN), .ref a_msort, .ref a_mof, .ref a_mfrom, .int (nI mMs), .ref a_mbit, .ref a_mdone, .ref a_mrests, .ref a_mxx, .ref a_myy, .ref a_mdepth, .ref a_mone, .int (nI mG), .int (nI mCk), .int mFw, .int (nI mRd), .ref a_mbefore, .ref a_mfirst, .ref a_mturned])), (a_mkind, .inl (cI, 14, .inl (nF mKd))), (a_mreset, .inl (cI, 14, .inl (nF mRs))), (a_mheld, .inl (cI, 14, .inl (nF (upN (upN H1 i (mRs i)) i 0))))] := hD
          refine lv_iinc (v := nI (i + 1)) (lv' := [(1, .int (nI (i + 1))), (0, .ref a_mod)]) hx hb d_Mod_reset_57 hl (k := 0) rfl (k_inc _ 1) (by decide) rfl (fun ls hl => ?_)
          refine lv_goto (tgt := 11) hx hb d_Mod_reset_60 (by decide) ?_
          have hI_13 : (∀ j, (upN (upN H1 i (mRs i)) i 0) j < 256) ∧ ((i + 1) ≤ mN) ∧ (∀ z, z < (i + 1) → (mKd z = 0 ∨ mKd z = 2) → (upN (upN H1 i (mRs i)) i 0) z = h0W mKd mRs z) := ⟨bb_12, (by omega), (absurd c26 (by omega))⟩
          exact ih_2 (i + 1, upN (upN H1 i (mRs i)) i 0) hI_13 (show mN - (i + 1) < mN - i from by omega) _ _ _ hP hD hS (lv_sub hl [0, 1] rfl)
  · skip
    have c4 : mRd = 0 := (nI_eq0 (by omega)).mp c4
    refine lv_iconst (v := nI 0) hx hb d_Mod_reset_7 rfl ?_
    exact W.zret (v := nI 0) (ty := .boolean) hx hb hr (k_narZ (by omega)) (fun t ht hW => ⟨⟨nI 0, (mHd, mCk), rfl, ⟨(by rw [c4]), b_mHd, (show (mRd = 0 ∧ mHd = mHd ∧ mCk = mCk) ∨ (mRd = 1 ∧ 0 = mCk ∧ ∀ z, z < mN → (mKd z = 0 ∨ mKd z = 2) → mHd z = h0W mKd mRs z) from Or.inl ⟨c4, rfl, rfl⟩)⟩, by rw [ht]; exact hP, va_K.moved hW.alike hK, hD⟩, hS.F ht⟩) hS.2.2 d_Mod_reset_8
