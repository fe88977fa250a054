abbrev b_Mod_openOf : ByteArray := prog_8_method_25_code
def y_Mod_openOf : MethodName := ⟨"CircuitDeskModel", "openOf", "(I)I"⟩
def w_Mod_openOf : List Cond := .code y_Mod_openOf b_Mod_openOf 4 (some .int) :: lw_gw
theorem d_Mod_openOf_0 : decode b_Mod_openOf 0 = .ok (.aload_n 0, 1) := by decide +kernel
theorem d_Mod_openOf_1 : decode b_Mod_openOf 1 = .ok (.iload_n 1, 1) := by decide +kernel
theorem d_Mod_openOf_2 : decode b_Mod_openOf 2 = .ok (.invokevirtual 107, 3) := by decide +kernel
theorem d_Mod_openOf_5 : decode b_Mod_openOf 5 = .ok (.istore_n 2, 1) := by decide +kernel
theorem d_Mod_openOf_6 : decode b_Mod_openOf 6 = .ok (.iload_n 1, 1) := by decide +kernel
theorem d_Mod_openOf_7 : decode b_Mod_openOf 7 = .ok (.iconst 1, 1) := by decide +kernel
theorem d_Mod_openOf_8 : decode b_Mod_openOf 8 = .ok (.isub, 1) := by decide +kernel
theorem d_Mod_openOf_9 : decode b_Mod_openOf 9 = .ok (.istore_n 3, 1) := by decide +kernel
theorem d_Mod_openOf_10 : decode b_Mod_openOf 10 = .ok (.aload_n 0, 1) := by decide +kernel
theorem d_Mod_openOf_11 : decode b_Mod_openOf 11 = .ok (.getfield 34, 3) := by decide +kernel
theorem d_Mod_openOf_14 : decode b_Mod_openOf 14 = .ok (.iload_n 3, 1) := by decide +kernel
theorem d_Mod_openOf_15 : decode b_Mod_openOf 15 = .ok (.iaload, 1) := by decide +kernel
theorem d_Mod_openOf_16 : decode b_Mod_openOf 16 = .ok (.iconst 1, 1) := by decide +kernel
theorem d_Mod_openOf_17 : decode b_Mod_openOf 17 = .ok (.if_icmp .ne 14, 3) := by decide +kernel
theorem d_Mod_openOf_20 : decode b_Mod_openOf 20 = .ok (.aload_n 0, 1) := by decide +kernel
theorem d_Mod_openOf_21 : decode b_Mod_openOf 21 = .ok (.iload_n 3, 1) := by decide +kernel
theorem d_Mod_openOf_22 : decode b_Mod_openOf 22 = .ok (.invokevirtual 107, 3) := by decide +kernel
theorem d_Mod_openOf_25 : decode b_Mod_openOf 25 = .ok (.iload_n 2, 1) := by decide +kernel
theorem d_Mod_openOf_26 : decode b_Mod_openOf 26 = .ok (.iconst 1, 1) := by decide +kernel
theorem d_Mod_openOf_27 : decode b_Mod_openOf 27 = .ok (.isub, 1) := by decide +kernel
theorem d_Mod_openOf_28 : decode b_Mod_openOf 28 = .ok (.if_icmp .eq 9, 3) := by decide +kernel
theorem d_Mod_openOf_31 : decode b_Mod_openOf 31 = .ok (.iinc 3 (-1), 3) := by decide +kernel
theorem d_Mod_openOf_34 : decode b_Mod_openOf 34 = .ok (.goto (-24), 3) := by decide +kernel
theorem d_Mod_openOf_37 : decode b_Mod_openOf 37 = .ok (.aload_n 0, 1) := by decide +kernel
theorem d_Mod_openOf_38 : decode b_Mod_openOf 38 = .ok (.getfield 37, 3) := by decide +kernel
theorem d_Mod_openOf_41 : decode b_Mod_openOf 41 = .ok (.iload_n 3, 1) := by decide +kernel
theorem d_Mod_openOf_42 : decode b_Mod_openOf 42 = .ok (.iaload, 1) := by decide +kernel
theorem d_Mod_openOf_43 : decode b_Mod_openOf 43 = .ok (.ireturn, 1) := by decide +kernel
abbrev b_Mod_isTrue : ByteArray := prog_8_method_27_code
def y_Mod_isTrue : MethodName := ⟨"CircuitDeskModel", "isTrue", "(I)Z"⟩
def w_Mod_isTrue : List Cond := .code y_Mod_isTrue b_Mod_isTrue 3 (some .boolean) :: lw_gw
theorem d_Mod_isTrue_0 : decode b_Mod_isTrue 0 = .ok (.iload_n 1, 1) := by decide +kernel
theorem d_Mod_isTrue_1 : decode b_Mod_isTrue 1 = .ok (.iconst 2, 1) := by decide +kernel
theorem d_Mod_isTrue_2 : decode b_Mod_isTrue 2 = .ok (.if_icmp .ge 7, 3) := by decide +kernel
theorem d_Mod_isTrue_5 : decode b_Mod_isTrue 5 = .ok (.iconst 0, 1) := by decide +kernel
theorem d_Mod_isTrue_6 : decode b_Mod_isTrue 6 = .ok (.goto 57, 3) := by decide +kernel
theorem d_Mod_isTrue_9 : decode b_Mod_isTrue 9 = .ok (.iload_n 1, 1) := by decide +kernel
theorem d_Mod_isTrue_10 : decode b_Mod_isTrue 10 = .ok (.sipush 226, 3) := by decide +kernel
theorem d_Mod_isTrue_13 : decode b_Mod_isTrue 13 = .ok (.if_icmp .ge 39, 3) := by decide +kernel
theorem d_Mod_isTrue_16 : decode b_Mod_isTrue 16 = .ok (.aload_n 0, 1) := by decide +kernel
theorem d_Mod_isTrue_17 : decode b_Mod_isTrue 17 = .ok (.getfield 31, 3) := by decide +kernel
theorem d_Mod_isTrue_20 : decode b_Mod_isTrue 20 = .ok (.iload_n 1, 1) := by decide +kernel
theorem d_Mod_isTrue_21 : decode b_Mod_isTrue 21 = .ok (.iconst 2, 1) := by decide +kernel
theorem d_Mod_isTrue_22 : decode b_Mod_isTrue 22 = .ok (.idiv, 1) := by decide +kernel
theorem d_Mod_isTrue_23 : decode b_Mod_isTrue 23 = .ok (.iconst 1, 1) := by decide +kernel
theorem d_Mod_isTrue_24 : decode b_Mod_isTrue 24 = .ok (.isub, 1) := by decide +kernel
theorem d_Mod_isTrue_25 : decode b_Mod_isTrue 25 = .ok (.bipush 8, 2) := by decide +kernel
theorem d_Mod_isTrue_27 : decode b_Mod_isTrue 27 = .ok (.idiv, 1) := by decide +kernel
theorem d_Mod_isTrue_28 : decode b_Mod_isTrue 28 = .ok (.iaload, 1) := by decide +kernel
theorem d_Mod_isTrue_29 : decode b_Mod_isTrue 29 = .ok (.iload_n 1, 1) := by decide +kernel
theorem d_Mod_isTrue_30 : decode b_Mod_isTrue 30 = .ok (.iconst 2, 1) := by decide +kernel
theorem d_Mod_isTrue_31 : decode b_Mod_isTrue 31 = .ok (.idiv, 1) := by decide +kernel
theorem d_Mod_isTrue_32 : decode b_Mod_isTrue 32 = .ok (.iconst 1, 1) := by decide +kernel
theorem d_Mod_isTrue_33 : decode b_Mod_isTrue 33 = .ok (.isub, 1) := by decide +kernel
theorem d_Mod_isTrue_34 : decode b_Mod_isTrue 34 = .ok (.bipush 8, 2) := by decide +kernel
theorem d_Mod_isTrue_36 : decode b_Mod_isTrue 36 = .ok (.irem, 1) := by decide +kernel
theorem d_Mod_isTrue_37 : decode b_Mod_isTrue 37 = .ok (.ishr, 1) := by decide +kernel
theorem d_Mod_isTrue_38 : decode b_Mod_isTrue 38 = .ok (.iconst 1, 1) := by decide +kernel
theorem d_Mod_isTrue_39 : decode b_Mod_isTrue 39 = .ok (.iand, 1) := by decide +kernel
theorem d_Mod_isTrue_40 : decode b_Mod_isTrue 40 = .ok (.iconst 1, 1) := by decide +kernel
theorem d_Mod_isTrue_41 : decode b_Mod_isTrue 41 = .ok (.if_icmp .ne 7, 3) := by decide +kernel
theorem d_Mod_isTrue_44 : decode b_Mod_isTrue 44 = .ok (.iconst 1, 1) := by decide +kernel
theorem d_Mod_isTrue_45 : decode b_Mod_isTrue 45 = .ok (.goto 18, 3) := by decide +kernel
theorem d_Mod_isTrue_48 : decode b_Mod_isTrue 48 = .ok (.iconst 0, 1) := by decide +kernel
theorem d_Mod_isTrue_49 : decode b_Mod_isTrue 49 = .ok (.goto 14, 3) := by decide +kernel
theorem d_Mod_isTrue_52 : decode b_Mod_isTrue 52 = .ok (.aload_n 0, 1) := by decide +kernel
theorem d_Mod_isTrue_53 : decode b_Mod_isTrue 53 = .ok (.getfield 62, 3) := by decide +kernel
theorem d_Mod_isTrue_56 : decode b_Mod_isTrue 56 = .ok (.iload_n 1, 1) := by decide +kernel
theorem d_Mod_isTrue_57 : decode b_Mod_isTrue 57 = .ok (.iconst 2, 1) := by decide +kernel
theorem d_Mod_isTrue_58 : decode b_Mod_isTrue 58 = .ok (.idiv, 1) := by decide +kernel
theorem d_Mod_isTrue_59 : decode b_Mod_isTrue 59 = .ok (.bipush 113, 2) := by decide +kernel
theorem d_Mod_isTrue_61 : decode b_Mod_isTrue 61 = .ok (.isub, 1) := by decide +kernel
theorem d_Mod_isTrue_62 : decode b_Mod_isTrue 62 = .ok (.baload, 1) := by decide +kernel
theorem d_Mod_isTrue_63 : decode b_Mod_isTrue 63 = .ok (.istore_n 2, 1) := by decide +kernel
theorem d_Mod_isTrue_64 : decode b_Mod_isTrue 64 = .ok (.iload_n 2, 1) := by decide +kernel
theorem d_Mod_isTrue_65 : decode b_Mod_isTrue 65 = .ok (.iload_n 1, 1) := by decide +kernel
theorem d_Mod_isTrue_66 : decode b_Mod_isTrue 66 = .ok (.iconst 1, 1) := by decide +kernel
theorem d_Mod_isTrue_67 : decode b_Mod_isTrue 67 = .ok (.iand, 1) := by decide +kernel
theorem d_Mod_isTrue_68 : decode b_Mod_isTrue 68 = .ok (.iconst 1, 1) := by decide +kernel
theorem d_Mod_isTrue_69 : decode b_Mod_isTrue 69 = .ok (.if_icmp .ne 7, 3) := by decide +kernel
theorem d_Mod_isTrue_72 : decode b_Mod_isTrue 72 = .ok (.iconst 1, 1) := by decide +kernel
theorem d_Mod_isTrue_73 : decode b_Mod_isTrue 73 = .ok (.goto 4, 3) := by decide +kernel
theorem d_Mod_isTrue_76 : decode b_Mod_isTrue 76 = .ok (.iconst 0, 1) := by decide +kernel
theorem d_Mod_isTrue_77 : decode b_Mod_isTrue 77 = .ok (.if_icmp .eq 7, 3) := by decide +kernel
theorem d_Mod_isTrue_80 : decode b_Mod_isTrue 80 = .ok (.iconst 1, 1) := by decide +kernel
theorem d_Mod_isTrue_81 : decode b_Mod_isTrue 81 = .ok (.goto 4, 3) := by decide +kernel
theorem d_Mod_isTrue_84 : decode b_Mod_isTrue 84 = .ok (.iconst 0, 1) := by decide +kernel
theorem d_Mod_isTrue_85 : decode b_Mod_isTrue 85 = .ok (.ireturn, 1) := by decide +kernel
abbrev b_Mod_work : ByteArray := prog_8_method_28_code
def y_Mod_work : MethodName := ⟨"CircuitDeskModel", "work", "()V"⟩
def w_Mod_work : List Cond := .code y_Mod_work b_Mod_work 2 none :: lw_gw
theorem d_Mod_work_0 : decode b_Mod_work 0 = .ok (.iconst 0, 1) := by decide +kernel
theorem d_Mod_work_1 : decode b_Mod_work 1 = .ok (.istore_n 1, 1) := by decide +kernel
theorem d_Mod_work_2 : decode b_Mod_work 2 = .ok (.iload_n 1, 1) := by decide +kernel
theorem d_Mod_work_3 : decode b_Mod_work 3 = .ok (.aload_n 0, 1) := by decide +kernel
theorem d_Mod_work_4 : decode b_Mod_work 4 = .ok (.getfield 124, 3) := by decide +kernel
theorem d_Mod_work_7 : decode b_Mod_work 7 = .ok (.if_icmp .ge 46, 3) := by decide +kernel
theorem d_Mod_work_10 : decode b_Mod_work 10 = .ok (.aload_n 0, 1) := by decide +kernel
theorem d_Mod_work_11 : decode b_Mod_work 11 = .ok (.getfield 62, 3) := by decide +kernel
theorem d_Mod_work_14 : decode b_Mod_work 14 = .ok (.iload_n 1, 1) := by decide +kernel
theorem d_Mod_work_15 : decode b_Mod_work 15 = .ok (.aload_n 0, 1) := by decide +kernel
theorem d_Mod_work_16 : decode b_Mod_work 16 = .ok (.aload_n 0, 1) := by decide +kernel
theorem d_Mod_work_17 : decode b_Mod_work 17 = .ok (.getfield 53, 3) := by decide +kernel
theorem d_Mod_work_20 : decode b_Mod_work 20 = .ok (.iload_n 1, 1) := by decide +kernel
theorem d_Mod_work_21 : decode b_Mod_work 21 = .ok (.iaload, 1) := by decide +kernel
theorem d_Mod_work_22 : decode b_Mod_work 22 = .ok (.invokevirtual 162, 3) := by decide +kernel
theorem d_Mod_work_25 : decode b_Mod_work 25 = .ok (.ifCond .eq 20, 3) := by decide +kernel
theorem d_Mod_work_28 : decode b_Mod_work 28 = .ok (.aload_n 0, 1) := by decide +kernel
theorem d_Mod_work_29 : decode b_Mod_work 29 = .ok (.aload_n 0, 1) := by decide +kernel
theorem d_Mod_work_30 : decode b_Mod_work 30 = .ok (.getfield 56, 3) := by decide +kernel
theorem d_Mod_work_33 : decode b_Mod_work 33 = .ok (.iload_n 1, 1) := by decide +kernel
theorem d_Mod_work_34 : decode b_Mod_work 34 = .ok (.iaload, 1) := by decide +kernel
theorem d_Mod_work_35 : decode b_Mod_work 35 = .ok (.invokevirtual 162, 3) := by decide +kernel
theorem d_Mod_work_38 : decode b_Mod_work 38 = .ok (.ifCond .eq 7, 3) := by decide +kernel
theorem d_Mod_work_41 : decode b_Mod_work 41 = .ok (.iconst 1, 1) := by decide +kernel
theorem d_Mod_work_42 : decode b_Mod_work 42 = .ok (.goto 4, 3) := by decide +kernel
theorem d_Mod_work_45 : decode b_Mod_work 45 = .ok (.iconst 0, 1) := by decide +kernel
theorem d_Mod_work_46 : decode b_Mod_work 46 = .ok (.bastore, 1) := by decide +kernel
theorem d_Mod_work_47 : decode b_Mod_work 47 = .ok (.iinc 1 1, 3) := by decide +kernel
theorem d_Mod_work_50 : decode b_Mod_work 50 = .ok (.goto (-48), 3) := by decide +kernel
theorem d_Mod_work_53 : decode b_Mod_work 53 = .ok (.return_, 1) := by decide +kernel
abbrev b_Mod_read : ByteArray := prog_8_method_29_code
def y_Mod_read : MethodName := ⟨"CircuitDeskModel", "read", "(II)I"⟩
def w_Mod_read : List Cond := .code y_Mod_read b_Mod_read 5 (some .int) :: lw_gw
theorem d_Mod_read_0 : decode b_Mod_read 0 = .ok (.iconst 0, 1) := by decide +kernel
theorem d_Mod_read_1 : decode b_Mod_read 1 = .ok (.istore_n 3, 1) := by decide +kernel
theorem d_Mod_read_2 : decode b_Mod_read 2 = .ok (.iconst 0, 1) := by decide +kernel
theorem d_Mod_read_3 : decode b_Mod_read 3 = .ok (.istore 4, 2) := by decide +kernel
theorem d_Mod_read_5 : decode b_Mod_read 5 = .ok (.iload 4, 2) := by decide +kernel
theorem d_Mod_read_7 : decode b_Mod_read 7 = .ok (.aload_n 0, 1) := by decide +kernel
theorem d_Mod_read_8 : decode b_Mod_read 8 = .ok (.getfield 13, 3) := by decide +kernel
theorem d_Mod_read_11 : decode b_Mod_read 11 = .ok (.iload_n 1, 1) := by decide +kernel
theorem d_Mod_read_12 : decode b_Mod_read 12 = .ok (.iaload, 1) := by decide +kernel
theorem d_Mod_read_13 : decode b_Mod_read 13 = .ok (.if_icmp .ge 37, 3) := by decide +kernel
theorem d_Mod_read_16 : decode b_Mod_read 16 = .ok (.aload_n 0, 1) := by decide +kernel
theorem d_Mod_read_17 : decode b_Mod_read 17 = .ok (.aload_n 0, 1) := by decide +kernel
theorem d_Mod_read_18 : decode b_Mod_read 18 = .ok (.getfield 43, 3) := by decide +kernel
theorem d_Mod_read_21 : decode b_Mod_read 21 = .ok (.iload_n 2, 1) := by decide +kernel
theorem d_Mod_read_22 : decode b_Mod_read 22 = .ok (.bipush 8, 2) := by decide +kernel
theorem d_Mod_read_24 : decode b_Mod_read 24 = .ok (.iload_n 1, 1) := by decide +kernel
theorem d_Mod_read_25 : decode b_Mod_read 25 = .ok (.imul, 1) := by decide +kernel
theorem d_Mod_read_26 : decode b_Mod_read 26 = .ok (.iadd, 1) := by decide +kernel
theorem d_Mod_read_27 : decode b_Mod_read 27 = .ok (.iload 4, 2) := by decide +kernel
theorem d_Mod_read_29 : decode b_Mod_read 29 = .ok (.iadd, 1) := by decide +kernel
theorem d_Mod_read_30 : decode b_Mod_read 30 = .ok (.iaload, 1) := by decide +kernel
theorem d_Mod_read_31 : decode b_Mod_read 31 = .ok (.invokevirtual 162, 3) := by decide +kernel
theorem d_Mod_read_34 : decode b_Mod_read 34 = .ok (.ifCond .eq 10, 3) := by decide +kernel
theorem d_Mod_read_37 : decode b_Mod_read 37 = .ok (.iload_n 3, 1) := by decide +kernel
theorem d_Mod_read_38 : decode b_Mod_read 38 = .ok (.iconst 1, 1) := by decide +kernel
theorem d_Mod_read_39 : decode b_Mod_read 39 = .ok (.iload 4, 2) := by decide +kernel
theorem d_Mod_read_41 : decode b_Mod_read 41 = .ok (.ishl, 1) := by decide +kernel
theorem d_Mod_read_42 : decode b_Mod_read 42 = .ok (.ior, 1) := by decide +kernel
theorem d_Mod_read_43 : decode b_Mod_read 43 = .ok (.istore_n 3, 1) := by decide +kernel
theorem d_Mod_read_44 : decode b_Mod_read 44 = .ok (.iinc 4 1, 3) := by decide +kernel
theorem d_Mod_read_47 : decode b_Mod_read 47 = .ok (.goto (-42), 3) := by decide +kernel
theorem d_Mod_read_50 : decode b_Mod_read 50 = .ok (.iload_n 3, 1) := by decide +kernel
theorem d_Mod_read_51 : decode b_Mod_read 51 = .ok (.ireturn, 1) := by decide +kernel
set_option maxHeartbeats 4000000 in
set_option maxRecDepth 100000 in
theorem c_Mod_openOf (l : Launch) (dC : Nat → ClassId) (dI : Nat → Nat → Nat) (cI cZ : ClassId) (a_mod a_mkind a_mwidth a_mreset a_mop a_mka a_mkb a_mkc a_mheld a_msort a_mof a_mfrom a_mbit a_mdone a_mrests a_mxx a_myy a_mdepth a_mone a_mbefore a_mfirst a_mturned : Nat) (tt sz : Nat) (mN : Nat) (mMs : Nat) (mG : Nat) (mCk : Nat) (mFw : Int32) (mRd : Nat) (mSo : Nat → Nat) (mOf : Nat → Int32) (Su : Nat → Nat) (q1 : Nat) (b_mN : mN ≤ 14) (b_mMs : mMs ≤ 20) (b_mG : mG ≤ 1280) (b_mRd : mRd ≤ 1) (b_mSo : ∀ j, mSo j < 4) (hLG : LG mSo mMs) (hq1 : q1 ≤ mMs) (hd0 : 0 < dp mSo q1) (hOf : ∀ k, k < mMs → mSo k = 1 → mOf k = nI (Su k)) : Met l y_Mod_openOf w_Mod_openOf ({ frames := 1, cells := 0, slots := 0, locals := 23 }) (va_Pc [.ref a_mod, .int (nI q1)] (PW (dC, dI) classes [(cI, .int), (cZ, .boolean)] tt [(a_mod, .inr (6, [.ref a_mkind, .ref a_mwidth, .ref a_mreset, .ref a_mop, .ref a_mka, .ref a_mkb, .ref a_mkc, .ref a_mheld, .int (nI mN), .ref a_msort, .ref a_mof, .ref a_mfrom, .int (nI mMs), .ref a_mbit, .ref a_mdone, .ref a_mrests, .ref a_mxx, .ref a_myy, .ref a_mdepth, .ref a_mone, .int (nI mG), .int (nI mCk), .int mFw, .int (nI mRd), .ref a_mbefore, .ref a_mfirst, .ref a_mturned])), (a_msort, .inl (cI, 20, .inl (nF mSo))), (a_mof, .inl (cI, 20, .inl mOf))] sz)) (va_Qi (fun (r : Int32) (u : Unit) => (r = nI (cL mSo Su q1 (dp mSo q1)))) (AT (dC, dI) classes [(cI, .int), (cZ, .boolean)] (va_A [(a_mod, .inr (6, [.ref a_mkind, .ref a_mwidth, .ref a_mreset, .ref a_mop, .ref a_mka, .ref a_mkb, .ref a_mkc, .ref a_mheld, .int (nI mN), .ref a_msort, .ref a_mof, .ref a_mfrom, .int (nI mMs), .ref a_mbit, .ref a_mdone, .ref a_mrests, .ref a_mxx, .ref a_myy, .ref a_mdepth, .ref a_mone, .int (nI mG), .int (nI mCk), .int mFw, .int (nI mRd), .ref a_mbefore, .ref a_mfirst, .ref a_mturned])), (a_msort, .inl (cI, 20, .inl (nF mSo))), (a_mof, .inl (cI, 20, .inl mOf))] sz) (fun (u : Unit) => [(a_mod, .inr (6, [.ref a_mkind, .ref a_mwidth, .ref a_mreset, .ref a_mop, .ref a_mka, .ref a_mkb, .ref a_mkc, .ref a_mheld, .int (nI mN), .ref a_msort, .ref a_mof, .ref a_mfrom, .int (nI mMs), .ref a_mbit, .ref a_mdone, .ref a_mrests, .ref a_mxx, .ref a_myy, .ref a_mdepth, .ref a_mone, .int (nI mG), .int (nI mCk), .int mFw, .int (nI mRd), .ref a_mbefore, .ref a_mfirst, .ref a_mturned])), (a_msort, .inl (cI, 20, .inl (nF mSo))), (a_mof, .inl (cI, 20, .inl mOf))])) (va_A [(a_mod, .inr (6, [.ref a_mkind, .ref a_mwidth, .ref a_mreset, .ref a_mop, .ref a_mka, .ref a_mkb, .ref a_mkc, .ref a_mheld, .int (nI mN), .ref a_msort, .ref a_mof, .ref a_mfrom, .int (nI mMs), .ref a_mbit, .ref a_mdone, .ref a_mrests, .ref a_mxx, .ref a_myy, .ref a_mdepth, .ref a_mone, .int (nI mG), .int (nI mCk), .int mFw, .int (nI mRd), .ref a_mbefore, .ref a_mfirst, .ref a_mturned])), (a_msort, .inl (cI, 20, .inl (nF mSo))), (a_mof, .inl (cI, 20, .inl mOf))] sz)) 0 0 (va_A [(a_mod, .inr (6, [.ref a_mkind, .ref a_mwidth, .ref a_mreset, .ref a_mop, .ref a_mka, .ref a_mkb, .ref a_mkc, .ref a_mheld, .int (nI mN), .ref a_msort, .ref a_mof, .ref a_mfrom, .int (nI mMs), .ref a_mbit, .ref a_mdone, .ref a_mrests, .ref a_mxx, .ref a_myy, .ref a_mdepth, .ref a_mone, .int (nI mG), .int (nI mCk), .int mFw, .int (nI mRd), .ref a_mbefore, .ref a_mfirst, .ref a_mturned])), (a_msort, .inl (cI, 20, .inl (nF mSo))), (a_mof, .inl (cI, 20, .inl mOf))] sz) := by
  refine Met.ofW (cc := b_Mod_openOf) (maxL := 4) (ret := (some .int)) (by decide) rfl ?_
  intro p e s m args below meth c s₁ B hml hv
  obtain ⟨rfl, hsz, hP, hK, hD0, hE⟩ := hv
  have hx := B.exec
  have hb := B.bytes
  have hr := B.returns
  have hts := atoms_spec (ws := w_Mod_openOf) B.pre
  have hown : s.vm.findClass R_Mod = some m.cls := findClass_of_methodNamed B.named
  have hlocks := B.notSynchronized
  subst hsz
  have hD := hD0.self (sz := s.heap.size)
  generalize hAe : va_A [(a_mod, .inr (6, [.ref a_mkind, .ref a_mwidth, .ref a_mreset, .ref a_mop, .ref a_mka, .ref a_mkb, .ref a_mkc, .ref a_mheld, .int (nI mN), .ref a_msort, .ref a_mof, .ref a_mfrom, .int (nI mMs), .ref a_mbit, .ref a_mdone, .ref a_mrests, .ref a_mxx, .ref a_myy, .ref a_mdepth, .ref a_mone, .int (nI mG), .int (nI mCk), .int mFw, .int (nI mRd), .ref a_mbefore, .ref a_mfirst, .ref a_mturned])), (a_msort, .inl (cI, 20, .inl (nF mSo))), (a_mof, .inl (cI, 20, .inl mOf))] s.heap.size = A at hD hE ⊢
  have hA : ∀ q : Nat, s.heap.size ≤ q → A q := fun q h => by rw [← hAe]; exact Or.inr h
  have hS : va_S A s.heap s.heap [] := va_S.rf
  have hP : va_P (dC, dI) classes [(a_mod, .inr (6, [.ref a_mkind, .ref a_mwidth, .ref a_mreset, .ref a_mop, .ref a_mka, .ref a_mkb, .ref a_mkc, .ref a_mheld, .int (nI mN), .ref a_msort, .ref a_mof, .ref a_mfrom, .int (nI mMs), .ref a_mbit, .ref a_mdone, .ref a_mrests, .ref a_mxx, .ref a_myy, .ref a_mdepth, .ref a_mone, .int (nI mG), .int (nI mCk), .int mFw, .int (nI mRd), .ref a_mbefore, .ref a_mfirst, .ref a_mturned])), (a_msort, .inl (cI, 20, .inl (nF mSo))), (a_mof, .inl (cI, 20, .inl mOf))] s.heap := hP
  have hl := lv_entry ([.ref a_mod, .int (nI q1)]) (n := 4) (Nat.le_of_ble_eq_true rfl)
  rw [lg_entry_eq]
  generalize (lg_sl ([.ref a_mod, .int (nI q1)]) ++ List.replicate (4 - (lg_sl ([.ref a_mod, .int (nI q1)])).length) Slot.unset).toArray = ls at hl ⊢
  have hl : lv_has ls 4 [(0, .ref a_mod), (1, .int (nI q1))] := hl
  refine lv_aload_n hx hb d_Mod_openOf_0 rfl (lv_at hl 0 rfl) ?_
  refine lv_iload_n hx hb d_Mod_openOf_1 rfl (lv_at hl 1 rfl) ?_
  refine k_i (wr := [(a_mof, .inl (cI, 20, .inl mOf))]) (w2 := fun (u : Unit) => [(a_mod, .inr (6, [.ref a_mkind, .ref a_mwidth, .ref a_mreset, .ref a_mop, .ref a_mka, .ref a_mkb, .ref a_mkc, .ref a_mheld, .int (nI mN), .ref a_msort, .ref a_mof, .ref a_mfrom, .int (nI mMs), .ref a_mbit, .ref a_mdone, .ref a_mrests, .ref a_mxx, .ref a_myy, .ref a_mdepth, .ref a_mone, .int (nI mG), .int (nI mCk), .int mFw, .int (nI mRd), .ref a_mbefore, .ref a_mfirst, .ref a_mturned])), (a_msort, .inl (cI, 20, .inl (nF mSo))), (a_mof, .inl (cI, 20, .inl mOf))]) (va_runV (As := [.int (nI q1)]) (rest := []) ⟨hx, hb, hml, hown, hts⟩ (c_Mod_deep l dC dI cI cZ a_mod a_mkind a_mwidth a_mreset a_mop a_mka a_mkb a_mkc a_mheld a_msort a_mof a_mfrom a_mbit a_mdone a_mrests a_mxx a_myy a_mdepth a_mone a_mbefore a_mfirst a_mturned tt s.heap.size mN mMs mG mCk mFw mRd mSo q1 (by omega) (by omega) (by omega) (by omega) b_mSo hLG (by omega)) (cwV 1 hts (gd_V in_tl (mw 654 rfl rfl) (mw 656 rfl rfl) (mw 22 rfl rfl) (mw 47 rfl rfl) (mw 657 rfl rfl)) rfl rfl rfl (by decide +kernel) ⟨Nat.le_of_ble_eq_true rfl, Nat.le_of_ble_eq_true rfl⟩) (k_preV hK hP hD hS hA hE [0, 1] (by decide) rfl 6 0 rfl rfl) rfl rfl hl.1 rfl (lv_room (Nat.le_of_ble_eq_true rfl)) d_Mod_openOf_2 ⟨Nat.zero_le _, Nat.zero_le _⟩) hP hD hS hA [0, 1] [2] [1, 2, 0] rfl rfl (by decide) (by decide) (by decide) (fun _ => rfl) (fun r_1 u H locs hw hP hD hS => ?_)
  obtain rfl : (r_1 = nI (dp mSo q1)) := hw
  have hP : va_P (dC, dI) classes [(a_mod, .inr (6, [.ref a_mkind, .ref a_mwidth, .ref a_mreset, .ref a_mop, .ref a_mka, .ref a_mkb, .ref a_mkc, .ref a_mheld, .int (nI mN), .ref a_msort, .ref a_mof, .ref a_mfrom, .int (nI mMs), .ref a_mbit, .ref a_mdone, .ref a_mrests, .ref a_mxx, .ref a_myy, .ref a_mdepth, .ref a_mone, .int (nI mG), .int (nI mCk), .int mFw, .int (nI mRd), .ref a_mbefore, .ref a_mfirst, .ref a_mturned])), (a_msort, .inl (cI, 20, .inl (nF mSo))), (a_mof, .inl (cI, 20, .inl mOf))] H := hP
  have hD : va_D A [(a_mod, .inr (6, [.ref a_mkind, .ref a_mwidth, .ref a_mreset, .ref a_mop, .ref a_mka, .ref a_mkb, .ref a_mkc, .ref a_mheld, .int (nI mN), .ref a_msort, .ref a_mof, .ref a_mfrom, .int (nI mMs), .ref a_mbit, .ref a_mdone, .ref a_mrests, .ref a_mxx, .ref a_myy, .ref a_mdepth, .ref a_mone, .int (nI mG), .int (nI mCk), .int mFw, .int (nI mRd), .ref a_mbefore, .ref a_mfirst, .ref a_mturned])), (a_msort, .inl (cI, 20, .inl (nF mSo))), (a_mof, .inl (cI, 20, .inl mOf))] := hD
  refine lv_istore_n (lv' := [(2, .int (nI (dp mSo q1))), (0, .ref a_mod), (1, .int (nI q1))]) hx hb d_Mod_openOf_5 rfl hl (by decide) rfl (fun ls hl => ?_)
  refine lv_iload_n hx hb d_Mod_openOf_6 rfl (lv_at hl 2 rfl) ?_
  refine lv_iconst (v := nI 1) hx hb d_Mod_openOf_7 rfl ?_
  refine lv_isub hx hb d_Mod_openOf_8 ?_
  refine k_top (pk_sub (by have := dp_pos hd0; omega)) ?_
  refine lv_istore_n (lv' := [(3, .int (nI (q1 - 1))), (2, .int (nI (dp mSo q1))), (0, .ref a_mod), (1, .int (nI q1))]) hx hb d_Mod_openOf_9 rfl hl (by decide) rfl (fun ls hl => ?_)
  have hmp := dp_pos hd0
  have g4 := dp_le hLG q1 hq1
  have hI_2 : ((q1 - 1) < q1) ∧ (dp mSo q1 ≤ dp mSo ((q1 - 1) + 1)) ∧ (cL mSo Su q1 (dp mSo q1) = cL mSo Su ((q1 - 1) + 1) (dp mSo q1)) := ⟨(by omega), (by rw [show q1 - 1 + 1 = q1 by omega]; exact Nat.le_refl _), (by rw [show q1 - 1 + 1 = q1 by omega])⟩
  refine k_loop (σ := Nat) (D := (dC, dI)) (cl := classes) (A := A) (H0 := s.heap) (fun x => [(a_mod, .inr (6, [.ref a_mkind, .ref a_mwidth, .ref a_mreset, .ref a_mop, .ref a_mka, .ref a_mkb, .ref a_mkc, .ref a_mheld, .int (nI mN), .ref a_msort, .ref a_mof, .ref a_mfrom, .int (nI mMs), .ref a_mbit, .ref a_mdone, .ref a_mrests, .ref a_mxx, .ref a_myy, .ref a_mdepth, .ref a_mone, .int (nI mG), .int (nI mCk), .int mFw, .int (nI mRd), .ref a_mbefore, .ref a_mfirst, .ref a_mturned])), (a_msort, .inl (cI, 20, .inl (nF mSo))), (a_mof, .inl (cI, 20, .inl mOf))]) (fun x => [(3, .int (nI x)), (2, .int (nI (dp mSo q1))), (0, .ref a_mod), (1, .int (nI q1))]) (fun x => (x < q1) ∧ (dp mSo q1 ≤ dp mSo (x + 1)) ∧ (cL mSo Su q1 (dp mSo q1) = cL mSo Su (x + 1) (dp mSo q1))) (fun x => x) ?_ (q1 - 1) hI_2 hP hD hS (lv_sub hl [0, 1, 2, 3] rfl)
  intro k hI ih_3 H locs ls hP hD hS hl
  obtain ⟨hk, hdp, hcl⟩ : (k < q1) ∧ (dp mSo q1 ≤ dp mSo (k + 1)) ∧ (cL mSo Su q1 (dp mSo q1) = cL mSo Su (k + 1) (dp mSo q1)) := hI
  have hP : va_P (dC, dI) classes [(a_mod, .inr (6, [.ref a_mkind, .ref a_mwidth, .ref a_mreset, .ref a_mop, .ref a_mka, .ref a_mkb, .ref a_mkc, .ref a_mheld, .int (nI mN), .ref a_msort, .ref a_mof, .ref a_mfrom, .int (nI mMs), .ref a_mbit, .ref a_mdone, .ref a_mrests, .ref a_mxx, .ref a_myy, .ref a_mdepth, .ref a_mone, .int (nI mG), .int (nI mCk), .int mFw, .int (nI mRd), .ref a_mbefore, .ref a_mfirst, .ref a_mturned])), (a_msort, .inl (cI, 20, .inl (nF mSo))), (a_mof, .inl (cI, 20, .inl mOf))] H := hP
  have hD : va_D A [(a_mod, .inr (6, [.ref a_mkind, .ref a_mwidth, .ref a_mreset, .ref a_mop, .ref a_mka, .ref a_mkb, .ref a_mkc, .ref a_mheld, .int (nI mN), .ref a_msort, .ref a_mof, .ref a_mfrom, .int (nI mMs), .ref a_mbit, .ref a_mdone, .ref a_mrests, .ref a_mxx, .ref a_myy, .ref a_mdepth, .ref a_mone, .int (nI mG), .int (nI mCk), .int mFw, .int (nI mRd), .ref a_mbefore, .ref a_mfirst, .ref a_mturned])), (a_msort, .inl (cI, 20, .inl (nF mSo))), (a_mof, .inl (cI, 20, .inl mOf))] := hD
  have hl : lv_has ls 4 [(3, .int (nI k)), (2, .int (nI (dp mSo q1))), (0, .ref a_mod), (1, .int (nI q1))] := hl
  refine lv_aload_n hx hb d_Mod_openOf_10 rfl (lv_at hl 2 rfl) ?_
  refine va_get (D := (dC, dI)) (ci := 6) (v := .ref a_msort) (C := R_Mod) (T := F_Mod) (N := 27) hx hb hts (wi i_Mod) hown hK hP 0 rfl rfl 9 (by decide) (hts _ (mt 551 rfl rfl)) (fun _ h9 => h9) rfl d_Mod_openOf_11 ?_
  refine lv_iload_n hx hb d_Mod_openOf_14 rfl (lv_at hl 0 rfl) ?_
  refine k_ild hx hb hK hP 1 0 rfl rfl (by omega) (by decide) d_Mod_openOf_15 ?_
  have hb_4 := b_mSo k
  refine lv_iconst (v := nI 1) hx hb d_Mod_openOf_16 rfl ?_
  refine lv_icmp_ne (tgt := 31) hx hb d_Mod_openOf_17 (by decide) (fun c17 => ?_) (fun c17 => ?_)
  · skip
    have c17 : ¬ ((mSo k) = 1) := fun h => c17 ((nI_eq (by omega) (by omega)).mpr h)
    have hn1 : ¬ (mSo k = 1 ∧ dp mSo k = dp mSo q1 - 1) := by omega
    have hb1 := back_dp hdp hn1 hd0
    have hkp := dp_pos (So := mSo) (k := k) (by omega)
    refine lv_iinc (v := nI (k - 1)) (lv' := [(3, .int (nI (k - 1))), (2, .int (nI (dp mSo q1))), (0, .ref a_mod), (1, .int (nI q1))]) hx hb d_Mod_openOf_31 hl (k := 0) rfl (k_dec (by omega)) (by decide) rfl (fun ls hl => ?_)
    refine lv_goto (tgt := 10) hx hb d_Mod_openOf_34 (by decide) ?_
    have hI_5 : ((k - 1) < q1) ∧ (dp mSo q1 ≤ dp mSo ((k - 1) + 1)) ∧ (cL mSo Su q1 (dp mSo q1) = cL mSo Su ((k - 1) + 1) (dp mSo q1)) := ⟨(by omega), (by rw [show k - 1 + 1 = k by omega]; exact hb1), (by rw [show k - 1 + 1 = k by omega, hcl]; exact back_cl hn1 hd0)⟩
    exact ih_3 (k - 1) hI_5 (show (k - 1) < k from by omega) _ _ _ hP hD hS (lv_sub hl [0, 1, 2, 3] rfl)
  · skip
    have c17 : (mSo k) = 1 := (nI_eq (by omega) (by omega)).mp c17
    refine lv_aload_n hx hb d_Mod_openOf_20 rfl (lv_at hl 2 rfl) ?_
    refine lv_iload_n hx hb d_Mod_openOf_21 rfl (lv_at hl 0 rfl) ?_
    refine k_i (wr := [(a_mof, .inl (cI, 20, .inl mOf))]) (w2 := fun (u : Unit) => [(a_mod, .inr (6, [.ref a_mkind, .ref a_mwidth, .ref a_mreset, .ref a_mop, .ref a_mka, .ref a_mkb, .ref a_mkc, .ref a_mheld, .int (nI mN), .ref a_msort, .ref a_mof, .ref a_mfrom, .int (nI mMs), .ref a_mbit, .ref a_mdone, .ref a_mrests, .ref a_mxx, .ref a_myy, .ref a_mdepth, .ref a_mone, .int (nI mG), .int (nI mCk), .int mFw, .int (nI mRd), .ref a_mbefore, .ref a_mfirst, .ref a_mturned])), (a_msort, .inl (cI, 20, .inl (nF mSo))), (a_mof, .inl (cI, 20, .inl mOf))]) (va_runV (As := [.int (nI k)]) (rest := []) ⟨hx, hb, hml, hown, hts⟩ (c_Mod_deep l dC dI cI cZ a_mod a_mkind a_mwidth a_mreset a_mop a_mka a_mkb a_mkc a_mheld a_msort a_mof a_mfrom a_mbit a_mdone a_mrests a_mxx a_myy a_mdepth a_mone a_mbefore a_mfirst a_mturned tt H.size mN mMs mG mCk mFw mRd mSo k (by omega) (by omega) (by omega) (by omega) b_mSo hLG (by omega)) (cwV 1 hts (gd_V in_tl (mw 654 rfl rfl) (mw 656 rfl rfl) (mw 22 rfl rfl) (mw 47 rfl rfl) (mw 657 rfl rfl)) rfl rfl rfl (by decide +kernel) ⟨Nat.le_of_ble_eq_true rfl, Nat.le_of_ble_eq_true rfl⟩) (k_preV hK hP hD hS hA hE [0, 1] (by decide) rfl 6 0 rfl rfl) rfl rfl hl.1 rfl (lv_room (Nat.le_of_ble_eq_true rfl)) d_Mod_openOf_22 ⟨Nat.zero_le _, Nat.zero_le _⟩) hP hD hS hA [0, 1] [2] [1, 2, 0] rfl rfl (by decide) (by decide) (by decide) (fun _ => rfl) (fun r_6 u H locs hw hP hD hS => ?_)
    obtain rfl : (r_6 = nI (dp mSo k)) := hw
    have hP : va_P (dC, dI) classes [(a_mod, .inr (6, [.ref a_mkind, .ref a_mwidth, .ref a_mreset, .ref a_mop, .ref a_mka, .ref a_mkb, .ref a_mkc, .ref a_mheld, .int (nI mN), .ref a_msort, .ref a_mof, .ref a_mfrom, .int (nI mMs), .ref a_mbit, .ref a_mdone, .ref a_mrests, .ref a_mxx, .ref a_myy, .ref a_mdepth, .ref a_mone, .int (nI mG), .int (nI mCk), .int mFw, .int (nI mRd), .ref a_mbefore, .ref a_mfirst, .ref a_mturned])), (a_msort, .inl (cI, 20, .inl (nF mSo))), (a_mof, .inl (cI, 20, .inl mOf))] H := hP
    have hD : va_D A [(a_mod, .inr (6, [.ref a_mkind, .ref a_mwidth, .ref a_mreset, .ref a_mop, .ref a_mka, .ref a_mkb, .ref a_mkc, .ref a_mheld, .int (nI mN), .ref a_msort, .ref a_mof, .ref a_mfrom, .int (nI mMs), .ref a_mbit, .ref a_mdone, .ref a_mrests, .ref a_mxx, .ref a_myy, .ref a_mdepth, .ref a_mone, .int (nI mG), .int (nI mCk), .int mFw, .int (nI mRd), .ref a_mbefore, .ref a_mfirst, .ref a_mturned])), (a_msort, .inl (cI, 20, .inl (nF mSo))), (a_mof, .inl (cI, 20, .inl mOf))] := hD
    have g5 := dp_le hLG k (by omega)
    refine lv_iload_n hx hb d_Mod_openOf_25 rfl (lv_at hl 1 rfl) ?_
    refine lv_iconst (v := nI 1) hx hb d_Mod_openOf_26 rfl ?_
    refine lv_isub hx hb d_Mod_openOf_27 ?_
    refine k_top (pk_sub (by omega)) ?_
    refine lv_icmp_eq (tgt := 37) hx hb d_Mod_openOf_28 (by decide) (fun c28 => ?_) (fun c28 => ?_)
    · skip
      have c28 : (dp mSo k) = ((dp mSo q1) - 1) := (nI_eq (by omega) (by omega)).mp c28
      refine lv_aload_n hx hb d_Mod_openOf_37 rfl (lv_at hl 2 rfl) ?_
      refine va_get (D := (dC, dI)) (ci := 6) (v := .ref a_mof) (C := R_Mod) (T := F_Mod) (N := 27) hx hb hts (wi i_Mod) hown hK hP 0 rfl rfl 10 (by decide) (hts _ (mt 552 rfl rfl)) (fun _ h9 => h9) rfl d_Mod_openOf_38 ?_
      refine lv_iload_n hx hb d_Mod_openOf_41 rfl (lv_at hl 0 rfl) ?_
      refine k_rld hx hb hK hP 2 0 rfl rfl (by omega) (by decide) d_Mod_openOf_42 ?_
      refine k_top (show mOf k = nI (cL mSo Su q1 (dp mSo q1)) from (by rw [hOf k (by omega) c17, hcl, cL_1 c17, if_pos (by omega)])) ?_
      exact W.iret (v := nI (cL mSo Su q1 (dp mSo q1))) hx hb hr (fun t ht hW => ⟨⟨nI (cL mSo Su q1 (dp mSo q1)), (), rfl, rfl, by rw [ht]; exact hP, va_K.moved hW.alike hK, hD⟩, hS.F ht⟩) hS.2.2 d_Mod_openOf_43
    · skip
      have c28 : ¬ ((dp mSo k) = ((dp mSo q1) - 1)) := fun h => c28 ((nI_eq (by omega) (by omega)).mpr h)
      have hn1 : ¬ (mSo k = 1 ∧ dp mSo k = dp mSo q1 - 1) := by omega
      have hb1 := back_dp hdp hn1 hd0
      have hkp := dp_pos (So := mSo) (k := k) (by omega)
      refine lv_iinc (v := nI (k - 1)) (lv' := [(3, .int (nI (k - 1))), (2, .int (nI (dp mSo q1))), (0, .ref a_mod), (1, .int (nI q1))]) hx hb d_Mod_openOf_31 hl (k := 0) rfl (k_dec (by omega)) (by decide) rfl (fun ls hl => ?_)
      refine lv_goto (tgt := 10) hx hb d_Mod_openOf_34 (by decide) ?_
      have hI_7 : ((k - 1) < q1) ∧ (dp mSo q1 ≤ dp mSo ((k - 1) + 1)) ∧ (cL mSo Su q1 (dp mSo q1) = cL mSo Su ((k - 1) + 1) (dp mSo q1)) := ⟨(by omega), (by rw [show k - 1 + 1 = k by omega]; exact hb1), (by rw [show k - 1 + 1 = k by omega, hcl]; exact back_cl hn1 hd0)⟩
      exact ih_3 (k - 1) hI_7 (show (k - 1) < k from by omega) _ _ _ hP hD hS (lv_sub hl [0, 1, 2, 3] rfl)
set_option maxHeartbeats 4000000 in
set_option maxRecDepth 100000 in
theorem c_Mod_isTrue (l : Launch) (dC : Nat → ClassId) (dI : Nat → Nat → Nat) (cI cZ : ClassId) (a_mod a_mkind a_mwidth a_mreset a_mop a_mka a_mkb a_mkc a_mheld a_msort a_mof a_mfrom a_mbit a_mdone a_mrests a_mxx a_myy a_mdepth a_mone a_mbefore a_mfirst a_mturned : Nat) (tt sz : Nat) (mN : Nat) (mMs : Nat) (mG : Nat) (mCk : Nat) (mFw : Int32) (mRd : Nat) (mHd : Nat → Nat) (mIo : Nat → Nat) (X : Nat) (b_mN : mN ≤ 14) (b_mMs : mMs ≤ 20) (b_mG : mG ≤ 1280) (b_mRd : mRd ≤ 1) (b_mHd : ∀ j, mHd j < 256) (b_mIo : ∀ j, mIo j < 2) (hX : X < 2786) : Met l y_Mod_isTrue w_Mod_isTrue ({ frames := 0, cells := 0, slots := 0, locals := 0 }) (va_Pc [.ref a_mod, .int (nI X)] (PW (dC, dI) classes [(cI, .int), (cZ, .boolean)] tt [(a_mod, .inr (6, [.ref a_mkind, .ref a_mwidth, .ref a_mreset, .ref a_mop, .ref a_mka, .ref a_mkb, .ref a_mkc, .ref a_mheld, .int (nI mN), .ref a_msort, .ref a_mof, .ref a_mfrom, .int (nI mMs), .ref a_mbit, .ref a_mdone, .ref a_mrests, .ref a_mxx, .ref a_myy, .ref a_mdepth, .ref a_mone, .int (nI mG), .int (nI mCk), .int mFw, .int (nI mRd), .ref a_mbefore, .ref a_mfirst, .ref a_mturned])), (a_mheld, .inl (cI, 14, .inl (nF mHd))), (a_mone, .inl (cZ, 2600, .inl (nF mIo)))] sz)) (va_Qi (fun (r : Int32) (u : Unit) => (r = nI ((mV mHd mIo (X / 2) + X % 2) % 2))) (AT (dC, dI) classes [(cI, .int), (cZ, .boolean)] (va_A [(a_mod, .inr (6, [.ref a_mkind, .ref a_mwidth, .ref a_mreset, .ref a_mop, .ref a_mka, .ref a_mkb, .ref a_mkc, .ref a_mheld, .int (nI mN), .ref a_msort, .ref a_mof, .ref a_mfrom, .int (nI mMs), .ref a_mbit, .ref a_mdone, .ref a_mrests, .ref a_mxx, .ref a_myy, .ref a_mdepth, .ref a_mone, .int (nI mG), .int (nI mCk), .int mFw, .int (nI mRd), .ref a_mbefore, .ref a_mfirst, .ref a_mturned])), (a_mheld, .inl (cI, 14, .inl (nF mHd))), (a_mone, .inl (cZ, 2600, .inl (nF mIo)))] sz) (fun (u : Unit) => [(a_mod, .inr (6, [.ref a_mkind, .ref a_mwidth, .ref a_mreset, .ref a_mop, .ref a_mka, .ref a_mkb, .ref a_mkc, .ref a_mheld, .int (nI mN), .ref a_msort, .ref a_mof, .ref a_mfrom, .int (nI mMs), .ref a_mbit, .ref a_mdone, .ref a_mrests, .ref a_mxx, .ref a_myy, .ref a_mdepth, .ref a_mone, .int (nI mG), .int (nI mCk), .int mFw, .int (nI mRd), .ref a_mbefore, .ref a_mfirst, .ref a_mturned])), (a_mheld, .inl (cI, 14, .inl (nF mHd))), (a_mone, .inl (cZ, 2600, .inl (nF mIo)))])) (va_A [(a_mod, .inr (6, [.ref a_mkind, .ref a_mwidth, .ref a_mreset, .ref a_mop, .ref a_mka, .ref a_mkb, .ref a_mkc, .ref a_mheld, .int (nI mN), .ref a_msort, .ref a_mof, .ref a_mfrom, .int (nI mMs), .ref a_mbit, .ref a_mdone, .ref a_mrests, .ref a_mxx, .ref a_myy, .ref a_mdepth, .ref a_mone, .int (nI mG), .int (nI mCk), .int mFw, .int (nI mRd), .ref a_mbefore, .ref a_mfirst, .ref a_mturned])), (a_mheld, .inl (cI, 14, .inl (nF mHd))), (a_mone, .inl (cZ, 2600, .inl (nF mIo)))] sz)) 0 0 (va_A [(a_mod, .inr (6, [.ref a_mkind, .ref a_mwidth, .ref a_mreset, .ref a_mop, .ref a_mka, .ref a_mkb, .ref a_mkc, .ref a_mheld, .int (nI mN), .ref a_msort, .ref a_mof, .ref a_mfrom, .int (nI mMs), .ref a_mbit, .ref a_mdone, .ref a_mrests, .ref a_mxx, .ref a_myy, .ref a_mdepth, .ref a_mone, .int (nI mG), .int (nI mCk), .int mFw, .int (nI mRd), .ref a_mbefore, .ref a_mfirst, .ref a_mturned])), (a_mheld, .inl (cI, 14, .inl (nF mHd))), (a_mone, .inl (cZ, 2600, .inl (nF mIo)))] sz) := by
  refine Met.ofW (cc := b_Mod_isTrue) (maxL := 3) (ret := (some .boolean)) (by decide) rfl ?_
  intro p e s m args below meth c s₁ B hml hv
  obtain ⟨rfl, hsz, hP, hK, hD0, hE⟩ := hv
  have hx := B.exec
  have hb := B.bytes
  have hr := B.returns
  have hts := atoms_spec (ws := w_Mod_isTrue) B.pre
  have hown : s.vm.findClass R_Mod = some m.cls := findClass_of_methodNamed B.named
  have hlocks := B.notSynchronized
  subst hsz
  have hD := hD0.self (sz := s.heap.size)
  generalize hAe : va_A [(a_mod, .inr (6, [.ref a_mkind, .ref a_mwidth, .ref a_mreset, .ref a_mop, .ref a_mka, .ref a_mkb, .ref a_mkc, .ref a_mheld, .int (nI mN), .ref a_msort, .ref a_mof, .ref a_mfrom, .int (nI mMs), .ref a_mbit, .ref a_mdone, .ref a_mrests, .ref a_mxx, .ref a_myy, .ref a_mdepth, .ref a_mone, .int (nI mG), .int (nI mCk), .int mFw, .int (nI mRd), .ref a_mbefore, .ref a_mfirst, .ref a_mturned])), (a_mheld, .inl (cI, 14, .inl (nF mHd))), (a_mone, .inl (cZ, 2600, .inl (nF mIo)))] s.heap.size = A at hD hE ⊢
  have hA : ∀ q : Nat, s.heap.size ≤ q → A q := fun q h => by rw [← hAe]; exact Or.inr h
  have hS : va_S A s.heap s.heap [] := va_S.rf
  have hP : va_P (dC, dI) classes [(a_mod, .inr (6, [.ref a_mkind, .ref a_mwidth, .ref a_mreset, .ref a_mop, .ref a_mka, .ref a_mkb, .ref a_mkc, .ref a_mheld, .int (nI mN), .ref a_msort, .ref a_mof, .ref a_mfrom, .int (nI mMs), .ref a_mbit, .ref a_mdone, .ref a_mrests, .ref a_mxx, .ref a_myy, .ref a_mdepth, .ref a_mone, .int (nI mG), .int (nI mCk), .int mFw, .int (nI mRd), .ref a_mbefore, .ref a_mfirst, .ref a_mturned])), (a_mheld, .inl (cI, 14, .inl (nF mHd))), (a_mone, .inl (cZ, 2600, .inl (nF mIo)))] s.heap := hP
  have hl := lv_entry ([.ref a_mod, .int (nI X)]) (n := 3) (Nat.le_of_ble_eq_true rfl)
  rw [lg_entry_eq]
  generalize (lg_sl ([.ref a_mod, .int (nI X)]) ++ List.replicate (3 - (lg_sl ([.ref a_mod, .int (nI X)])).length) Slot.unset).toArray = ls at hl ⊢
  have hl : lv_has ls 3 [(0, .ref a_mod), (1, .int (nI X))] := hl
  refine lv_iload_n hx hb d_Mod_isTrue_0 rfl (lv_at hl 1 rfl) ?_
  refine lv_iconst (v := nI 2) hx hb d_Mod_isTrue_1 rfl ?_
  refine lv_icmp_ge (tgt := 9) hx hb d_Mod_isTrue_2 (by decide) (fun c2 => ?_) (fun c2 => ?_)
  · skip
    have c2 : 2 ≤ X := (nI_leI (by omega) (by omega)).mp c2
    refine lv_iload_n hx hb d_Mod_isTrue_9 rfl (lv_at hl 1 rfl) ?_
    refine lv_sipush (v := nI 226) hx hb d_Mod_isTrue_10 rfl ?_
    refine lv_icmp_ge (tgt := 52) hx hb d_Mod_isTrue_13 (by decide) (fun c13 => ?_) (fun c13 => ?_)
    · skip
      have c13 : 226 ≤ X := (nI_leI (by omega) (by omega)).mp c13
      refine lv_aload_n hx hb d_Mod_isTrue_52 rfl (lv_at hl 0 rfl) ?_
      refine va_get (D := (dC, dI)) (ci := 6) (v := .ref a_mone) (C := R_Mod) (T := F_Mod) (N := 27) hx hb hts (wi i_Mod) hown hK hP 0 rfl rfl 19 (by decide) (hts _ (mt 561 rfl rfl)) (fun _ h9 => h9) rfl d_Mod_isTrue_53 ?_
      refine lv_iload_n hx hb d_Mod_isTrue_56 rfl (lv_at hl 1 rfl) ?_
      refine lv_iconst (v := nI 2) hx hb d_Mod_isTrue_57 rfl ?_
      refine lv_idiv hx hb d_Mod_isTrue_58 (nI_ne0 (by decide) (by decide)) ?_
      refine k_top (pk_div (by omega) (by decide) (by decide)) ?_
      refine lv_bipush (v := nI 113) hx hb d_Mod_isTrue_59 rfl ?_
      refine lv_isub hx hb d_Mod_isTrue_61 ?_
      refine k_top (pk_sub (by omega)) ?_
      refine k_zld hx hb hK hP 2 1 rfl rfl (by omega) (by decide) d_Mod_isTrue_62 ?_
      have hb_1 := b_mIo ((X / 2) - 113)
      have hv : mV mHd mIo (X / 2) = (mIo ((X / 2) - 113)) := by first | exact mV_0 (by omega) | exact mV_g (by omega) | (rw [mV_b (by omega) (by omega)]; rw [and1] at c41; omega)
      have hvb : (mIo ((X / 2) - 113)) < 2 := by first | decide | exact b_mIo _
      refine lv_istore_n (lv' := [(2, .int (nI (mIo ((X / 2) - 113)))), (0, .ref a_mod), (1, .int (nI X))]) hx hb d_Mod_isTrue_63 rfl hl (by decide) rfl (fun ls hl => ?_)
      refine lv_iload_n hx hb d_Mod_isTrue_64 rfl (lv_at hl 0 rfl) ?_
      refine lv_iload_n hx hb d_Mod_isTrue_65 rfl (lv_at hl 2 rfl) ?_
      refine lv_iconst (v := nI 1) hx hb d_Mod_isTrue_66 rfl ?_
      refine lv_iand hx hb d_Mod_isTrue_67 ?_
      refine k_top (nI_and _ _) ?_
      refine lv_iconst (v := nI 1) hx hb d_Mod_isTrue_68 rfl ?_
      refine lv_icmp_ne (tgt := 76) hx hb d_Mod_isTrue_69 (by decide) (fun c69 => ?_) (fun c69 => ?_)
      · skip
        have c69 : ¬ ((X &&& 1) = 1) := fun h => c69 ((nI_eq (by rw [and1]; omega) (by omega)).mpr h)
        refine lv_iconst (v := nI 0) hx hb d_Mod_isTrue_76 rfl ?_
        refine lv_icmp_eq (tgt := 84) hx hb d_Mod_isTrue_77 (by decide) (fun c77 => ?_) (fun c77 => ?_)
        · skip
          have c77 : (mIo ((X / 2) - 113)) = 0 := (nI_eq (by omega) (by omega)).mp c77
          refine lv_iconst (v := nI 0) hx hb d_Mod_isTrue_84 rfl ?_
          exact W.zret (v := nI 0) (ty := .boolean) hx hb hr (k_narZ (by omega)) (fun t ht hW => ⟨⟨nI 0, (), rfl, (congrArg nI (show _ = (mV mHd mIo (X / 2) + X % 2) % 2 by rw [and1] at c69; rw [hv]; omega)), by rw [ht]; exact hP, va_K.moved hW.alike hK, hD⟩, hS.F ht⟩) hS.2.2 d_Mod_isTrue_85
        · skip
          have c77 : ¬ ((mIo ((X / 2) - 113)) = 0) := fun h => c77 ((nI_eq (by omega) (by omega)).mpr h)
          refine lv_iconst (v := nI 1) hx hb d_Mod_isTrue_80 rfl ?_
          refine lv_goto (tgt := 85) hx hb d_Mod_isTrue_81 (by decide) ?_
          exact W.zret (v := nI 1) (ty := .boolean) hx hb hr (k_narZ (by omega)) (fun t ht hW => ⟨⟨nI 1, (), rfl, (congrArg nI (show _ = (mV mHd mIo (X / 2) + X % 2) % 2 by rw [and1] at c69; rw [hv]; omega)), by rw [ht]; exact hP, va_K.moved hW.alike hK, hD⟩, hS.F ht⟩) hS.2.2 d_Mod_isTrue_85
      · skip
        have c69 : (X &&& 1) = 1 := (nI_eq (by rw [and1]; omega) (by omega)).mp c69
        refine lv_iconst (v := nI 1) hx hb d_Mod_isTrue_72 rfl ?_
        refine lv_goto (tgt := 77) hx hb d_Mod_isTrue_73 (by decide) ?_
        refine lv_icmp_eq (tgt := 84) hx hb d_Mod_isTrue_77 (by decide) (fun c77 => ?_) (fun c77 => ?_)
        · skip
          have c77 : (mIo ((X / 2) - 113)) = 1 := (nI_eq (by omega) (by omega)).mp c77
          refine lv_iconst (v := nI 0) hx hb d_Mod_isTrue_84 rfl ?_
          exact W.zret (v := nI 0) (ty := .boolean) hx hb hr (k_narZ (by omega)) (fun t ht hW => ⟨⟨nI 0, (), rfl, (congrArg nI (show _ = (mV mHd mIo (X / 2) + X % 2) % 2 by rw [and1] at c69; rw [hv]; omega)), by rw [ht]; exact hP, va_K.moved hW.alike hK, hD⟩, hS.F ht⟩) hS.2.2 d_Mod_isTrue_85
        · skip
          have c77 : ¬ ((mIo ((X / 2) - 113)) = 1) := fun h => c77 ((nI_eq (by omega) (by omega)).mpr h)
          refine lv_iconst (v := nI 1) hx hb d_Mod_isTrue_80 rfl ?_
          refine lv_goto (tgt := 85) hx hb d_Mod_isTrue_81 (by decide) ?_
          exact W.zret (v := nI 1) (ty := .boolean) hx hb hr (k_narZ (by omega)) (fun t ht hW => ⟨⟨nI 1, (), rfl, (congrArg nI (show _ = (mV mHd mIo (X / 2) + X % 2) % 2 by rw [and1] at c69; rw [hv]; omega)), by rw [ht]; exact hP, va_K.moved hW.alike hK, hD⟩, hS.F ht⟩) hS.2.2 d_Mod_isTrue_85
    · skip
      have c13 : ¬ (226 ≤ X) := fun h => c13 ((nI_leI (by omega) (by omega)).mpr h)
      refine lv_aload_n hx hb d_Mod_isTrue_16 rfl (lv_at hl 0 rfl) ?_
      refine va_get (D := (dC, dI)) (ci := 6) (v := .ref a_mheld) (C := R_Mod) (T := F_Mod) (N := 27) hx hb hts (wi i_Mod) hown hK hP 0 rfl rfl 7 (by decide) (hts _ (mt 549 rfl rfl)) (fun _ h9 => h9) rfl d_Mod_isTrue_17 ?_
      refine lv_iload_n hx hb d_Mod_isTrue_20 rfl (lv_at hl 1 rfl) ?_
      refine lv_iconst (v := nI 2) hx hb d_Mod_isTrue_21 rfl ?_
      refine lv_idiv hx hb d_Mod_isTrue_22 (nI_ne0 (by decide) (by decide)) ?_
      refine k_top (pk_div (by omega) (by decide) (by decide)) ?_
      refine lv_iconst (v := nI 1) hx hb d_Mod_isTrue_23 rfl ?_
      refine lv_isub hx hb d_Mod_isTrue_24 ?_
      refine k_top (pk_sub (by omega)) ?_
      refine lv_bipush (v := nI 8) hx hb d_Mod_isTrue_25 rfl ?_
      refine lv_idiv hx hb d_Mod_isTrue_27 (nI_ne0 (by decide) (by decide)) ?_
      refine k_top (pk_div (by omega) (by decide) (by decide)) ?_
      refine k_ild hx hb hK hP 1 0 rfl rfl (by omega) (by decide) d_Mod_isTrue_28 ?_
      have hb_2 := b_mHd (((X / 2) - 1) / 8)
      refine lv_iload_n hx hb d_Mod_isTrue_29 rfl (lv_at hl 1 rfl) ?_
      refine lv_iconst (v := nI 2) hx hb d_Mod_isTrue_30 rfl ?_
      refine lv_idiv hx hb d_Mod_isTrue_31 (nI_ne0 (by decide) (by decide)) ?_
      refine k_top (pk_div (by omega) (by decide) (by decide)) ?_
      refine lv_iconst (v := nI 1) hx hb d_Mod_isTrue_32 rfl ?_
      refine lv_isub hx hb d_Mod_isTrue_33 ?_
      refine k_top (pk_sub (by omega)) ?_
      refine lv_bipush (v := nI 8) hx hb d_Mod_isTrue_34 rfl ?_
      refine lv_irem hx hb d_Mod_isTrue_36 (nI_ne0 (by decide) (by decide)) ?_
      refine k_top (pk_rem (by omega) (by decide) (by decide)) ?_
      refine lv_ishr hx hb d_Mod_isTrue_37 ?_
      refine k_top (nI_shr (by have := b_mHd ((X / 2 - 1) / 8); omega) (by omega)) ?_
      refine lv_iconst (v := nI 1) hx hb d_Mod_isTrue_38 rfl ?_
      refine lv_iand hx hb d_Mod_isTrue_39 ?_
      refine k_top (nI_and _ _) ?_
      refine lv_iconst (v := nI 1) hx hb d_Mod_isTrue_40 rfl ?_
      refine lv_icmp_ne (tgt := 48) hx hb d_Mod_isTrue_41 (by decide) (fun c41 => ?_) (fun c41 => ?_)
      · skip
        have c41 : ¬ ((((mHd (((X / 2) - 1) / 8)) / 2 ^ (((X / 2) - 1) % 8)) &&& 1) = 1) := fun h => c41 ((nI_eq (by rw [and1]; omega) (by omega)).mpr h)
        refine lv_iconst (v := nI 0) hx hb d_Mod_isTrue_48 rfl ?_
        refine lv_goto (tgt := 63) hx hb d_Mod_isTrue_49 (by decide) ?_
        have hv : mV mHd mIo (X / 2) = 0 := by first | exact mV_0 (by omega) | exact mV_g (by omega) | (rw [mV_b (by omega) (by omega)]; rw [and1] at c41; omega)
        have hvb : 0 < 2 := by first | decide | exact b_mIo _
        refine lv_istore_n (lv' := [(2, .int (nI 0)), (0, .ref a_mod), (1, .int (nI X))]) hx hb d_Mod_isTrue_63 rfl hl (by decide) rfl (fun ls hl => ?_)
        refine lv_iload_n hx hb d_Mod_isTrue_64 rfl (lv_at hl 0 rfl) ?_
        refine lv_iload_n hx hb d_Mod_isTrue_65 rfl (lv_at hl 2 rfl) ?_
        refine lv_iconst (v := nI 1) hx hb d_Mod_isTrue_66 rfl ?_
        refine lv_iand hx hb d_Mod_isTrue_67 ?_
        refine k_top (nI_and _ _) ?_
        refine lv_iconst (v := nI 1) hx hb d_Mod_isTrue_68 rfl ?_
        refine lv_icmp_ne (tgt := 76) hx hb d_Mod_isTrue_69 (by decide) (fun c69 => ?_) (fun c69 => ?_)
        · skip
          have c69 : ¬ ((X &&& 1) = 1) := fun h => c69 ((nI_eq (by rw [and1]; omega) (by omega)).mpr h)
          refine lv_iconst (v := nI 0) hx hb d_Mod_isTrue_76 rfl ?_
          refine lv_icmp_eq (tgt := 84) hx hb d_Mod_isTrue_77 (by decide) (fun c77 => ?_) (fun c77 => ?_)
          · skip
            have c77 : 0 = 0 := (nI_eq (by omega) (by omega)).mp c77
            refine lv_iconst (v := nI 0) hx hb d_Mod_isTrue_84 rfl ?_
            exact W.zret (v := nI 0) (ty := .boolean) hx hb hr (k_narZ (by omega)) (fun t ht hW => ⟨⟨nI 0, (), rfl, (congrArg nI (show _ = (mV mHd mIo (X / 2) + X % 2) % 2 by rw [and1] at c69; rw [hv]; omega)), by rw [ht]; exact hP, va_K.moved hW.alike hK, hD⟩, hS.F ht⟩) hS.2.2 d_Mod_isTrue_85
          · skip
            have c77 : ¬ (0 = 0) := fun h => c77 ((nI_eq (by omega) (by omega)).mpr h)
            refine lv_iconst (v := nI 1) hx hb d_Mod_isTrue_80 rfl ?_
            refine lv_goto (tgt := 85) hx hb d_Mod_isTrue_81 (by decide) ?_
            exact W.zret (v := nI 1) (ty := .boolean) hx hb hr (k_narZ (by omega)) (fun t ht hW => ⟨⟨nI 1, (), rfl, (congrArg nI (show _ = (mV mHd mIo (X / 2) + X % 2) % 2 by rw [and1] at c69; rw [hv]; omega)), by rw [ht]; exact hP, va_K.moved hW.alike hK, hD⟩, hS.F ht⟩) hS.2.2 d_Mod_isTrue_85
        · skip
          have c69 : (X &&& 1) = 1 := (nI_eq (by rw [and1]; omega) (by omega)).mp c69
          refine lv_iconst (v := nI 1) hx hb d_Mod_isTrue_72 rfl ?_
          refine lv_goto (tgt := 77) hx hb d_Mod_isTrue_73 (by decide) ?_
          refine lv_icmp_eq (tgt := 84) hx hb d_Mod_isTrue_77 (by decide) (fun c77 => ?_) (fun c77 => ?_)
          · skip
            have c77 : 0 = 1 := (nI_eq (by omega) (by omega)).mp c77
            refine lv_iconst (v := nI 0) hx hb d_Mod_isTrue_84 rfl ?_
            exact W.zret (v := nI 0) (ty := .boolean) hx hb hr (k_narZ (by omega)) (fun t ht hW => ⟨⟨nI 0, (), rfl, (congrArg nI (show _ = (mV mHd mIo (X / 2) + X % 2) % 2 by rw [and1] at c69; rw [hv]; omega)), by rw [ht]; exact hP, va_K.moved hW.alike hK, hD⟩, hS.F ht⟩) hS.2.2 d_Mod_isTrue_85
          · skip
            have c77 : ¬ (0 = 1) := fun h => c77 ((nI_eq (by omega) (by omega)).mpr h)
            refine lv_iconst (v := nI 1) hx hb d_Mod_isTrue_80 rfl ?_
            refine lv_goto (tgt := 85) hx hb d_Mod_isTrue_81 (by decide) ?_
            exact W.zret (v := nI 1) (ty := .boolean) hx hb hr (k_narZ (by omega)) (fun t ht hW => ⟨⟨nI 1, (), rfl, (congrArg nI (show _ = (mV mHd mIo (X / 2) + X % 2) % 2 by rw [and1] at c69; rw [hv]; omega)), by rw [ht]; exact hP, va_K.moved hW.alike hK, hD⟩, hS.F ht⟩) hS.2.2 d_Mod_isTrue_85
      · skip
        have c41 : (((mHd (((X / 2) - 1) / 8)) / 2 ^ (((X / 2) - 1) % 8)) &&& 1) = 1 := (nI_eq (by rw [and1]; omega) (by omega)).mp c41
        refine lv_iconst (v := nI 1) hx hb d_Mod_isTrue_44 rfl ?_
        refine lv_goto (tgt := 63) hx hb d_Mod_isTrue_45 (by decide) ?_
        have hv : mV mHd mIo (X / 2) = 1 := by first | exact mV_0 (by omega) | exact mV_g (by omega) | (rw [mV_b (by omega) (by omega)]; rw [and1] at c41; omega)
        have hvb : 1 < 2 := by first | decide | exact b_mIo _
        refine lv_istore_n (lv' := [(2, .int (nI 1)), (0, .ref a_mod), (1, .int (nI X))]) hx hb d_Mod_isTrue_63 rfl hl (by decide) rfl (fun ls hl => ?_)
        refine lv_iload_n hx hb d_Mod_isTrue_64 rfl (lv_at hl 0 rfl) ?_
        refine lv_iload_n hx hb d_Mod_isTrue_65 rfl (lv_at hl 2 rfl) ?_
        refine lv_iconst (v := nI 1) hx hb d_Mod_isTrue_66 rfl ?_
        refine lv_iand hx hb d_Mod_isTrue_67 ?_
        refine k_top (nI_and _ _) ?_
        refine lv_iconst (v := nI 1) hx hb d_Mod_isTrue_68 rfl ?_
        refine lv_icmp_ne (tgt := 76) hx hb d_Mod_isTrue_69 (by decide) (fun c69 => ?_) (fun c69 => ?_)
        · skip
          have c69 : ¬ ((X &&& 1) = 1) := fun h => c69 ((nI_eq (by rw [and1]; omega) (by omega)).mpr h)
          refine lv_iconst (v := nI 0) hx hb d_Mod_isTrue_76 rfl ?_
          refine lv_icmp_eq (tgt := 84) hx hb d_Mod_isTrue_77 (by decide) (fun c77 => ?_) (fun c77 => ?_)
          · skip
            have c77 : 1 = 0 := (nI_eq (by omega) (by omega)).mp c77
            refine lv_iconst (v := nI 0) hx hb d_Mod_isTrue_84 rfl ?_
            exact W.zret (v := nI 0) (ty := .boolean) hx hb hr (k_narZ (by omega)) (fun t ht hW => ⟨⟨nI 0, (), rfl, (congrArg nI (show _ = (mV mHd mIo (X / 2) + X % 2) % 2 by rw [and1] at c69; rw [hv]; omega)), by rw [ht]; exact hP, va_K.moved hW.alike hK, hD⟩, hS.F ht⟩) hS.2.2 d_Mod_isTrue_85
          · skip
            have c77 : ¬ (1 = 0) := fun h => c77 ((nI_eq (by omega) (by omega)).mpr h)
            refine lv_iconst (v := nI 1) hx hb d_Mod_isTrue_80 rfl ?_
            refine lv_goto (tgt := 85) hx hb d_Mod_isTrue_81 (by decide) ?_
            exact W.zret (v := nI 1) (ty := .boolean) hx hb hr (k_narZ (by omega)) (fun t ht hW => ⟨⟨nI 1, (), rfl, (congrArg nI (show _ = (mV mHd mIo (X / 2) + X % 2) % 2 by rw [and1] at c69; rw [hv]; omega)), by rw [ht]; exact hP, va_K.moved hW.alike hK, hD⟩, hS.F ht⟩) hS.2.2 d_Mod_isTrue_85
        · skip
          have c69 : (X &&& 1) = 1 := (nI_eq (by rw [and1]; omega) (by omega)).mp c69
          refine lv_iconst (v := nI 1) hx hb d_Mod_isTrue_72 rfl ?_
          refine lv_goto (tgt := 77) hx hb d_Mod_isTrue_73 (by decide) ?_
          refine lv_icmp_eq (tgt := 84) hx hb d_Mod_isTrue_77 (by decide) (fun c77 => ?_) (fun c77 => ?_)
          · skip
            have c77 : 1 = 1 := (nI_eq (by omega) (by omega)).mp c77
            refine lv_iconst (v := nI 0) hx hb d_Mod_isTrue_84 rfl ?_
            exact W.zret (v := nI 0) (ty := .boolean) hx hb hr (k_narZ (by omega)) (fun t ht hW => ⟨⟨nI 0, (), rfl, (congrArg nI (show _ = (mV mHd mIo (X / 2) + X % 2) % 2 by rw [and1] at c69; rw [hv]; omega)), by rw [ht]; exact hP, va_K.moved hW.alike hK, hD⟩, hS.F ht⟩) hS.2.2 d_Mod_isTrue_85
          · skip
            have c77 : ¬ (1 = 1) := fun h => c77 ((nI_eq (by omega) (by omega)).mpr h)
            refine lv_iconst (v := nI 1) hx hb d_Mod_isTrue_80 rfl ?_
            refine lv_goto (tgt := 85) hx hb d_Mod_isTrue_81 (by decide) ?_
            exact W.zret (v := nI 1) (ty := .boolean) hx hb hr (k_narZ (by omega)) (fun t ht hW => ⟨⟨nI 1, (), rfl, (congrArg nI (show _ = (mV mHd mIo (X / 2) + X % 2) % 2 by rw [and1] at c69; rw [hv]; omega)), by rw [ht]; exact hP, va_K.moved hW.alike hK, hD⟩, hS.F ht⟩) hS.2.2 d_Mod_isTrue_85
  · skip
    have c2 : ¬ (2 ≤ X) := fun h => c2 ((nI_leI (by omega) (by omega)).mpr h)
    refine lv_iconst (v := nI 0) hx hb d_Mod_isTrue_5 rfl ?_
    refine lv_goto (tgt := 63) hx hb d_Mod_isTrue_6 (by decide) ?_
    have hv : mV mHd mIo (X / 2) = 0 := by first | exact mV_0 (by omega) | exact mV_g (by omega) | (rw [mV_b (by omega) (by omega)]; rw [and1] at c41; omega)
    have hvb : 0 < 2 := by first | decide | exact b_mIo _
    refine lv_istore_n (lv' := [(2, .int (nI 0)), (0, .ref a_mod), (1, .int (nI X))]) hx hb d_Mod_isTrue_63 rfl hl (by decide) rfl (fun ls hl => ?_)
    refine lv_iload_n hx hb d_Mod_isTrue_64 rfl (lv_at hl 0 rfl) ?_
    refine lv_iload_n hx hb d_Mod_isTrue_65 rfl (lv_at hl 2 rfl) ?_
    refine lv_iconst (v := nI 1) hx hb d_Mod_isTrue_66 rfl ?_
    refine lv_iand hx hb d_Mod_isTrue_67 ?_
    refine k_top (nI_and _ _) ?_
    refine lv_iconst (v := nI 1) hx hb d_Mod_isTrue_68 rfl ?_
    refine lv_icmp_ne (tgt := 76) hx hb d_Mod_isTrue_69 (by decide) (fun c69 => ?_) (fun c69 => ?_)
    · skip
      have c69 : ¬ ((X &&& 1) = 1) := fun h => c69 ((nI_eq (by rw [and1]; omega) (by omega)).mpr h)
      refine lv_iconst (v := nI 0) hx hb d_Mod_isTrue_76 rfl ?_
      refine lv_icmp_eq (tgt := 84) hx hb d_Mod_isTrue_77 (by decide) (fun c77 => ?_) (fun c77 => ?_)
      · skip
        have c77 : 0 = 0 := (nI_eq (by omega) (by omega)).mp c77
        refine lv_iconst (v := nI 0) hx hb d_Mod_isTrue_84 rfl ?_
        exact W.zret (v := nI 0) (ty := .boolean) hx hb hr (k_narZ (by omega)) (fun t ht hW => ⟨⟨nI 0, (), rfl, (congrArg nI (show _ = (mV mHd mIo (X / 2) + X % 2) % 2 by rw [and1] at c69; rw [hv]; omega)), by rw [ht]; exact hP, va_K.moved hW.alike hK, hD⟩, hS.F ht⟩) hS.2.2 d_Mod_isTrue_85
      · skip
        have c77 : ¬ (0 = 0) := fun h => c77 ((nI_eq (by omega) (by omega)).mpr h)
        refine lv_iconst (v := nI 1) hx hb d_Mod_isTrue_80 rfl ?_
        refine lv_goto (tgt := 85) hx hb d_Mod_isTrue_81 (by decide) ?_
        exact W.zret (v := nI 1) (ty := .boolean) hx hb hr (k_narZ (by omega)) (fun t ht hW => ⟨⟨nI 1, (), rfl, (congrArg nI (show _ = (mV mHd mIo (X / 2) + X % 2) % 2 by rw [and1] at c69; rw [hv]; omega)), by rw [ht]; exact hP, va_K.moved hW.alike hK, hD⟩, hS.F ht⟩) hS.2.2 d_Mod_isTrue_85
    · skip
      have c69 : (X &&& 1) = 1 := (nI_eq (by rw [and1]; omega) (by omega)).mp c69
      refine lv_iconst (v := nI 1) hx hb d_Mod_isTrue_72 rfl ?_
      refine lv_goto (tgt := 77) hx hb d_Mod_isTrue_73 (by decide) ?_
      refine lv_icmp_eq (tgt := 84) hx hb d_Mod_isTrue_77 (by decide) (fun c77 => ?_) (fun c77 => ?_)
      · skip
        have c77 : 0 = 1 := (nI_eq (by omega) (by omega)).mp c77
        refine lv_iconst (v := nI 0) hx hb d_Mod_isTrue_84 rfl ?_
        exact W.zret (v := nI 0) (ty := .boolean) hx hb hr (k_narZ (by omega)) (fun t ht hW => ⟨⟨nI 0, (), rfl, (congrArg nI (show _ = (mV mHd mIo (X / 2) + X % 2) % 2 by rw [and1] at c69; rw [hv]; omega)), by rw [ht]; exact hP, va_K.moved hW.alike hK, hD⟩, hS.F ht⟩) hS.2.2 d_Mod_isTrue_85
      · skip
        have c77 : ¬ (0 = 1) := fun h => c77 ((nI_eq (by omega) (by omega)).mpr h)
        refine lv_iconst (v := nI 1) hx hb d_Mod_isTrue_80 rfl ?_
        refine lv_goto (tgt := 85) hx hb d_Mod_isTrue_81 (by decide) ?_
        exact W.zret (v := nI 1) (ty := .boolean) hx hb hr (k_narZ (by omega)) (fun t ht hW => ⟨⟨nI 1, (), rfl, (congrArg nI (show _ = (mV mHd mIo (X / 2) + X % 2) % 2 by rw [and1] at c69; rw [hv]; omega)), by rw [ht]; exact hP, va_K.moved hW.alike hK, hD⟩, hS.F ht⟩) hS.2.2 d_Mod_isTrue_85
set_option maxHeartbeats 4000000 in
set_option maxRecDepth 100000 in
theorem c_Mod_work (l : Launch) (dC : Nat → ClassId) (dI : Nat → Nat → Nat) (cI cZ : ClassId) (a_mod a_mkind a_mwidth a_mreset a_mop a_mka a_mkb a_mkc a_mheld a_msort a_mof a_mfrom a_mbit a_mdone a_mrests a_mxx a_myy a_mdepth a_mone a_mbefore a_mfirst a_mturned : Nat) (tt sz : Nat) (mN : Nat) (mMs : Nat) (mG : Nat) (mCk : Nat) (mFw : Int32) (mRd : Nat) (mX : Nat → Nat) (mY : Nat → Nat) (mHd : Nat → Nat) (mIo : Nat → Nat) (gd : Nat) (P : Nat → Nat) (Dp : Nat → Nat) (Sl : Nat → Nat) (T : Nat → Nat) (mDe : Nat → Nat) (b_mN : mN ≤ 14) (b_mMs : mMs ≤ 20) (b_mG : mG ≤ 1280) (b_mRd : mRd ≤ 1) (b_mX : ∀ j, mX j < 2786) (b_mY : ∀ j, mY j < 2786) (b_mHd : ∀ j, mHd j < 256) (b_mIo : ∀ j, mIo j < 2) (hN : NJ mG gd P Dp Sl T) (hXY : MXY mG mX mY mDe P Dp) : Met l y_Mod_work w_Mod_work ({ frames := 1, cells := 0, slots := 0, locals := 22 }) (va_Pc [.ref a_mod] (PW (dC, dI) classes [(cI, .int), (cZ, .boolean)] tt [(a_mod, .inr (6, [.ref a_mkind, .ref a_mwidth, .ref a_mreset, .ref a_mop, .ref a_mka, .ref a_mkb, .ref a_mkc, .ref a_mheld, .int (nI mN), .ref a_msort, .ref a_mof, .ref a_mfrom, .int (nI mMs), .ref a_mbit, .ref a_mdone, .ref a_mrests, .ref a_mxx, .ref a_myy, .ref a_mdepth, .ref a_mone, .int (nI mG), .int (nI mCk), .int mFw, .int (nI mRd), .ref a_mbefore, .ref a_mfirst, .ref a_mturned])), (a_mxx, .inl (cI, 2600, .inl (nF mX))), (a_myy, .inl (cI, 2600, .inl (nF mY))), (a_mheld, .inl (cI, 14, .inl (nF mHd))), (a_mone, .inl (cZ, 2600, .inl (nF mIo)))] sz)) (va_Qv (fun (u : (Nat → Nat)) => (∀ j, u j < 2) ∧ (∀ j, j < mG → u j = evn (eH mHd) (T (113 + j)))) (AT (dC, dI) classes [(cI, .int), (cZ, .boolean)] (va_A [(a_mod, .inr (6, [.ref a_mkind, .ref a_mwidth, .ref a_mreset, .ref a_mop, .ref a_mka, .ref a_mkb, .ref a_mkc, .ref a_mheld, .int (nI mN), .ref a_msort, .ref a_mof, .ref a_mfrom, .int (nI mMs), .ref a_mbit, .ref a_mdone, .ref a_mrests, .ref a_mxx, .ref a_myy, .ref a_mdepth, .ref a_mone, .int (nI mG), .int (nI mCk), .int mFw, .int (nI mRd), .ref a_mbefore, .ref a_mfirst, .ref a_mturned])), (a_mxx, .inl (cI, 2600, .inl (nF mX))), (a_myy, .inl (cI, 2600, .inl (nF mY))), (a_mheld, .inl (cI, 14, .inl (nF mHd))), (a_mone, .inl (cZ, 2600, .inl (nF mIo)))] sz) (fun (u : (Nat → Nat)) => [(a_mod, .inr (6, [.ref a_mkind, .ref a_mwidth, .ref a_mreset, .ref a_mop, .ref a_mka, .ref a_mkb, .ref a_mkc, .ref a_mheld, .int (nI mN), .ref a_msort, .ref a_mof, .ref a_mfrom, .int (nI mMs), .ref a_mbit, .ref a_mdone, .ref a_mrests, .ref a_mxx, .ref a_myy, .ref a_mdepth, .ref a_mone, .int (nI mG), .int (nI mCk), .int mFw, .int (nI mRd), .ref a_mbefore, .ref a_mfirst, .ref a_mturned])), (a_mxx, .inl (cI, 2600, .inl (nF mX))), (a_myy, .inl (cI, 2600, .inl (nF mY))), (a_mheld, .inl (cI, 14, .inl (nF mHd))), (a_mone, .inl (cZ, 2600, .inl (nF u)))])) (va_A [(a_mod, .inr (6, [.ref a_mkind, .ref a_mwidth, .ref a_mreset, .ref a_mop, .ref a_mka, .ref a_mkb, .ref a_mkc, .ref a_mheld, .int (nI mN), .ref a_msort, .ref a_mof, .ref a_mfrom, .int (nI mMs), .ref a_mbit, .ref a_mdone, .ref a_mrests, .ref a_mxx, .ref a_myy, .ref a_mdepth, .ref a_mone, .int (nI mG), .int (nI mCk), .int mFw, .int (nI mRd), .ref a_mbefore, .ref a_mfirst, .ref a_mturned])), (a_mxx, .inl (cI, 2600, .inl (nF mX))), (a_myy, .inl (cI, 2600, .inl (nF mY))), (a_mheld, .inl (cI, 14, .inl (nF mHd))), (a_mone, .inl (cZ, 2600, .inl (nF mIo)))] sz)) 0 0 (va_A [(a_mod, .inr (6, [.ref a_mkind, .ref a_mwidth, .ref a_mreset, .ref a_mop, .ref a_mka, .ref a_mkb, .ref a_mkc, .ref a_mheld, .int (nI mN), .ref a_msort, .ref a_mof, .ref a_mfrom, .int (nI mMs), .ref a_mbit, .ref a_mdone, .ref a_mrests, .ref a_mxx, .ref a_myy, .ref a_mdepth, .ref a_mone, .int (nI mG), .int (nI mCk), .int mFw, .int (nI mRd), .ref a_mbefore, .ref a_mfirst, .ref a_mturned])), (a_mxx, .inl (cI, 2600, .inl (nF mX))), (a_myy, .inl (cI, 2600, .inl (nF mY))), (a_mheld, .inl (cI, 14, .inl (nF mHd))), (a_mone, .inl (cZ, 2600, .inl (nF mIo)))] sz) := by
  refine Met.ofW (cc := b_Mod_work) (maxL := 2) (ret := none) (by decide) rfl ?_
  intro p e s m args below meth c s₁ B hml hv
  obtain ⟨rfl, hsz, hP, hK, hD0, hE⟩ := hv
  have hx := B.exec
  have hb := B.bytes
  have hr := B.returns
  have hts := atoms_spec (ws := w_Mod_work) B.pre
  have hown : s.vm.findClass R_Mod = some m.cls := findClass_of_methodNamed B.named
  have hlocks := B.notSynchronized
  subst hsz
  have hD := hD0.self (sz := s.heap.size)
  generalize hAe : va_A [(a_mod, .inr (6, [.ref a_mkind, .ref a_mwidth, .ref a_mreset, .ref a_mop, .ref a_mka, .ref a_mkb, .ref a_mkc, .ref a_mheld, .int (nI mN), .ref a_msort, .ref a_mof, .ref a_mfrom, .int (nI mMs), .ref a_mbit, .ref a_mdone, .ref a_mrests, .ref a_mxx, .ref a_myy, .ref a_mdepth, .ref a_mone, .int (nI mG), .int (nI mCk), .int mFw, .int (nI mRd), .ref a_mbefore, .ref a_mfirst, .ref a_mturned])), (a_mxx, .inl (cI, 2600, .inl (nF mX))), (a_myy, .inl (cI, 2600, .inl (nF mY))), (a_mheld, .inl (cI, 14, .inl (nF mHd))), (a_mone, .inl (cZ, 2600, .inl (nF mIo)))] s.heap.size = A at hD hE ⊢
  have hA : ∀ q : Nat, s.heap.size ≤ q → A q := fun q h => by rw [← hAe]; exact Or.inr h
  have hS : va_S A s.heap s.heap [] := va_S.rf
  have hP : va_P (dC, dI) classes [(a_mod, .inr (6, [.ref a_mkind, .ref a_mwidth, .ref a_mreset, .ref a_mop, .ref a_mka, .ref a_mkb, .ref a_mkc, .ref a_mheld, .int (nI mN), .ref a_msort, .ref a_mof, .ref a_mfrom, .int (nI mMs), .ref a_mbit, .ref a_mdone, .ref a_mrests, .ref a_mxx, .ref a_myy, .ref a_mdepth, .ref a_mone, .int (nI mG), .int (nI mCk), .int mFw, .int (nI mRd), .ref a_mbefore, .ref a_mfirst, .ref a_mturned])), (a_mxx, .inl (cI, 2600, .inl (nF mX))), (a_myy, .inl (cI, 2600, .inl (nF mY))), (a_mheld, .inl (cI, 14, .inl (nF mHd))), (a_mone, .inl (cZ, 2600, .inl (nF mIo)))] s.heap := hP
  have hl := lv_entry ([.ref a_mod]) (n := 2) (Nat.le_of_ble_eq_true rfl)
  rw [lg_entry_eq]
  generalize (lg_sl ([.ref a_mod]) ++ List.replicate (2 - (lg_sl ([.ref a_mod])).length) Slot.unset).toArray = ls at hl ⊢
  have hl : lv_has ls 2 [(0, .ref a_mod)] := hl
  refine lv_iconst (v := nI 0) hx hb d_Mod_work_0 rfl ?_
  refine lv_istore_n (lv' := [(1, .int (nI 0)), (0, .ref a_mod)]) hx hb d_Mod_work_1 rfl hl (by decide) rfl (fun ls hl => ?_)
  have hI_1 : (∀ j, mIo j < 2) ∧ (∀ j, j < 0 → mIo j = evn (eH mHd) (T (113 + j))) ∧ (0 ≤ mG) := ⟨b_mIo, (fun j h => absurd h (by omega)), (by omega)⟩
  refine k_loop (σ := Nat × (Nat → Nat)) (D := (dC, dI)) (cl := classes) (A := A) (H0 := s.heap) (fun x => [(a_mod, .inr (6, [.ref a_mkind, .ref a_mwidth, .ref a_mreset, .ref a_mop, .ref a_mka, .ref a_mkb, .ref a_mkc, .ref a_mheld, .int (nI mN), .ref a_msort, .ref a_mof, .ref a_mfrom, .int (nI mMs), .ref a_mbit, .ref a_mdone, .ref a_mrests, .ref a_mxx, .ref a_myy, .ref a_mdepth, .ref a_mone, .int (nI mG), .int (nI mCk), .int mFw, .int (nI mRd), .ref a_mbefore, .ref a_mfirst, .ref a_mturned])), (a_mxx, .inl (cI, 2600, .inl (nF mX))), (a_myy, .inl (cI, 2600, .inl (nF mY))), (a_mheld, .inl (cI, 14, .inl (nF mHd))), (a_mone, .inl (cZ, 2600, .inl (nF x.2)))]) (fun x => [(1, .int (nI x.1)), (0, .ref a_mod)]) (fun x => (∀ j, x.2 j < 2) ∧ (∀ j, j < x.1 → x.2 j = evn (eH mHd) (T (113 + j))) ∧ (x.1 ≤ mG)) (fun x => mG - x.1) ?_ (0, mIo) hI_1 hP hD hS (lv_sub hl [0, 1] rfl)
  rintro ⟨i, I1⟩ hI ih_2 H locs ls hP hD hS hl
  obtain ⟨b_I1, hi, hig⟩ : (∀ j, I1 j < 2) ∧ (∀ j, j < i → I1 j = evn (eH mHd) (T (113 + j))) ∧ (i ≤ mG) := hI
  have hP : va_P (dC, dI) classes [(a_mod, .inr (6, [.ref a_mkind, .ref a_mwidth, .ref a_mreset, .ref a_mop, .ref a_mka, .ref a_mkb, .ref a_mkc, .ref a_mheld, .int (nI mN), .ref a_msort, .ref a_mof, .ref a_mfrom, .int (nI mMs), .ref a_mbit, .ref a_mdone, .ref a_mrests, .ref a_mxx, .ref a_myy, .ref a_mdepth, .ref a_mone, .int (nI mG), .int (nI mCk), .int mFw, .int (nI mRd), .ref a_mbefore, .ref a_mfirst, .ref a_mturned])), (a_mxx, .inl (cI, 2600, .inl (nF mX))), (a_myy, .inl (cI, 2600, .inl (nF mY))), (a_mheld, .inl (cI, 14, .inl (nF mHd))), (a_mone, .inl (cZ, 2600, .inl (nF I1)))] H := hP
  have hD : va_D A [(a_mod, .inr (6, [.ref a_mkind, .ref a_mwidth, .ref a_mreset, .ref a_mop, .ref a_mka, .ref a_mkb, .ref a_mkc, .ref a_mheld, .int (nI mN), .ref a_msort, .ref a_mof, .ref a_mfrom, .int (nI mMs), .ref a_mbit, .ref a_mdone, .ref a_mrests, .ref a_mxx, .ref a_myy, .ref a_mdepth, .ref a_mone, .int (nI mG), .int (nI mCk), .int mFw, .int (nI mRd), .ref a_mbefore, .ref a_mfirst, .ref a_mturned])), (a_mxx, .inl (cI, 2600, .inl (nF mX))), (a_myy, .inl (cI, 2600, .inl (nF mY))), (a_mheld, .inl (cI, 14, .inl (nF mHd))), (a_mone, .inl (cZ, 2600, .inl (nF I1)))] := hD
  have hl : lv_has ls 2 [(1, .int (nI i)), (0, .ref a_mod)] := hl
  refine lv_iload_n hx hb d_Mod_work_2 rfl (lv_at hl 0 rfl) ?_
  refine lv_aload_n hx hb d_Mod_work_3 rfl (lv_at hl 1 rfl) ?_
  refine va_get (D := (dC, dI)) (ci := 6) (v := .int (nI mG)) (C := R_Mod) (T := F_Mod) (N := 27) hx hb hts (wi i_Mod) hown hK hP 0 rfl rfl 20 (by decide) (hts _ (mt 562 rfl rfl)) (fun _ h9 => h9) rfl d_Mod_work_4 ?_
  refine lv_icmp_ge (tgt := 53) hx hb d_Mod_work_7 (by decide) (fun c7 => ?_) (fun c7 => ?_)
  · skip
    have c7 : mG ≤ i := (nI_leI (by omega) (by omega)).mp c7
    exact W.vret hx hb hr (fun t ht hW => ⟨⟨(I1), rfl, ⟨b_I1, (show ∀ j, j < mG → I1 j = evn (eH mHd) (T (113 + j)) from fun j hj => hi j (by omega))⟩, by rw [ht]; exact hP, va_K.moved hW.alike hK, hD⟩, hS.F ht⟩) hS.2.2 d_Mod_work_53
  · skip
    have c7 : ¬ (mG ≤ i) := fun h => c7 ((nI_leI (by omega) (by omega)).mpr h)
    have hxy := hXY i (by omega)
    obtain ⟨a, b, pe, pab, pb, pT, pq⟩ := hN.1.2.2.1 (113 + i) (by omega) (by omega)
    have ea : a = mX i := by omega
    have eb : b = mY i := by omega
    subst ea
    subst eb
    have va : (mV mHd I1 (mX i / 2) + mX i % 2) % 2 = evl (eH mHd) (LT T (mX i)) := ev_lit (mV_ev hN.1 hig hi (by omega))
    have vb : (mV mHd I1 (mY i / 2) + mY i % 2) % 2 = evl (eH mHd) (LT T (mY i)) := ev_lit (mV_ev hN.1 hig hi (by omega))
    have la := evl_lt (eH mHd) (LT T (mX i))
    have lb := evl_lt (eH mHd) (LT T (mY i))
    refine lv_aload_n hx hb d_Mod_work_10 rfl (lv_at hl 1 rfl) ?_
    refine va_get (D := (dC, dI)) (ci := 6) (v := .ref a_mone) (C := R_Mod) (T := F_Mod) (N := 27) hx hb hts (wi i_Mod) hown hK hP 0 rfl rfl 19 (by decide) (hts _ (mt 561 rfl rfl)) (fun _ h9 => h9) rfl d_Mod_work_11 ?_
    refine lv_iload_n hx hb d_Mod_work_14 rfl (lv_at hl 0 rfl) ?_
    refine lv_aload_n hx hb d_Mod_work_15 rfl (lv_at hl 1 rfl) ?_
    refine lv_aload_n hx hb d_Mod_work_16 rfl (lv_at hl 1 rfl) ?_
    refine va_get (D := (dC, dI)) (ci := 6) (v := .ref a_mxx) (C := R_Mod) (T := F_Mod) (N := 27) hx hb hts (wi i_Mod) hown hK hP 0 rfl rfl 16 (by decide) (hts _ (mt 558 rfl rfl)) (fun _ h9 => h9) rfl d_Mod_work_17 ?_
    refine lv_iload_n hx hb d_Mod_work_20 rfl (lv_at hl 0 rfl) ?_
    refine k_ild hx hb hK hP 1 0 rfl rfl (by omega) (by decide) d_Mod_work_21 ?_
    have hb_3 := b_mX i
    refine k_i (wr := [(a_mxx, .inl (cI, 2600, .inl (nF mX))), (a_myy, .inl (cI, 2600, .inl (nF mY)))]) (w2 := fun (u : Unit) => [(a_mod, .inr (6, [.ref a_mkind, .ref a_mwidth, .ref a_mreset, .ref a_mop, .ref a_mka, .ref a_mkb, .ref a_mkc, .ref a_mheld, .int (nI mN), .ref a_msort, .ref a_mof, .ref a_mfrom, .int (nI mMs), .ref a_mbit, .ref a_mdone, .ref a_mrests, .ref a_mxx, .ref a_myy, .ref a_mdepth, .ref a_mone, .int (nI mG), .int (nI mCk), .int mFw, .int (nI mRd), .ref a_mbefore, .ref a_mfirst, .ref a_mturned])), (a_mxx, .inl (cI, 2600, .inl (nF mX))), (a_myy, .inl (cI, 2600, .inl (nF mY))), (a_mheld, .inl (cI, 14, .inl (nF mHd))), (a_mone, .inl (cZ, 2600, .inl (nF I1)))]) (va_runV (As := [.int (nI (mX i))]) (rest := [.int (nI i), .ref a_mone]) ⟨hx, hb, hml, hown, hts⟩ (c_Mod_isTrue l dC dI cI cZ a_mod a_mkind a_mwidth a_mreset a_mop a_mka a_mkb a_mkc a_mheld a_msort a_mof a_mfrom a_mbit a_mdone a_mrests a_mxx a_myy a_mdepth a_mone a_mbefore a_mfirst a_mturned tt H.size mN mMs mG mCk mFw mRd mHd I1 (mX i) (by omega) (by omega) (by omega) (by omega) b_mHd b_I1 (by omega)) (cwV 1 hts (gd_V in_tl (mw 738 rfl rfl) (mw 740 rfl rfl) (mw 38 rfl rfl) (mw 47 rfl rfl) (mw 741 rfl rfl)) rfl rfl rfl (by decide +kernel) ⟨Nat.le_of_ble_eq_true rfl, Nat.le_of_ble_eq_true rfl⟩) (k_preV hK hP hD hS hA hE [0, 3, 4] (by decide) rfl 6 0 rfl rfl) rfl rfl hl.1 rfl (lv_room (Nat.le_of_ble_eq_true rfl)) d_Mod_work_22 ⟨Nat.zero_le _, Nat.zero_le _⟩) hP hD hS hA [0, 3, 4] [1, 2] [2, 0, 1, 3, 4] rfl rfl (by decide) (by decide) (by decide) (fun _ => rfl) (fun r_4 u H locs hw hP hD hS => ?_)
    obtain rfl : (r_4 = nI ((mV mHd I1 ((mX i) / 2) + (mX i) % 2) % 2)) := hw
    have hP : va_P (dC, dI) classes [(a_mod, .inr (6, [.ref a_mkind, .ref a_mwidth, .ref a_mreset, .ref a_mop, .ref a_mka, .ref a_mkb, .ref a_mkc, .ref a_mheld, .int (nI mN), .ref a_msort, .ref a_mof, .ref a_mfrom, .int (nI mMs), .ref a_mbit, .ref a_mdone, .ref a_mrests, .ref a_mxx, .ref a_myy, .ref a_mdepth, .ref a_mone, .int (nI mG), .int (nI mCk), .int mFw, .int (nI mRd), .ref a_mbefore, .ref a_mfirst, .ref a_mturned])), (a_mxx, .inl (cI, 2600, .inl (nF mX))), (a_myy, .inl (cI, 2600, .inl (nF mY))), (a_mheld, .inl (cI, 14, .inl (nF mHd))), (a_mone, .inl (cZ, 2600, .inl (nF I1)))] H := hP
    have hD : va_D A [(a_mod, .inr (6, [.ref a_mkind, .ref a_mwidth, .ref a_mreset, .ref a_mop, .ref a_mka, .ref a_mkb, .ref a_mkc, .ref a_mheld, .int (nI mN), .ref a_msort, .ref a_mof, .ref a_mfrom, .int (nI mMs), .ref a_mbit, .ref a_mdone, .ref a_mrests, .ref a_mxx, .ref a_myy, .ref a_mdepth, .ref a_mone, .int (nI mG), .int (nI mCk), .int mFw, .int (nI mRd), .ref a_mbefore, .ref a_mfirst, .ref a_mturned])), (a_mxx, .inl (cI, 2600, .inl (nF mX))), (a_myy, .inl (cI, 2600, .inl (nF mY))), (a_mheld, .inl (cI, 14, .inl (nF mHd))), (a_mone, .inl (cZ, 2600, .inl (nF I1)))] := hD
    refine lv_if_eq (tgt := 45) hx hb d_Mod_work_25 (by decide) (fun c25 => ?_) (fun c25 => ?_)
    · skip
      have c25 : ((mV mHd I1 ((mX i) / 2) + (mX i) % 2) % 2) = 0 := (nI_eq0 (by omega)).mp c25
      refine lv_iconst (v := nI 0) hx hb d_Mod_work_45 rfl ?_
      refine k_zst hx hb hK hP hD hS 4 1 rfl rfl (by omega) (by decide) (by omega) d_Mod_work_46 (fun H locs hP hD hS => ?_)
      have bb_5 : ∀ j, upN I1 i 0 j < 2 := upN_lt b_I1 (by omega)
      have hP : va_P (dC, dI) classes [(a_mod, .inr (6, [.ref a_mkind, .ref a_mwidth, .ref a_mreset, .ref a_mop, .ref a_mka, .ref a_mkb, .ref a_mkc, .ref a_mheld, .int (nI mN), .ref a_msort, .ref a_mof, .ref a_mfrom, .int (nI mMs), .ref a_mbit, .ref a_mdone, .ref a_mrests, .ref a_mxx, .ref a_myy, .ref a_mdepth, .ref a_mone, .int (nI mG), .int (nI mCk), .int mFw, .int (nI mRd), .ref a_mbefore, .ref a_mfirst, .ref a_mturned])), (a_mxx, .inl (cI, 2600, .inl (nF mX))), (a_myy, .inl (cI, 2600, .inl (nF mY))), (a_mheld, .inl (cI, 14, .inl (nF mHd))), (a_mone, .inl (cZ, 2600, .inl (nF (upN I1 i 0))))] H := hP
      have hD : va_D A [(a_mod, .inr (6, [.ref a_mkind, .ref a_mwidth, .ref a_mreset, .ref a_mop, .ref a_mka, .ref a_mkb, .ref a_mkc, .ref a_mheld, .int (nI mN), .ref a_msort, .ref a_mof, .ref a_mfrom, .int (nI mMs), .ref a_mbit, .ref a_mdone, .ref a_mrests, .ref a_mxx, .ref a_myy, .ref a_mdepth, .ref a_mone, .int (nI mG), .int (nI mCk), .int mFw, .int (nI mRd), .ref a_mbefore, .ref a_mfirst, .ref a_mturned])), (a_mxx, .inl (cI, 2600, .inl (nF mX))), (a_myy, .inl (cI, 2600, .inl (nF mY))), (a_mheld, .inl (cI, 14, .inl (nF mHd))), (a_mone, .inl (cZ, 2600, .inl (nF (upN I1 i 0))))] := hD
      refine lv_iinc (v := nI (i + 1)) (lv' := [(1, .int (nI (i + 1))), (0, .ref a_mod)]) hx hb d_Mod_work_47 hl (k := 0) rfl (k_inc _ 1) (by decide) rfl (fun ls hl => ?_)
      refine lv_goto (tgt := 2) hx hb d_Mod_work_50 (by decide) ?_
      have hI_6 : (∀ j, (upN I1 i 0) j < 2) ∧ (∀ j, j < (i + 1) → (upN I1 i 0) j = evn (eH mHd) (T (113 + j))) ∧ ((i + 1) ≤ mG) := ⟨bb_5, (fun j hj => by by_cases e : j = i; (subst e; rw [upN_self, pT, evn_gate]; first | rw [show evl (eH mHd) (LT T (mX j)) = 0 by omega, Nat.zero_mul] | rw [show evl (eH mHd) (LT T (mY j)) = 0 by omega, Nat.mul_zero]); (rw [upN_ne _ _ e]; exact hi j (by omega))), (by omega)⟩
      exact ih_2 (i + 1, upN I1 i 0) hI_6 (show mG - (i + 1) < mG - i from by omega) _ _ _ hP hD hS (lv_sub hl [0, 1] rfl)
    · skip
      have c25 : ¬ (((mV mHd I1 ((mX i) / 2) + (mX i) % 2) % 2) = 0) := fun h => c25 ((nI_eq0 (by omega)).mpr h)
      refine lv_aload_n hx hb d_Mod_work_28 rfl (lv_at hl 1 rfl) ?_
      refine lv_aload_n hx hb d_Mod_work_29 rfl (lv_at hl 1 rfl) ?_
      refine va_get (D := (dC, dI)) (ci := 6) (v := .ref a_myy) (C := R_Mod) (T := F_Mod) (N := 27) hx hb hts (wi i_Mod) hown hK hP 0 rfl rfl 17 (by decide) (hts _ (mt 559 rfl rfl)) (fun _ h9 => h9) rfl d_Mod_work_30 ?_
      refine lv_iload_n hx hb d_Mod_work_33 rfl (lv_at hl 0 rfl) ?_
      refine k_ild hx hb hK hP 2 0 rfl rfl (by omega) (by decide) d_Mod_work_34 ?_
      have hb_7 := b_mY i
      refine k_i (wr := [(a_mxx, .inl (cI, 2600, .inl (nF mX))), (a_myy, .inl (cI, 2600, .inl (nF mY)))]) (w2 := fun (u : Unit) => [(a_mod, .inr (6, [.ref a_mkind, .ref a_mwidth, .ref a_mreset, .ref a_mop, .ref a_mka, .ref a_mkb, .ref a_mkc, .ref a_mheld, .int (nI mN), .ref a_msort, .ref a_mof, .ref a_mfrom, .int (nI mMs), .ref a_mbit, .ref a_mdone, .ref a_mrests, .ref a_mxx, .ref a_myy, .ref a_mdepth, .ref a_mone, .int (nI mG), .int (nI mCk), .int mFw, .int (nI mRd), .ref a_mbefore, .ref a_mfirst, .ref a_mturned])), (a_mxx, .inl (cI, 2600, .inl (nF mX))), (a_myy, .inl (cI, 2600, .inl (nF mY))), (a_mheld, .inl (cI, 14, .inl (nF mHd))), (a_mone, .inl (cZ, 2600, .inl (nF I1)))]) (va_runV (As := [.int (nI (mY i))]) (rest := [.int (nI i), .ref a_mone]) ⟨hx, hb, hml, hown, hts⟩ (c_Mod_isTrue l dC dI cI cZ a_mod a_mkind a_mwidth a_mreset a_mop a_mka a_mkb a_mkc a_mheld a_msort a_mof a_mfrom a_mbit a_mdone a_mrests a_mxx a_myy a_mdepth a_mone a_mbefore a_mfirst a_mturned tt H.size mN mMs mG mCk mFw mRd mHd I1 (mY i) (by omega) (by omega) (by omega) (by omega) b_mHd b_I1 (by omega)) (cwV 1 hts (gd_V in_tl (mw 738 rfl rfl) (mw 740 rfl rfl) (mw 38 rfl rfl) (mw 47 rfl rfl) (mw 741 rfl rfl)) rfl rfl rfl (by decide +kernel) ⟨Nat.le_of_ble_eq_true rfl, Nat.le_of_ble_eq_true rfl⟩) (k_preV hK hP hD hS hA hE [0, 3, 4] (by decide) rfl 6 0 rfl rfl) rfl rfl hl.1 rfl (lv_room (Nat.le_of_ble_eq_true rfl)) d_Mod_work_35 ⟨Nat.zero_le _, Nat.zero_le _⟩) hP hD hS hA [0, 3, 4] [1, 2] [2, 0, 1, 3, 4] rfl rfl (by decide) (by decide) (by decide) (fun _ => rfl) (fun r_8 u H locs hw hP hD hS => ?_)
      obtain rfl : (r_8 = nI ((mV mHd I1 ((mY i) / 2) + (mY i) % 2) % 2)) := hw
      have hP : va_P (dC, dI) classes [(a_mod, .inr (6, [.ref a_mkind, .ref a_mwidth, .ref a_mreset, .ref a_mop, .ref a_mka, .ref a_mkb, .ref a_mkc, .ref a_mheld, .int (nI mN), .ref a_msort, .ref a_mof, .ref a_mfrom, .int (nI mMs), .ref a_mbit, .ref a_mdone, .ref a_mrests, .ref a_mxx, .ref a_myy, .ref a_mdepth, .ref a_mone, .int (nI mG), .int (nI mCk), .int mFw, .int (nI mRd), .ref a_mbefore, .ref a_mfirst, .ref a_mturned])), (a_mxx, .inl (cI, 2600, .inl (nF mX))), (a_myy, .inl (cI, 2600, .inl (nF mY))), (a_mheld, .inl (cI, 14, .inl (nF mHd))), (a_mone, .inl (cZ, 2600, .inl (nF I1)))] H := hP
      have hD : va_D A [(a_mod, .inr (6, [.ref a_mkind, .ref a_mwidth, .ref a_mreset, .ref a_mop, .ref a_mka, .ref a_mkb, .ref a_mkc, .ref a_mheld, .int (nI mN), .ref a_msort, .ref a_mof, .ref a_mfrom, .int (nI mMs), .ref a_mbit, .ref a_mdone, .ref a_mrests, .ref a_mxx, .ref a_myy, .ref a_mdepth, .ref a_mone, .int (nI mG), .int (nI mCk), .int mFw, .int (nI mRd), .ref a_mbefore, .ref a_mfirst, .ref a_mturned])), (a_mxx, .inl (cI, 2600, .inl (nF mX))), (a_myy, .inl (cI, 2600, .inl (nF mY))), (a_mheld, .inl (cI, 14, .inl (nF mHd))), (a_mone, .inl (cZ, 2600, .inl (nF I1)))] := hD
      refine lv_if_eq (tgt := 45) hx hb d_Mod_work_38 (by decide) (fun c38 => ?_) (fun c38 => ?_)
      · skip
        have c38 : ((mV mHd I1 ((mY i) / 2) + (mY i) % 2) % 2) = 0 := (nI_eq0 (by omega)).mp c38
        refine lv_iconst (v := nI 0) hx hb d_Mod_work_45 rfl ?_
        refine k_zst hx hb hK hP hD hS 4 1 rfl rfl (by omega) (by decide) (by omega) d_Mod_work_46 (fun H locs hP hD hS => ?_)
        have bb_9 : ∀ j, upN I1 i 0 j < 2 := upN_lt b_I1 (by omega)
        have hP : va_P (dC, dI) classes [(a_mod, .inr (6, [.ref a_mkind, .ref a_mwidth, .ref a_mreset, .ref a_mop, .ref a_mka, .ref a_mkb, .ref a_mkc, .ref a_mheld, .int (nI mN), .ref a_msort, .ref a_mof, .ref a_mfrom, .int (nI mMs), .ref a_mbit, .ref a_mdone, .ref a_mrests, .ref a_mxx, .ref a_myy, .ref a_mdepth, .ref a_mone, .int (nI mG), .int (nI mCk), .int mFw, .int (nI mRd), .ref a_mbefore, .ref a_mfirst, .ref a_mturned])), (a_mxx, .inl (cI, 2600, .inl (nF mX))), (a_myy, .inl (cI, 2600, .inl (nF mY))), (a_mheld, .inl (cI, 14, .inl (nF mHd))), (a_mone, .inl (cZ, 2600, .inl (nF (upN I1 i 0))))] H := hP
        have hD : va_D A [(a_mod, .inr (6, [.ref a_mkind, .ref a_mwidth, .ref a_mreset, .ref a_mop, .ref a_mka, .ref a_mkb, .ref a_mkc, .ref a_mheld, .int (nI mN), .ref a_msort, .ref a_mof, .ref a_mfrom, .int (nI mMs), .ref a_mbit, .ref a_mdone, .ref a_mrests, .ref a_mxx, .ref a_myy, .ref a_mdepth, .ref a_mone, .int (nI mG), .int (nI mCk), .int mFw, .int (nI mRd), .ref a_mbefore, .ref a_mfirst, .ref a_mturned])), (a_mxx, .inl (cI, 2600, .inl (nF mX))), (a_myy, .inl (cI, 2600, .inl (nF mY))), (a_mheld, .inl (cI, 14, .inl (nF mHd))), (a_mone, .inl (cZ, 2600, .inl (nF (upN I1 i 0))))] := hD
        refine lv_iinc (v := nI (i + 1)) (lv' := [(1, .int (nI (i + 1))), (0, .ref a_mod)]) hx hb d_Mod_work_47 hl (k := 0) rfl (k_inc _ 1) (by decide) rfl (fun ls hl => ?_)
        refine lv_goto (tgt := 2) hx hb d_Mod_work_50 (by decide) ?_
        have hI_10 : (∀ j, (upN I1 i 0) j < 2) ∧ (∀ j, j < (i + 1) → (upN I1 i 0) j = evn (eH mHd) (T (113 + j))) ∧ ((i + 1) ≤ mG) := ⟨bb_9, (fun j hj => by by_cases e : j = i; (subst e; rw [upN_self, pT, evn_gate]; first | rw [show evl (eH mHd) (LT T (mX j)) = 0 by omega, Nat.zero_mul] | rw [show evl (eH mHd) (LT T (mY j)) = 0 by omega, Nat.mul_zero]); (rw [upN_ne _ _ e]; exact hi j (by omega))), (by omega)⟩
        exact ih_2 (i + 1, upN I1 i 0) hI_10 (show mG - (i + 1) < mG - i from by omega) _ _ _ hP hD hS (lv_sub hl [0, 1] rfl)
      · skip
        have c38 : ¬ (((mV mHd I1 ((mY i) / 2) + (mY i) % 2) % 2) = 0) := fun h => c38 ((nI_eq0 (by omega)).mpr h)
        refine lv_iconst (v := nI 1) hx hb d_Mod_work_41 rfl ?_
        refine lv_goto (tgt := 46) hx hb d_Mod_work_42 (by decide) ?_
        refine k_zst hx hb hK hP hD hS 4 1 rfl rfl (by omega) (by decide) (by omega) d_Mod_work_46 (fun H locs hP hD hS => ?_)
        have bb_11 : ∀ j, upN I1 i 1 j < 2 := upN_lt b_I1 (by omega)
        have hP : va_P (dC, dI) classes [(a_mod, .inr (6, [.ref a_mkind, .ref a_mwidth, .ref a_mreset, .ref a_mop, .ref a_mka, .ref a_mkb, .ref a_mkc, .ref a_mheld, .int (nI mN), .ref a_msort, .ref a_mof, .ref a_mfrom, .int (nI mMs), .ref a_mbit, .ref a_mdone, .ref a_mrests, .ref a_mxx, .ref a_myy, .ref a_mdepth, .ref a_mone, .int (nI mG), .int (nI mCk), .int mFw, .int (nI mRd), .ref a_mbefore, .ref a_mfirst, .ref a_mturned])), (a_mxx, .inl (cI, 2600, .inl (nF mX))), (a_myy, .inl (cI, 2600, .inl (nF mY))), (a_mheld, .inl (cI, 14, .inl (nF mHd))), (a_mone, .inl (cZ, 2600, .inl (nF (upN I1 i 1))))] H := hP
        have hD : va_D A [(a_mod, .inr (6, [.ref a_mkind, .ref a_mwidth, .ref a_mreset, .ref a_mop, .ref a_mka, .ref a_mkb, .ref a_mkc, .ref a_mheld, .int (nI mN), .ref a_msort, .ref a_mof, .ref a_mfrom, .int (nI mMs), .ref a_mbit, .ref a_mdone, .ref a_mrests, .ref a_mxx, .ref a_myy, .ref a_mdepth, .ref a_mone, .int (nI mG), .int (nI mCk), .int mFw, .int (nI mRd), .ref a_mbefore, .ref a_mfirst, .ref a_mturned])), (a_mxx, .inl (cI, 2600, .inl (nF mX))), (a_myy, .inl (cI, 2600, .inl (nF mY))), (a_mheld, .inl (cI, 14, .inl (nF mHd))), (a_mone, .inl (cZ, 2600, .inl (nF (upN I1 i 1))))] := hD
        refine lv_iinc (v := nI (i + 1)) (lv' := [(1, .int (nI (i + 1))), (0, .ref a_mod)]) hx hb d_Mod_work_47 hl (k := 0) rfl (k_inc _ 1) (by decide) rfl (fun ls hl => ?_)
        refine lv_goto (tgt := 2) hx hb d_Mod_work_50 (by decide) ?_
        have hI_12 : (∀ j, (upN I1 i 1) j < 2) ∧ (∀ j, j < (i + 1) → (upN I1 i 1) j = evn (eH mHd) (T (113 + j))) ∧ ((i + 1) ≤ mG) := ⟨bb_11, (fun j hj => by by_cases e : j = i; (subst e; rw [upN_self, pT, evn_gate, show evl (eH mHd) (LT T (mX j)) = 1 by omega, show evl (eH mHd) (LT T (mY j)) = 1 by omega]); (rw [upN_ne _ _ e]; exact hi j (by omega))), (by omega)⟩
        exact ih_2 (i + 1, upN I1 i 1) hI_12 (show mG - (i + 1) < mG - i from by omega) _ _ _ hP hD hS (lv_sub hl [0, 1] rfl)
set_option maxHeartbeats 4000000 in
set_option maxRecDepth 100000 in
theorem c_Mod_read (l : Launch) (dC : Nat → ClassId) (dI : Nat → Nat → Nat) (cI cZ : ClassId) (a_mod a_mkind a_mwidth a_mreset a_mop a_mka a_mkb a_mkc a_mheld a_msort a_mof a_mfrom a_mbit a_mdone a_mrests a_mxx a_myy a_mdepth a_mone a_mbefore a_mfirst a_mturned : Nat) (tt sz : Nat) (mN : Nat) (mMs : Nat) (mG : Nat) (mCk : Nat) (mFw : Int32) (mRd : Nat) (mWd : Nat → Nat) (mHd : Nat → Nat) (mBi : Nat → Nat) (mIo : Nat → Nat) (S : Nat) (bs : Nat) (b_mN : mN ≤ 14) (b_mMs : mMs ≤ 20) (b_mG : mG ≤ 1280) (b_mRd : mRd ≤ 1) (b_mWd : ∀ j, mWd j < 9) (b_mHd : ∀ j, mHd j < 256) (b_mBi : ∀ j, mBi j < 2786) (b_mIo : ∀ j, mIo j < 2) (hS14 : S < 14) (hbs : bs ≤ 112) : Met l y_Mod_read w_Mod_read ({ frames := 1, cells := 0, slots := 0, locals := 22 }) (va_Pc [.ref a_mod, .int (nI S), .int (nI bs)] (PW (dC, dI) classes [(cI, .int), (cZ, .boolean)] tt [(a_mod, .inr (6, [.ref a_mkind, .ref a_mwidth, .ref a_mreset, .ref a_mop, .ref a_mka, .ref a_mkb, .ref a_mkc, .ref a_mheld, .int (nI mN), .ref a_msort, .ref a_mof, .ref a_mfrom, .int (nI mMs), .ref a_mbit, .ref a_mdone, .ref a_mrests, .ref a_mxx, .ref a_myy, .ref a_mdepth, .ref a_mone, .int (nI mG), .int (nI mCk), .int mFw, .int (nI mRd), .ref a_mbefore, .ref a_mfirst, .ref a_mturned])), (a_mwidth, .inl (cI, 14, .inl (nF mWd))), (a_mheld, .inl (cI, 14, .inl (nF mHd))), (a_mbit, .inl (cI, 224, .inl (nF mBi))), (a_mone, .inl (cZ, 2600, .inl (nF mIo)))] sz)) (va_Qi (fun (r : Int32) (u : Unit) => (r = nI (wrd (fun j => (mV mHd mIo (mBi (bs + 8 * S + j) / 2) + mBi (bs + 8 * S + j) % 2) % 2) (mWd S)))) (AT (dC, dI) classes [(cI, .int), (cZ, .boolean)] (va_A [(a_mod, .inr (6, [.ref a_mkind, .ref a_mwidth, .ref a_mreset, .ref a_mop, .ref a_mka, .ref a_mkb, .ref a_mkc, .ref a_mheld, .int (nI mN), .ref a_msort, .ref a_mof, .ref a_mfrom, .int (nI mMs), .ref a_mbit, .ref a_mdone, .ref a_mrests, .ref a_mxx, .ref a_myy, .ref a_mdepth, .ref a_mone, .int (nI mG), .int (nI mCk), .int mFw, .int (nI mRd), .ref a_mbefore, .ref a_mfirst, .ref a_mturned])), (a_mwidth, .inl (cI, 14, .inl (nF mWd))), (a_mheld, .inl (cI, 14, .inl (nF mHd))), (a_mbit, .inl (cI, 224, .inl (nF mBi))), (a_mone, .inl (cZ, 2600, .inl (nF mIo)))] sz) (fun (u : Unit) => [(a_mod, .inr (6, [.ref a_mkind, .ref a_mwidth, .ref a_mreset, .ref a_mop, .ref a_mka, .ref a_mkb, .ref a_mkc, .ref a_mheld, .int (nI mN), .ref a_msort, .ref a_mof, .ref a_mfrom, .int (nI mMs), .ref a_mbit, .ref a_mdone, .ref a_mrests, .ref a_mxx, .ref a_myy, .ref a_mdepth, .ref a_mone, .int (nI mG), .int (nI mCk), .int mFw, .int (nI mRd), .ref a_mbefore, .ref a_mfirst, .ref a_mturned])), (a_mwidth, .inl (cI, 14, .inl (nF mWd))), (a_mheld, .inl (cI, 14, .inl (nF mHd))), (a_mbit, .inl (cI, 224, .inl (nF mBi))), (a_mone, .inl (cZ, 2600, .inl (nF mIo)))])) (va_A [(a_mod, .inr (6, [.ref a_mkind, .ref a_mwidth, .ref a_mreset, .ref a_mop, .ref a_mka, .ref a_mkb, .ref a_mkc, .ref a_mheld, .int (nI mN), .ref a_msort, .ref a_mof, .ref a_mfrom, .int (nI mMs), .ref a_mbit, .ref a_mdone, .ref a_mrests, .ref a_mxx, .ref a_myy, .ref a_mdepth, .ref a_mone, .int (nI mG), .int (nI mCk), .int mFw, .int (nI mRd), .ref a_mbefore, .ref a_mfirst, .ref a_mturned])), (a_mwidth, .inl (cI, 14, .inl (nF mWd))), (a_mheld, .inl (cI, 14, .inl (nF mHd))), (a_mbit, .inl (cI, 224, .inl (nF mBi))), (a_mone, .inl (cZ, 2600, .inl (nF mIo)))] sz)) 0 0 (va_A [(a_mod, .inr (6, [.ref a_mkind, .ref a_mwidth, .ref a_mreset, .ref a_mop, .ref a_mka, .ref a_mkb, .ref a_mkc, .ref a_mheld, .int (nI mN), .ref a_msort, .ref a_mof, .ref a_mfrom, .int (nI mMs), .ref a_mbit, .ref a_mdone, .ref a_mrests, .ref a_mxx, .ref a_myy, .ref a_mdepth, .ref a_mone, .int (nI mG), .int (nI mCk), .int mFw, .int (nI mRd), .ref a_mbefore, .ref a_mfirst, .ref a_mturned])), (a_mwidth, .inl (cI, 14, .inl (nF mWd))), (a_mheld, .inl (cI, 14, .inl (nF mHd))), (a_mbit, .inl (cI, 224, .inl (nF mBi))), (a_mone, .inl (cZ, 2600, .inl (nF mIo)))] sz) := by
  refine Met.ofW (cc := b_Mod_read) (maxL := 5) (ret := (some .int)) (by decide) rfl ?_
  intro p e s m args below meth c s₁ B hml hv
  obtain ⟨rfl, hsz, hP, hK, hD0, hE⟩ := hv
  have hx := B.exec
  have hb := B.bytes
  have hr := B.returns
  have hts := atoms_spec (ws := w_Mod_read) B.pre
  have hown : s.vm.findClass R_Mod = some m.cls := findClass_of_methodNamed B.named
  have hlocks := B.notSynchronized
  subst hsz
  have hD := hD0.self (sz := s.heap.size)
  generalize hAe : va_A [(a_mod, .inr (6, [.ref a_mkind, .ref a_mwidth, .ref a_mreset, .ref a_mop, .ref a_mka, .ref a_mkb, .ref a_mkc, .ref a_mheld, .int (nI mN), .ref a_msort, .ref a_mof, .ref a_mfrom, .int (nI mMs), .ref a_mbit, .ref a_mdone, .ref a_mrests, .ref a_mxx, .ref a_myy, .ref a_mdepth, .ref a_mone, .int (nI mG), .int (nI mCk), .int mFw, .int (nI mRd), .ref a_mbefore, .ref a_mfirst, .ref a_mturned])), (a_mwidth, .inl (cI, 14, .inl (nF mWd))), (a_mheld, .inl (cI, 14, .inl (nF mHd))), (a_mbit, .inl (cI, 224, .inl (nF mBi))), (a_mone, .inl (cZ, 2600, .inl (nF mIo)))] s.heap.size = A at hD hE ⊢
  have hA : ∀ q : Nat, s.heap.size ≤ q → A q := fun q h => by rw [← hAe]; exact Or.inr h
  have hS : va_S A s.heap s.heap [] := va_S.rf
  have hP : va_P (dC, dI) classes [(a_mod, .inr (6, [.ref a_mkind, .ref a_mwidth, .ref a_mreset, .ref a_mop, .ref a_mka, .ref a_mkb, .ref a_mkc, .ref a_mheld, .int (nI mN), .ref a_msort, .ref a_mof, .ref a_mfrom, .int (nI mMs), .ref a_mbit, .ref a_mdone, .ref a_mrests, .ref a_mxx, .ref a_myy, .ref a_mdepth, .ref a_mone, .int (nI mG), .int (nI mCk), .int mFw, .int (nI mRd), .ref a_mbefore, .ref a_mfirst, .ref a_mturned])), (a_mwidth, .inl (cI, 14, .inl (nF mWd))), (a_mheld, .inl (cI, 14, .inl (nF mHd))), (a_mbit, .inl (cI, 224, .inl (nF mBi))), (a_mone, .inl (cZ, 2600, .inl (nF mIo)))] s.heap := hP
  have hl := lv_entry ([.ref a_mod, .int (nI S), .int (nI bs)]) (n := 5) (Nat.le_of_ble_eq_true rfl)
  rw [lg_entry_eq]
  generalize (lg_sl ([.ref a_mod, .int (nI S), .int (nI bs)]) ++ List.replicate (5 - (lg_sl ([.ref a_mod, .int (nI S), .int (nI bs)])).length) Slot.unset).toArray = ls at hl ⊢
  have hl : lv_has ls 5 [(0, .ref a_mod), (1, .int (nI S)), (2, .int (nI bs))] := hl
  refine lv_iconst (v := nI 0) hx hb d_Mod_read_0 rfl ?_
  refine lv_istore_n (lv' := [(3, .int (nI 0)), (0, .ref a_mod), (1, .int (nI S)), (2, .int (nI bs))]) hx hb d_Mod_read_1 rfl hl (by decide) rfl (fun ls hl => ?_)
  refine lv_iconst (v := nI 0) hx hb d_Mod_read_2 rfl ?_
  refine lv_istore (lv' := [(4, .int (nI 0)), (3, .int (nI 0)), (0, .ref a_mod), (1, .int (nI S)), (2, .int (nI bs))]) hx hb d_Mod_read_3 hl (by decide) rfl (fun ls hl => ?_)
  have hw9 := b_mWd S
  have hI_1 : (0 = wrd (fun j => (mV mHd mIo (mBi (bs + 8 * S + j) / 2) + mBi (bs + 8 * S + j) % 2) % 2) 0) ∧ (0 ≤ mWd S) := ⟨rfl, (by omega)⟩
  refine k_loop (σ := Nat × Nat) (D := (dC, dI)) (cl := classes) (A := A) (H0 := s.heap) (fun x => [(a_mod, .inr (6, [.ref a_mkind, .ref a_mwidth, .ref a_mreset, .ref a_mop, .ref a_mka, .ref a_mkb, .ref a_mkc, .ref a_mheld, .int (nI mN), .ref a_msort, .ref a_mof, .ref a_mfrom, .int (nI mMs), .ref a_mbit, .ref a_mdone, .ref a_mrests, .ref a_mxx, .ref a_myy, .ref a_mdepth, .ref a_mone, .int (nI mG), .int (nI mCk), .int mFw, .int (nI mRd), .ref a_mbefore, .ref a_mfirst, .ref a_mturned])), (a_mwidth, .inl (cI, 14, .inl (nF mWd))), (a_mheld, .inl (cI, 14, .inl (nF mHd))), (a_mbit, .inl (cI, 224, .inl (nF mBi))), (a_mone, .inl (cZ, 2600, .inl (nF mIo)))]) (fun x => [(4, .int (nI x.2)), (3, .int (nI x.1)), (0, .ref a_mod), (1, .int (nI S)), (2, .int (nI bs))]) (fun x => (x.1 = wrd (fun j => (mV mHd mIo (mBi (bs + 8 * S + j) / 2) + mBi (bs + 8 * S + j) % 2) % 2) x.2) ∧ (x.2 ≤ mWd S)) (fun x => mWd S - x.2) ?_ (0, 0) hI_1 hP hD hS (lv_sub hl [0, 1, 2, 3, 4] rfl)
  rintro ⟨x, b⟩ hI ih_2 H locs ls hP hD hS hl
  obtain ⟨hx4, hb8⟩ : (x = wrd (fun j => (mV mHd mIo (mBi (bs + 8 * S + j) / 2) + mBi (bs + 8 * S + j) % 2) % 2) b) ∧ (b ≤ mWd S) := hI
  have hP : va_P (dC, dI) classes [(a_mod, .inr (6, [.ref a_mkind, .ref a_mwidth, .ref a_mreset, .ref a_mop, .ref a_mka, .ref a_mkb, .ref a_mkc, .ref a_mheld, .int (nI mN), .ref a_msort, .ref a_mof, .ref a_mfrom, .int (nI mMs), .ref a_mbit, .ref a_mdone, .ref a_mrests, .ref a_mxx, .ref a_myy, .ref a_mdepth, .ref a_mone, .int (nI mG), .int (nI mCk), .int mFw, .int (nI mRd), .ref a_mbefore, .ref a_mfirst, .ref a_mturned])), (a_mwidth, .inl (cI, 14, .inl (nF mWd))), (a_mheld, .inl (cI, 14, .inl (nF mHd))), (a_mbit, .inl (cI, 224, .inl (nF mBi))), (a_mone, .inl (cZ, 2600, .inl (nF mIo)))] H := hP
  have hD : va_D A [(a_mod, .inr (6, [.ref a_mkind, .ref a_mwidth, .ref a_mreset, .ref a_mop, .ref a_mka, .ref a_mkb, .ref a_mkc, .ref a_mheld, .int (nI mN), .ref a_msort, .ref a_mof, .ref a_mfrom, .int (nI mMs), .ref a_mbit, .ref a_mdone, .ref a_mrests, .ref a_mxx, .ref a_myy, .ref a_mdepth, .ref a_mone, .int (nI mG), .int (nI mCk), .int mFw, .int (nI mRd), .ref a_mbefore, .ref a_mfirst, .ref a_mturned])), (a_mwidth, .inl (cI, 14, .inl (nF mWd))), (a_mheld, .inl (cI, 14, .inl (nF mHd))), (a_mbit, .inl (cI, 224, .inl (nF mBi))), (a_mone, .inl (cZ, 2600, .inl (nF mIo)))] := hD
  have hl : lv_has ls 5 [(4, .int (nI b)), (3, .int (nI x)), (0, .ref a_mod), (1, .int (nI S)), (2, .int (nI bs))] := hl
  refine lv_iload hx hb d_Mod_read_5 (lv_at hl 0 rfl) ?_
  refine lv_aload_n hx hb d_Mod_read_7 rfl (lv_at hl 2 rfl) ?_
  refine va_get (D := (dC, dI)) (ci := 6) (v := .ref a_mwidth) (C := R_Mod) (T := F_Mod) (N := 27) hx hb hts (wi i_Mod) hown hK hP 0 rfl rfl 1 (by decide) (hts _ (mt 543 rfl rfl)) (fun _ h9 => h9) rfl d_Mod_read_8 ?_
  refine lv_iload_n hx hb d_Mod_read_11 rfl (lv_at hl 3 rfl) ?_
  refine k_ild hx hb hK hP 1 0 rfl rfl (by omega) (by decide) d_Mod_read_12 ?_
  have hb_3 := b_mWd S
  refine lv_icmp_ge (tgt := 50) hx hb d_Mod_read_13 (by decide) (fun c13 => ?_) (fun c13 => ?_)
  · skip
    have c13 : (mWd S) ≤ b := (nI_leI (by omega) (by omega)).mp c13
    refine lv_iload_n hx hb d_Mod_read_50 rfl (lv_at hl 1 rfl) ?_
    exact W.iret (v := nI x) hx hb hr (fun t ht hW => ⟨⟨nI x, (), rfl, (by rw [hx4, show b = mWd S by omega]), by rw [ht]; exact hP, va_K.moved hW.alike hK, hD⟩, hS.F ht⟩) hS.2.2 d_Mod_read_51
  · skip
    have c13 : ¬ ((mWd S) ≤ b) := fun h => c13 ((nI_leI (by omega) (by omega)).mpr h)
    refine lv_aload_n hx hb d_Mod_read_16 rfl (lv_at hl 2 rfl) ?_
    refine lv_aload_n hx hb d_Mod_read_17 rfl (lv_at hl 2 rfl) ?_
    refine va_get (D := (dC, dI)) (ci := 6) (v := .ref a_mbit) (C := R_Mod) (T := F_Mod) (N := 27) hx hb hts (wi i_Mod) hown hK hP 0 rfl rfl 13 (by decide) (hts _ (mt 555 rfl rfl)) (fun _ h9 => h9) rfl d_Mod_read_18 ?_
    refine lv_iload_n hx hb d_Mod_read_21 rfl (lv_at hl 4 rfl) ?_
    refine lv_bipush (v := nI 8) hx hb d_Mod_read_22 rfl ?_
    refine lv_iload_n hx hb d_Mod_read_24 rfl (lv_at hl 3 rfl) ?_
    refine lv_imul hx hb d_Mod_read_25 ?_
    refine k_top (pk_mul _ _) ?_
    refine lv_iadd hx hb d_Mod_read_26 ?_
    refine k_top (nI_add _ _) ?_
    refine lv_iload hx hb d_Mod_read_27 (lv_at hl 0 rfl) ?_
    refine lv_iadd hx hb d_Mod_read_29 ?_
    refine k_top (nI_add _ _) ?_
    refine k_ild hx hb hK hP 3 0 rfl rfl (by omega) (by decide) d_Mod_read_30 ?_
    have hb_4 := b_mBi ((bs + (8 * S)) + b)
    refine k_i (wr := [(a_mwidth, .inl (cI, 14, .inl (nF mWd))), (a_mbit, .inl (cI, 224, .inl (nF mBi)))]) (w2 := fun (u : Unit) => [(a_mod, .inr (6, [.ref a_mkind, .ref a_mwidth, .ref a_mreset, .ref a_mop, .ref a_mka, .ref a_mkb, .ref a_mkc, .ref a_mheld, .int (nI mN), .ref a_msort, .ref a_mof, .ref a_mfrom, .int (nI mMs), .ref a_mbit, .ref a_mdone, .ref a_mrests, .ref a_mxx, .ref a_myy, .ref a_mdepth, .ref a_mone, .int (nI mG), .int (nI mCk), .int mFw, .int (nI mRd), .ref a_mbefore, .ref a_mfirst, .ref a_mturned])), (a_mwidth, .inl (cI, 14, .inl (nF mWd))), (a_mheld, .inl (cI, 14, .inl (nF mHd))), (a_mbit, .inl (cI, 224, .inl (nF mBi))), (a_mone, .inl (cZ, 2600, .inl (nF mIo)))]) (va_runV (As := [.int (nI (mBi ((bs + (8 * S)) + b)))]) (rest := []) ⟨hx, hb, hml, hown, hts⟩ (c_Mod_isTrue l dC dI cI cZ a_mod a_mkind a_mwidth a_mreset a_mop a_mka a_mkb a_mkc a_mheld a_msort a_mof a_mfrom a_mbit a_mdone a_mrests a_mxx a_myy a_mdepth a_mone a_mbefore a_mfirst a_mturned tt H.size mN mMs mG mCk mFw mRd mHd mIo (mBi ((bs + (8 * S)) + b)) (by omega) (by omega) (by omega) (by omega) b_mHd b_mIo (by omega)) (cwV 1 hts (gd_V in_tl (mw 738 rfl rfl) (mw 740 rfl rfl) (mw 38 rfl rfl) (mw 47 rfl rfl) (mw 741 rfl rfl)) rfl rfl rfl (by decide +kernel) ⟨Nat.le_of_ble_eq_true rfl, Nat.le_of_ble_eq_true rfl⟩) (k_preV hK hP hD hS hA hE [0, 2, 4] (by decide) rfl 6 0 rfl rfl) rfl rfl hl.1 rfl (lv_room (Nat.le_of_ble_eq_true rfl)) d_Mod_read_31 ⟨Nat.zero_le _, Nat.zero_le _⟩) hP hD hS hA [0, 2, 4] [1, 3] [2, 0, 3, 1, 4] rfl rfl (by decide) (by decide) (by decide) (fun _ => rfl) (fun r_5 u H locs hw hP hD hS => ?_)
    obtain rfl : (r_5 = nI ((mV mHd mIo ((mBi ((bs + (8 * S)) + b)) / 2) + (mBi ((bs + (8 * S)) + b)) % 2) % 2)) := hw
    have hP : va_P (dC, dI) classes [(a_mod, .inr (6, [.ref a_mkind, .ref a_mwidth, .ref a_mreset, .ref a_mop, .ref a_mka, .ref a_mkb, .ref a_mkc, .ref a_mheld, .int (nI mN), .ref a_msort, .ref a_mof, .ref a_mfrom, .int (nI mMs), .ref a_mbit, .ref a_mdone, .ref a_mrests, .ref a_mxx, .ref a_myy, .ref a_mdepth, .ref a_mone, .int (nI mG), .int (nI mCk), .int mFw, .int (nI mRd), .ref a_mbefore, .ref a_mfirst, .ref a_mturned])), (a_mwidth, .inl (cI, 14, .inl (nF mWd))), (a_mheld, .inl (cI, 14, .inl (nF mHd))), (a_mbit, .inl (cI, 224, .inl (nF mBi))), (a_mone, .inl (cZ, 2600, .inl (nF mIo)))] H := hP
    have hD : va_D A [(a_mod, .inr (6, [.ref a_mkind, .ref a_mwidth, .ref a_mreset, .ref a_mop, .ref a_mka, .ref a_mkb, .ref a_mkc, .ref a_mheld, .int (nI mN), .ref a_msort, .ref a_mof, .ref a_mfrom, .int (nI mMs), .ref a_mbit, .ref a_mdone, .ref a_mrests, .ref a_mxx, .ref a_myy, .ref a_mdepth, .ref a_mone, .int (nI mG), .int (nI mCk), .int mFw, .int (nI mRd), .ref a_mbefore, .ref a_mfirst, .ref a_mturned])), (a_mwidth, .inl (cI, 14, .inl (nF mWd))), (a_mheld, .inl (cI, 14, .inl (nF mHd))), (a_mbit, .inl (cI, 224, .inl (nF mBi))), (a_mone, .inl (cZ, 2600, .inl (nF mIo)))] := hD
    refine lv_if_eq (tgt := 44) hx hb d_Mod_read_34 (by decide) (fun c34 => ?_) (fun c34 => ?_)
    · skip
      have c34 : ((mV mHd mIo ((mBi ((bs + (8 * S)) + b)) / 2) + (mBi ((bs + (8 * S)) + b)) % 2) % 2) = 0 := (nI_eq0 (by omega)).mp c34
      refine lv_iinc (v := nI (b + 1)) (lv' := [(4, .int (nI (b + 1))), (3, .int (nI x)), (0, .ref a_mod), (1, .int (nI S)), (2, .int (nI bs))]) hx hb d_Mod_read_44 hl (k := 0) rfl (k_inc _ 1) (by decide) rfl (fun ls hl => ?_)
      refine lv_goto (tgt := 5) hx hb d_Mod_read_47 (by decide) ?_
      have hI_6 : (x = wrd (fun j => (mV mHd mIo (mBi (bs + 8 * S + j) / 2) + mBi (bs + 8 * S + j) % 2) % 2) (b + 1)) ∧ ((b + 1) ≤ mWd S) := ⟨(by have h1 : (fun j => (mV mHd mIo (mBi (bs + 8 * S + j) / 2) + mBi (bs + 8 * S + j) % 2) % 2) b = 0 := c34; rw [hx4]; show _ = wrd (fun j => (mV mHd mIo (mBi (bs + 8 * S + j) / 2) + mBi (bs + 8 * S + j) % 2) % 2) b + (fun j => (mV mHd mIo (mBi (bs + 8 * S + j) / 2) + mBi (bs + 8 * S + j) % 2) % 2) b * 2 ^ b; rw [h1, Nat.zero_mul]; rfl), (by omega)⟩
      exact ih_2 (x, b + 1) hI_6 (show mWd S - (b + 1) < mWd S - b from by omega) _ _ _ hP hD hS (lv_sub hl [0, 1, 2, 3, 4] rfl)
    · skip
      have c34 : ¬ (((mV mHd mIo ((mBi ((bs + (8 * S)) + b)) / 2) + (mBi ((bs + (8 * S)) + b)) % 2) % 2) = 0) := fun h => c34 ((nI_eq0 (by omega)).mpr h)
      refine lv_iload_n hx hb d_Mod_read_37 rfl (lv_at hl 1 rfl) ?_
      refine lv_iconst (v := nI 1) hx hb d_Mod_read_38 rfl ?_
      refine lv_iload hx hb d_Mod_read_39 (lv_at hl 0 rfl) ?_
      refine lv_ishl hx hb d_Mod_read_41 ?_
      refine k_top (nI_shl _ (by omega)) ?_
      refine lv_ior hx hb d_Mod_read_42 ?_
      refine k_top (nI_or _ _) ?_
      refine lv_istore_n (lv' := [(3, .int (nI (x ||| (1 * 2 ^ b)))), (4, .int (nI b)), (0, .ref a_mod), (1, .int (nI S)), (2, .int (nI bs))]) hx hb d_Mod_read_43 rfl hl (by decide) rfl (fun ls hl => ?_)
      refine lv_iinc (v := nI (b + 1)) (lv' := [(4, .int (nI (b + 1))), (3, .int (nI (x ||| (1 * 2 ^ b)))), (0, .ref a_mod), (1, .int (nI S)), (2, .int (nI bs))]) hx hb d_Mod_read_44 hl (k := 1) rfl (k_inc _ 1) (by decide) rfl (fun ls hl => ?_)
      refine lv_goto (tgt := 5) hx hb d_Mod_read_47 (by decide) ?_
      have hI_7 : ((x ||| (1 * 2 ^ b)) = wrd (fun j => (mV mHd mIo (mBi (bs + 8 * S + j) / 2) + mBi (bs + 8 * S + j) % 2) % 2) (b + 1)) ∧ ((b + 1) ≤ mWd S) := ⟨(by have h1 : (mV mHd mIo (mBi (bs + 8 * S + b) / 2) + mBi (bs + 8 * S + b) % 2) % 2 = 1 := (by omega); have := wrd_or (f := (fun j => (mV mHd mIo (mBi (bs + 8 * S + j) / 2) + mBi (bs + 8 * S + j) % 2) % 2)) (fun j => Nat.mod_lt _ (by decide)) b; rw [h1] at this; rw [hx4]; exact this), (by omega)⟩
      exact ih_2 (x ||| (1 * 2 ^ b), b + 1) hI_7 (show mWd S - (b + 1) < mWd S - b from by omega) _ _ _ hP hD hS (lv_sub hl [0, 1, 2, 3, 4] rfl)
