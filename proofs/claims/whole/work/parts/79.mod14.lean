abbrev b_Mod_isSure : ByteArray := prog_8_method_13_code
def y_Mod_isSure : MethodName := ⟨"CircuitDeskModel", "isSure", "(I)Z"⟩
def w_Mod_isSure : List Cond := .code y_Mod_isSure b_Mod_isSure 5 (some .boolean) :: lw_gw
theorem d_Mod_isSure_0 : decode b_Mod_isSure 0 = .ok (.iconst 0, 1) := by decide +kernel
theorem d_Mod_isSure_1 : decode b_Mod_isSure 1 = .ok (.istore_n 2, 1) := by decide +kernel
theorem d_Mod_isSure_2 : decode b_Mod_isSure 2 = .ok (.iconst 0, 1) := by decide +kernel
theorem d_Mod_isSure_3 : decode b_Mod_isSure 3 = .ok (.istore_n 3, 1) := by decide +kernel
theorem d_Mod_isSure_4 : decode b_Mod_isSure 4 = .ok (.iconst 0, 1) := by decide +kernel
theorem d_Mod_isSure_5 : decode b_Mod_isSure 5 = .ok (.istore 4, 2) := by decide +kernel
theorem d_Mod_isSure_7 : decode b_Mod_isSure 7 = .ok (.iload 4, 2) := by decide +kernel
theorem d_Mod_isSure_9 : decode b_Mod_isSure 9 = .ok (.aload_n 0, 1) := by decide +kernel
theorem d_Mod_isSure_10 : decode b_Mod_isSure 10 = .ok (.getfield 104, 3) := by decide +kernel
theorem d_Mod_isSure_13 : decode b_Mod_isSure 13 = .ok (.if_icmp .ge 162, 3) := by decide +kernel
theorem d_Mod_isSure_16 : decode b_Mod_isSure 16 = .ok (.aload_n 0, 1) := by decide +kernel
theorem d_Mod_isSure_17 : decode b_Mod_isSure 17 = .ok (.getfield 34, 3) := by decide +kernel
theorem d_Mod_isSure_20 : decode b_Mod_isSure 20 = .ok (.iload 4, 2) := by decide +kernel
theorem d_Mod_isSure_22 : decode b_Mod_isSure 22 = .ok (.iaload, 1) := by decide +kernel
theorem d_Mod_isSure_23 : decode b_Mod_isSure 23 = .ok (.ifCond .ne 16, 3) := by decide +kernel
theorem d_Mod_isSure_26 : decode b_Mod_isSure 26 = .ok (.aload_n 0, 1) := by decide +kernel
theorem d_Mod_isSure_27 : decode b_Mod_isSure 27 = .ok (.getfield 37, 3) := by decide +kernel
theorem d_Mod_isSure_30 : decode b_Mod_isSure 30 = .ok (.iload 4, 2) := by decide +kernel
theorem d_Mod_isSure_32 : decode b_Mod_isSure 32 = .ok (.iaload, 1) := by decide +kernel
theorem d_Mod_isSure_33 : decode b_Mod_isSure 33 = .ok (.iload_n 1, 1) := by decide +kernel
theorem d_Mod_isSure_34 : decode b_Mod_isSure 34 = .ok (.if_icmp .ne 5, 3) := by decide +kernel
theorem d_Mod_isSure_37 : decode b_Mod_isSure 37 = .ok (.iconst 1, 1) := by decide +kernel
theorem d_Mod_isSure_38 : decode b_Mod_isSure 38 = .ok (.istore_n 3, 1) := by decide +kernel
theorem d_Mod_isSure_39 : decode b_Mod_isSure 39 = .ok (.aload_n 0, 1) := by decide +kernel
theorem d_Mod_isSure_40 : decode b_Mod_isSure 40 = .ok (.getfield 34, 3) := by decide +kernel
theorem d_Mod_isSure_43 : decode b_Mod_isSure 43 = .ok (.iload 4, 2) := by decide +kernel
theorem d_Mod_isSure_45 : decode b_Mod_isSure 45 = .ok (.iaload, 1) := by decide +kernel
theorem d_Mod_isSure_46 : decode b_Mod_isSure 46 = .ok (.iconst 1, 1) := by decide +kernel
theorem d_Mod_isSure_47 : decode b_Mod_isSure 47 = .ok (.if_icmp .ne 30, 3) := by decide +kernel
theorem d_Mod_isSure_50 : decode b_Mod_isSure 50 = .ok (.aload_n 0, 1) := by decide +kernel
theorem d_Mod_isSure_51 : decode b_Mod_isSure 51 = .ok (.getfield 69, 3) := by decide +kernel
theorem d_Mod_isSure_54 : decode b_Mod_isSure 54 = .ok (.iload_n 2, 1) := by decide +kernel
theorem d_Mod_isSure_55 : decode b_Mod_isSure 55 = .ok (.iload_n 3, 1) := by decide +kernel
theorem d_Mod_isSure_56 : decode b_Mod_isSure 56 = .ok (.ifCond .eq 7, 3) := by decide +kernel
theorem d_Mod_isSure_59 : decode b_Mod_isSure 59 = .ok (.iconst 1, 1) := by decide +kernel
theorem d_Mod_isSure_60 : decode b_Mod_isSure 60 = .ok (.goto 4, 3) := by decide +kernel
theorem d_Mod_isSure_63 : decode b_Mod_isSure 63 = .ok (.iconst 0, 1) := by decide +kernel
theorem d_Mod_isSure_64 : decode b_Mod_isSure 64 = .ok (.iastore, 1) := by decide +kernel
theorem d_Mod_isSure_65 : decode b_Mod_isSure 65 = .ok (.aload_n 0, 1) := by decide +kernel
theorem d_Mod_isSure_66 : decode b_Mod_isSure 66 = .ok (.getfield 75, 3) := by decide +kernel
theorem d_Mod_isSure_69 : decode b_Mod_isSure 69 = .ok (.iload_n 2, 1) := by decide +kernel
theorem d_Mod_isSure_70 : decode b_Mod_isSure 70 = .ok (.iconst 0, 1) := by decide +kernel
theorem d_Mod_isSure_71 : decode b_Mod_isSure 71 = .ok (.bastore, 1) := by decide +kernel
theorem d_Mod_isSure_72 : decode b_Mod_isSure 72 = .ok (.iconst 0, 1) := by decide +kernel
theorem d_Mod_isSure_73 : decode b_Mod_isSure 73 = .ok (.istore_n 3, 1) := by decide +kernel
theorem d_Mod_isSure_74 : decode b_Mod_isSure 74 = .ok (.iinc 2 1, 3) := by decide +kernel
theorem d_Mod_isSure_77 : decode b_Mod_isSure 77 = .ok (.aload_n 0, 1) := by decide +kernel
theorem d_Mod_isSure_78 : decode b_Mod_isSure 78 = .ok (.getfield 34, 3) := by decide +kernel
theorem d_Mod_isSure_81 : decode b_Mod_isSure 81 = .ok (.iload 4, 2) := by decide +kernel
theorem d_Mod_isSure_83 : decode b_Mod_isSure 83 = .ok (.iaload, 1) := by decide +kernel
theorem d_Mod_isSure_84 : decode b_Mod_isSure 84 = .ok (.iconst 2, 1) := by decide +kernel
theorem d_Mod_isSure_85 : decode b_Mod_isSure 85 = .ok (.if_icmp .ne 31, 3) := by decide +kernel
theorem d_Mod_isSure_88 : decode b_Mod_isSure 88 = .ok (.aload_n 0, 1) := by decide +kernel
theorem d_Mod_isSure_89 : decode b_Mod_isSure 89 = .ok (.getfield 72, 3) := by decide +kernel
theorem d_Mod_isSure_92 : decode b_Mod_isSure 92 = .ok (.iload_n 2, 1) := by decide +kernel
theorem d_Mod_isSure_93 : decode b_Mod_isSure 93 = .ok (.iconst 1, 1) := by decide +kernel
theorem d_Mod_isSure_94 : decode b_Mod_isSure 94 = .ok (.isub, 1) := by decide +kernel
theorem d_Mod_isSure_95 : decode b_Mod_isSure 95 = .ok (.iload_n 3, 1) := by decide +kernel
theorem d_Mod_isSure_96 : decode b_Mod_isSure 96 = .ok (.ifCond .eq 7, 3) := by decide +kernel
theorem d_Mod_isSure_99 : decode b_Mod_isSure 99 = .ok (.iconst 1, 1) := by decide +kernel
theorem d_Mod_isSure_100 : decode b_Mod_isSure 100 = .ok (.goto 4, 3) := by decide +kernel
theorem d_Mod_isSure_103 : decode b_Mod_isSure 103 = .ok (.iconst 0, 1) := by decide +kernel
theorem d_Mod_isSure_104 : decode b_Mod_isSure 104 = .ok (.iastore, 1) := by decide +kernel
theorem d_Mod_isSure_105 : decode b_Mod_isSure 105 = .ok (.aload_n 0, 1) := by decide +kernel
theorem d_Mod_isSure_106 : decode b_Mod_isSure 106 = .ok (.getfield 75, 3) := by decide +kernel
theorem d_Mod_isSure_109 : decode b_Mod_isSure 109 = .ok (.iload_n 2, 1) := by decide +kernel
theorem d_Mod_isSure_110 : decode b_Mod_isSure 110 = .ok (.iconst 1, 1) := by decide +kernel
theorem d_Mod_isSure_111 : decode b_Mod_isSure 111 = .ok (.isub, 1) := by decide +kernel
theorem d_Mod_isSure_112 : decode b_Mod_isSure 112 = .ok (.iconst 1, 1) := by decide +kernel
theorem d_Mod_isSure_113 : decode b_Mod_isSure 113 = .ok (.bastore, 1) := by decide +kernel
theorem d_Mod_isSure_114 : decode b_Mod_isSure 114 = .ok (.iconst 0, 1) := by decide +kernel
theorem d_Mod_isSure_115 : decode b_Mod_isSure 115 = .ok (.istore_n 3, 1) := by decide +kernel
theorem d_Mod_isSure_116 : decode b_Mod_isSure 116 = .ok (.aload_n 0, 1) := by decide +kernel
theorem d_Mod_isSure_117 : decode b_Mod_isSure 117 = .ok (.getfield 34, 3) := by decide +kernel
theorem d_Mod_isSure_120 : decode b_Mod_isSure 120 = .ok (.iload 4, 2) := by decide +kernel
theorem d_Mod_isSure_122 : decode b_Mod_isSure 122 = .ok (.iaload, 1) := by decide +kernel
theorem d_Mod_isSure_123 : decode b_Mod_isSure 123 = .ok (.iconst 3, 1) := by decide +kernel
theorem d_Mod_isSure_124 : decode b_Mod_isSure 124 = .ok (.if_icmp .ne 45, 3) := by decide +kernel
theorem d_Mod_isSure_127 : decode b_Mod_isSure 127 = .ok (.iinc 2 (-1), 3) := by decide +kernel
theorem d_Mod_isSure_130 : decode b_Mod_isSure 130 = .ok (.aload_n 0, 1) := by decide +kernel
theorem d_Mod_isSure_131 : decode b_Mod_isSure 131 = .ok (.getfield 69, 3) := by decide +kernel
theorem d_Mod_isSure_134 : decode b_Mod_isSure 134 = .ok (.iload_n 2, 1) := by decide +kernel
theorem d_Mod_isSure_135 : decode b_Mod_isSure 135 = .ok (.iaload, 1) := by decide +kernel
theorem d_Mod_isSure_136 : decode b_Mod_isSure 136 = .ok (.iconst 1, 1) := by decide +kernel
theorem d_Mod_isSure_137 : decode b_Mod_isSure 137 = .ok (.if_icmp .eq 26, 3) := by decide +kernel
theorem d_Mod_isSure_140 : decode b_Mod_isSure 140 = .ok (.aload_n 0, 1) := by decide +kernel
theorem d_Mod_isSure_141 : decode b_Mod_isSure 141 = .ok (.getfield 75, 3) := by decide +kernel
theorem d_Mod_isSure_144 : decode b_Mod_isSure 144 = .ok (.iload_n 2, 1) := by decide +kernel
theorem d_Mod_isSure_145 : decode b_Mod_isSure 145 = .ok (.baload, 1) := by decide +kernel
theorem d_Mod_isSure_146 : decode b_Mod_isSure 146 = .ok (.ifCond .eq 21, 3) := by decide +kernel
theorem d_Mod_isSure_149 : decode b_Mod_isSure 149 = .ok (.aload_n 0, 1) := by decide +kernel
theorem d_Mod_isSure_150 : decode b_Mod_isSure 150 = .ok (.getfield 72, 3) := by decide +kernel
theorem d_Mod_isSure_153 : decode b_Mod_isSure 153 = .ok (.iload_n 2, 1) := by decide +kernel
theorem d_Mod_isSure_154 : decode b_Mod_isSure 154 = .ok (.iaload, 1) := by decide +kernel
theorem d_Mod_isSure_155 : decode b_Mod_isSure 155 = .ok (.iconst 1, 1) := by decide +kernel
theorem d_Mod_isSure_156 : decode b_Mod_isSure 156 = .ok (.if_icmp .ne 11, 3) := by decide +kernel
theorem d_Mod_isSure_159 : decode b_Mod_isSure 159 = .ok (.iload_n 3, 1) := by decide +kernel
theorem d_Mod_isSure_160 : decode b_Mod_isSure 160 = .ok (.ifCond .eq 7, 3) := by decide +kernel
theorem d_Mod_isSure_163 : decode b_Mod_isSure 163 = .ok (.iconst 1, 1) := by decide +kernel
theorem d_Mod_isSure_164 : decode b_Mod_isSure 164 = .ok (.goto 4, 3) := by decide +kernel
theorem d_Mod_isSure_167 : decode b_Mod_isSure 167 = .ok (.iconst 0, 1) := by decide +kernel
theorem d_Mod_isSure_168 : decode b_Mod_isSure 168 = .ok (.istore_n 3, 1) := by decide +kernel
theorem d_Mod_isSure_169 : decode b_Mod_isSure 169 = .ok (.iinc 4 1, 3) := by decide +kernel
theorem d_Mod_isSure_172 : decode b_Mod_isSure 172 = .ok (.goto (-165), 3) := by decide +kernel
theorem d_Mod_isSure_175 : decode b_Mod_isSure 175 = .ok (.iload_n 3, 1) := by decide +kernel
theorem d_Mod_isSure_176 : decode b_Mod_isSure 176 = .ok (.ireturn, 1) := by decide +kernel
abbrev b_Mod_restsOnItself : ByteArray := prog_8_method_15_code
def y_Mod_restsOnItself : MethodName := ⟨"CircuitDeskModel", "restsOnItself", "(I)Z"⟩
def w_Mod_restsOnItself : List Cond := .code y_Mod_restsOnItself b_Mod_restsOnItself 5 (some .boolean) :: lw_gw
theorem d_Mod_restsOnItself_0 : decode b_Mod_restsOnItself 0 = .ok (.iconst 0, 1) := by decide +kernel
theorem d_Mod_restsOnItself_1 : decode b_Mod_restsOnItself 1 = .ok (.istore_n 2, 1) := by decide +kernel
theorem d_Mod_restsOnItself_2 : decode b_Mod_restsOnItself 2 = .ok (.iload_n 2, 1) := by decide +kernel
theorem d_Mod_restsOnItself_3 : decode b_Mod_restsOnItself 3 = .ok (.bipush 14, 2) := by decide +kernel
theorem d_Mod_restsOnItself_5 : decode b_Mod_restsOnItself 5 = .ok (.if_icmp .ge 81, 3) := by decide +kernel
theorem d_Mod_restsOnItself_8 : decode b_Mod_restsOnItself 8 = .ok (.iconst 0, 1) := by decide +kernel
theorem d_Mod_restsOnItself_9 : decode b_Mod_restsOnItself 9 = .ok (.istore_n 3, 1) := by decide +kernel
theorem d_Mod_restsOnItself_10 : decode b_Mod_restsOnItself 10 = .ok (.iload_n 3, 1) := by decide +kernel
theorem d_Mod_restsOnItself_11 : decode b_Mod_restsOnItself 11 = .ok (.bipush 14, 2) := by decide +kernel
theorem d_Mod_restsOnItself_13 : decode b_Mod_restsOnItself 13 = .ok (.if_icmp .ge 67, 3) := by decide +kernel
theorem d_Mod_restsOnItself_16 : decode b_Mod_restsOnItself 16 = .ok (.aload_n 0, 1) := by decide +kernel
theorem d_Mod_restsOnItself_17 : decode b_Mod_restsOnItself 17 = .ok (.getfield 50, 3) := by decide +kernel
theorem d_Mod_restsOnItself_20 : decode b_Mod_restsOnItself 20 = .ok (.bipush 14, 2) := by decide +kernel
theorem d_Mod_restsOnItself_22 : decode b_Mod_restsOnItself 22 = .ok (.iload_n 1, 1) := by decide +kernel
theorem d_Mod_restsOnItself_23 : decode b_Mod_restsOnItself 23 = .ok (.imul, 1) := by decide +kernel
theorem d_Mod_restsOnItself_24 : decode b_Mod_restsOnItself 24 = .ok (.iload_n 3, 1) := by decide +kernel
theorem d_Mod_restsOnItself_25 : decode b_Mod_restsOnItself 25 = .ok (.iadd, 1) := by decide +kernel
theorem d_Mod_restsOnItself_26 : decode b_Mod_restsOnItself 26 = .ok (.baload, 1) := by decide +kernel
theorem d_Mod_restsOnItself_27 : decode b_Mod_restsOnItself 27 = .ok (.ifCond .eq 47, 3) := by decide +kernel
theorem d_Mod_restsOnItself_30 : decode b_Mod_restsOnItself 30 = .ok (.iconst 0, 1) := by decide +kernel
theorem d_Mod_restsOnItself_31 : decode b_Mod_restsOnItself 31 = .ok (.istore 4, 2) := by decide +kernel
theorem d_Mod_restsOnItself_33 : decode b_Mod_restsOnItself 33 = .ok (.iload 4, 2) := by decide +kernel
theorem d_Mod_restsOnItself_35 : decode b_Mod_restsOnItself 35 = .ok (.bipush 14, 2) := by decide +kernel
theorem d_Mod_restsOnItself_37 : decode b_Mod_restsOnItself 37 = .ok (.if_icmp .ge 37, 3) := by decide +kernel
theorem d_Mod_restsOnItself_40 : decode b_Mod_restsOnItself 40 = .ok (.aload_n 0, 1) := by decide +kernel
theorem d_Mod_restsOnItself_41 : decode b_Mod_restsOnItself 41 = .ok (.getfield 50, 3) := by decide +kernel
theorem d_Mod_restsOnItself_44 : decode b_Mod_restsOnItself 44 = .ok (.bipush 14, 2) := by decide +kernel
theorem d_Mod_restsOnItself_46 : decode b_Mod_restsOnItself 46 = .ok (.iload_n 3, 1) := by decide +kernel
theorem d_Mod_restsOnItself_47 : decode b_Mod_restsOnItself 47 = .ok (.imul, 1) := by decide +kernel
theorem d_Mod_restsOnItself_48 : decode b_Mod_restsOnItself 48 = .ok (.iload 4, 2) := by decide +kernel
theorem d_Mod_restsOnItself_50 : decode b_Mod_restsOnItself 50 = .ok (.iadd, 1) := by decide +kernel
theorem d_Mod_restsOnItself_51 : decode b_Mod_restsOnItself 51 = .ok (.baload, 1) := by decide +kernel
theorem d_Mod_restsOnItself_52 : decode b_Mod_restsOnItself 52 = .ok (.ifCond .eq 16, 3) := by decide +kernel
theorem d_Mod_restsOnItself_55 : decode b_Mod_restsOnItself 55 = .ok (.aload_n 0, 1) := by decide +kernel
theorem d_Mod_restsOnItself_56 : decode b_Mod_restsOnItself 56 = .ok (.getfield 50, 3) := by decide +kernel
theorem d_Mod_restsOnItself_59 : decode b_Mod_restsOnItself 59 = .ok (.bipush 14, 2) := by decide +kernel
theorem d_Mod_restsOnItself_61 : decode b_Mod_restsOnItself 61 = .ok (.iload_n 1, 1) := by decide +kernel
theorem d_Mod_restsOnItself_62 : decode b_Mod_restsOnItself 62 = .ok (.imul, 1) := by decide +kernel
theorem d_Mod_restsOnItself_63 : decode b_Mod_restsOnItself 63 = .ok (.iload 4, 2) := by decide +kernel
theorem d_Mod_restsOnItself_65 : decode b_Mod_restsOnItself 65 = .ok (.iadd, 1) := by decide +kernel
theorem d_Mod_restsOnItself_66 : decode b_Mod_restsOnItself 66 = .ok (.iconst 1, 1) := by decide +kernel
theorem d_Mod_restsOnItself_67 : decode b_Mod_restsOnItself 67 = .ok (.bastore, 1) := by decide +kernel
theorem d_Mod_restsOnItself_68 : decode b_Mod_restsOnItself 68 = .ok (.iinc 4 1, 3) := by decide +kernel
theorem d_Mod_restsOnItself_71 : decode b_Mod_restsOnItself 71 = .ok (.goto (-38), 3) := by decide +kernel
theorem d_Mod_restsOnItself_74 : decode b_Mod_restsOnItself 74 = .ok (.iinc 3 1, 3) := by decide +kernel
theorem d_Mod_restsOnItself_77 : decode b_Mod_restsOnItself 77 = .ok (.goto (-67), 3) := by decide +kernel
theorem d_Mod_restsOnItself_80 : decode b_Mod_restsOnItself 80 = .ok (.iinc 2 1, 3) := by decide +kernel
theorem d_Mod_restsOnItself_83 : decode b_Mod_restsOnItself 83 = .ok (.goto (-81), 3) := by decide +kernel
theorem d_Mod_restsOnItself_86 : decode b_Mod_restsOnItself 86 = .ok (.aload_n 0, 1) := by decide +kernel
theorem d_Mod_restsOnItself_87 : decode b_Mod_restsOnItself 87 = .ok (.getfield 50, 3) := by decide +kernel
theorem d_Mod_restsOnItself_90 : decode b_Mod_restsOnItself 90 = .ok (.bipush 15, 2) := by decide +kernel
theorem d_Mod_restsOnItself_92 : decode b_Mod_restsOnItself 92 = .ok (.iload_n 1, 1) := by decide +kernel
theorem d_Mod_restsOnItself_93 : decode b_Mod_restsOnItself 93 = .ok (.imul, 1) := by decide +kernel
theorem d_Mod_restsOnItself_94 : decode b_Mod_restsOnItself 94 = .ok (.baload, 1) := by decide +kernel
theorem d_Mod_restsOnItself_95 : decode b_Mod_restsOnItself 95 = .ok (.ireturn, 1) := by decide +kernel
set_option maxHeartbeats 4000000 in
set_option maxRecDepth 100000 in
theorem c_Mod_isSure (l : Launch) (dC : Nat → ClassId) (dI : Nat → Nat → Nat) (cI cZ : ClassId) (a_mod a_mkind a_mwidth a_mreset a_mop a_mka a_mkb a_mkc a_mheld a_msort a_mof a_mfrom a_mbit a_mdone a_mrests a_mxx a_myy a_mdepth a_mone a_mbefore a_mfirst a_mturned : Nat) (tt sz : Nat) (mN : Nat) (mMs : Nat) (mG : Nat) (mCk : Nat) (mFw : Int32) (mRd : Nat) (mSo : Nat → Nat) (mOf : Nat → Int32) (mBe : Nat → Nat) (mFi : Nat → Nat) (mTu : Nat → Nat) (Su : Nat → Nat) (S : Nat) (b_mN : mN ≤ 14) (b_mMs : mMs ≤ 20) (b_mG : mG ≤ 1280) (b_mRd : mRd ≤ 1) (b_mSo : ∀ j, mSo j < 4) (b_mBe : ∀ j, mBe j < 2786) (b_mFi : ∀ j, mFi j < 2786) (b_mTu : ∀ j, mTu j < 2) (hLG : LG mSo mMs) (hd0 : dp mSo mMs = 0) (hOf : ∀ k, k < mMs → (mSo k = 0 ∨ mSo k = 1) → mOf k = nI (Su k) ∧ Su k < 14) (hS14 : S < 14) : Met l y_Mod_isSure w_Mod_isSure ({ frames := 0, cells := 0, slots := 0, locals := 0 }) (va_Pc [.ref a_mod, .int (nI S)] (PW (dC, dI) classes [(cI, .int), (cZ, .boolean)] tt [(a_mod, .inr (6, [.ref a_mkind, .ref a_mwidth, .ref a_mreset, .ref a_mop, .ref a_mka, .ref a_mkb, .ref a_mkc, .ref a_mheld, .int (nI mN), .ref a_msort, .ref a_mof, .ref a_mfrom, .int (nI mMs), .ref a_mbit, .ref a_mdone, .ref a_mrests, .ref a_mxx, .ref a_myy, .ref a_mdepth, .ref a_mone, .int (nI mG), .int (nI mCk), .int mFw, .int (nI mRd), .ref a_mbefore, .ref a_mfirst, .ref a_mturned])), (a_msort, .inl (cI, 20, .inl (nF mSo))), (a_mof, .inl (cI, 20, .inl mOf)), (a_mbefore, .inl (cI, 6, .inl (nF mBe))), (a_mfirst, .inl (cI, 6, .inl (nF mFi))), (a_mturned, .inl (cZ, 6, .inl (nF mTu)))] sz)) (va_Qi (fun (r : Int32) (u : (Nat → Nat) × (Nat → Nat) × (Nat → Nat)) => (r = nI (bt (mPF mSo Su mMs 0).1 S)) ∧ (∀ j, u.1 j < 2786) ∧ (∀ j, u.2.1 j < 2786) ∧ (∀ j, u.2.2 j < 2)) (AT (dC, dI) classes [(cI, .int), (cZ, .boolean)] (va_A [(a_mod, .inr (6, [.ref a_mkind, .ref a_mwidth, .ref a_mreset, .ref a_mop, .ref a_mka, .ref a_mkb, .ref a_mkc, .ref a_mheld, .int (nI mN), .ref a_msort, .ref a_mof, .ref a_mfrom, .int (nI mMs), .ref a_mbit, .ref a_mdone, .ref a_mrests, .ref a_mxx, .ref a_myy, .ref a_mdepth, .ref a_mone, .int (nI mG), .int (nI mCk), .int mFw, .int (nI mRd), .ref a_mbefore, .ref a_mfirst, .ref a_mturned])), (a_msort, .inl (cI, 20, .inl (nF mSo))), (a_mof, .inl (cI, 20, .inl mOf)), (a_mbefore, .inl (cI, 6, .inl (nF mBe))), (a_mfirst, .inl (cI, 6, .inl (nF mFi))), (a_mturned, .inl (cZ, 6, .inl (nF mTu)))] sz) (fun (u : (Nat → Nat) × (Nat → Nat) × (Nat → Nat)) => [(a_mod, .inr (6, [.ref a_mkind, .ref a_mwidth, .ref a_mreset, .ref a_mop, .ref a_mka, .ref a_mkb, .ref a_mkc, .ref a_mheld, .int (nI mN), .ref a_msort, .ref a_mof, .ref a_mfrom, .int (nI mMs), .ref a_mbit, .ref a_mdone, .ref a_mrests, .ref a_mxx, .ref a_myy, .ref a_mdepth, .ref a_mone, .int (nI mG), .int (nI mCk), .int mFw, .int (nI mRd), .ref a_mbefore, .ref a_mfirst, .ref a_mturned])), (a_msort, .inl (cI, 20, .inl (nF mSo))), (a_mof, .inl (cI, 20, .inl mOf)), (a_mbefore, .inl (cI, 6, .inl (nF u.1))), (a_mfirst, .inl (cI, 6, .inl (nF u.2.1))), (a_mturned, .inl (cZ, 6, .inl (nF u.2.2)))])) (va_A [(a_mod, .inr (6, [.ref a_mkind, .ref a_mwidth, .ref a_mreset, .ref a_mop, .ref a_mka, .ref a_mkb, .ref a_mkc, .ref a_mheld, .int (nI mN), .ref a_msort, .ref a_mof, .ref a_mfrom, .int (nI mMs), .ref a_mbit, .ref a_mdone, .ref a_mrests, .ref a_mxx, .ref a_myy, .ref a_mdepth, .ref a_mone, .int (nI mG), .int (nI mCk), .int mFw, .int (nI mRd), .ref a_mbefore, .ref a_mfirst, .ref a_mturned])), (a_msort, .inl (cI, 20, .inl (nF mSo))), (a_mof, .inl (cI, 20, .inl mOf)), (a_mbefore, .inl (cI, 6, .inl (nF mBe))), (a_mfirst, .inl (cI, 6, .inl (nF mFi))), (a_mturned, .inl (cZ, 6, .inl (nF mTu)))] sz)) 0 0 (va_A [(a_mod, .inr (6, [.ref a_mkind, .ref a_mwidth, .ref a_mreset, .ref a_mop, .ref a_mka, .ref a_mkb, .ref a_mkc, .ref a_mheld, .int (nI mN), .ref a_msort, .ref a_mof, .ref a_mfrom, .int (nI mMs), .ref a_mbit, .ref a_mdone, .ref a_mrests, .ref a_mxx, .ref a_myy, .ref a_mdepth, .ref a_mone, .int (nI mG), .int (nI mCk), .int mFw, .int (nI mRd), .ref a_mbefore, .ref a_mfirst, .ref a_mturned])), (a_msort, .inl (cI, 20, .inl (nF mSo))), (a_mof, .inl (cI, 20, .inl mOf)), (a_mbefore, .inl (cI, 6, .inl (nF mBe))), (a_mfirst, .inl (cI, 6, .inl (nF mFi))), (a_mturned, .inl (cZ, 6, .inl (nF mTu)))] sz) := by
  refine Met.ofW (cc := b_Mod_isSure) (maxL := 5) (ret := (some .boolean)) (by decide) rfl ?_
  intro p e s m args below meth c s₁ B hml hv
  obtain ⟨rfl, hsz, hP, hK, hD0, hE⟩ := hv
  have hx := B.exec
  have hb := B.bytes
  have hr := B.returns
  have hts := atoms_spec (ws := w_Mod_isSure) B.pre
  have hown : s.vm.findClass R_Mod = some m.cls := findClass_of_methodNamed B.named
  have hlocks := B.notSynchronized
  subst hsz
  have hD := hD0.self (sz := s.heap.size)
  generalize hAe : va_A [(a_mod, .inr (6, [.ref a_mkind, .ref a_mwidth, .ref a_mreset, .ref a_mop, .ref a_mka, .ref a_mkb, .ref a_mkc, .ref a_mheld, .int (nI mN), .ref a_msort, .ref a_mof, .ref a_mfrom, .int (nI mMs), .ref a_mbit, .ref a_mdone, .ref a_mrests, .ref a_mxx, .ref a_myy, .ref a_mdepth, .ref a_mone, .int (nI mG), .int (nI mCk), .int mFw, .int (nI mRd), .ref a_mbefore, .ref a_mfirst, .ref a_mturned])), (a_msort, .inl (cI, 20, .inl (nF mSo))), (a_mof, .inl (cI, 20, .inl mOf)), (a_mbefore, .inl (cI, 6, .inl (nF mBe))), (a_mfirst, .inl (cI, 6, .inl (nF mFi))), (a_mturned, .inl (cZ, 6, .inl (nF mTu)))] s.heap.size = A at hD hE ⊢
  have hA : ∀ q : Nat, s.heap.size ≤ q → A q := fun q h => by rw [← hAe]; exact Or.inr h
  have hS : va_S A s.heap s.heap [] := va_S.rf
  have hP : va_P (dC, dI) classes [(a_mod, .inr (6, [.ref a_mkind, .ref a_mwidth, .ref a_mreset, .ref a_mop, .ref a_mka, .ref a_mkb, .ref a_mkc, .ref a_mheld, .int (nI mN), .ref a_msort, .ref a_mof, .ref a_mfrom, .int (nI mMs), .ref a_mbit, .ref a_mdone, .ref a_mrests, .ref a_mxx, .ref a_myy, .ref a_mdepth, .ref a_mone, .int (nI mG), .int (nI mCk), .int mFw, .int (nI mRd), .ref a_mbefore, .ref a_mfirst, .ref a_mturned])), (a_msort, .inl (cI, 20, .inl (nF mSo))), (a_mof, .inl (cI, 20, .inl mOf)), (a_mbefore, .inl (cI, 6, .inl (nF mBe))), (a_mfirst, .inl (cI, 6, .inl (nF mFi))), (a_mturned, .inl (cZ, 6, .inl (nF mTu)))] s.heap := hP
  have hl := lv_entry ([.ref a_mod, .int (nI S)]) (n := 5) (Nat.le_of_ble_eq_true rfl)
  rw [lg_entry_eq]
  generalize (lg_sl ([.ref a_mod, .int (nI S)]) ++ List.replicate (5 - (lg_sl ([.ref a_mod, .int (nI S)])).length) Slot.unset).toArray = ls at hl ⊢
  have hl : lv_has ls 5 [(0, .ref a_mod), (1, .int (nI S))] := hl
  refine lv_iconst (v := nI 0) hx hb d_Mod_isSure_0 rfl ?_
  refine lv_istore_n (lv' := [(2, .int (nI 0)), (0, .ref a_mod), (1, .int (nI S))]) hx hb d_Mod_isSure_1 rfl hl (by decide) rfl (fun ls hl => ?_)
  refine lv_iconst (v := nI 0) hx hb d_Mod_isSure_2 rfl ?_
  refine lv_istore_n (lv' := [(3, .int (nI 0)), (2, .int (nI 0)), (0, .ref a_mod), (1, .int (nI S))]) hx hb d_Mod_isSure_3 rfl hl (by decide) rfl (fun ls hl => ?_)
  refine lv_iconst (v := nI 0) hx hb d_Mod_isSure_4 rfl ?_
  refine lv_istore (lv' := [(4, .int (nI 0)), (3, .int (nI 0)), (2, .int (nI 0)), (0, .ref a_mod), (1, .int (nI S))]) hx hb d_Mod_isSure_5 hl (by decide) rfl (fun ls hl => ?_)
  have hI_1 : (∀ j, mBe j < 2786) ∧ (∀ j, mFi j < 2786) ∧ (∀ j, mTu j < 2) ∧ (0 ≤ mMs) ∧ (SI mSo Su S 0 0 0 mBe mFi mTu) := ⟨b_mBe, b_mFi, b_mTu, (by omega), SI_i⟩
  refine k_loop (σ := Nat × Nat × Nat × (Nat → Nat) × (Nat → Nat) × (Nat → Nat)) (D := (dC, dI)) (cl := classes) (A := A) (H0 := s.heap) (fun x => [(a_mod, .inr (6, [.ref a_mkind, .ref a_mwidth, .ref a_mreset, .ref a_mop, .ref a_mka, .ref a_mkb, .ref a_mkc, .ref a_mheld, .int (nI mN), .ref a_msort, .ref a_mof, .ref a_mfrom, .int (nI mMs), .ref a_mbit, .ref a_mdone, .ref a_mrests, .ref a_mxx, .ref a_myy, .ref a_mdepth, .ref a_mone, .int (nI mG), .int (nI mCk), .int mFw, .int (nI mRd), .ref a_mbefore, .ref a_mfirst, .ref a_mturned])), (a_msort, .inl (cI, 20, .inl (nF mSo))), (a_mof, .inl (cI, 20, .inl mOf)), (a_mbefore, .inl (cI, 6, .inl (nF x.2.2.2.1))), (a_mfirst, .inl (cI, 6, .inl (nF x.2.2.2.2.1))), (a_mturned, .inl (cZ, 6, .inl (nF x.2.2.2.2.2)))]) (fun x => [(4, .int (nI x.2.2.1)), (3, .int (nI x.2.1)), (2, .int (nI x.1)), (0, .ref a_mod), (1, .int (nI S))]) (fun x => (∀ j, x.2.2.2.1 j < 2786) ∧ (∀ j, x.2.2.2.2.1 j < 2786) ∧ (∀ j, x.2.2.2.2.2 j < 2) ∧ (x.2.2.1 ≤ mMs) ∧ (SI mSo Su S x.2.2.1 x.2.1 x.1 x.2.2.2.1 x.2.2.2.2.1 x.2.2.2.2.2)) (fun x => mMs - x.2.2.1) ?_ (0, 0, 0, mBe, mFi, mTu) hI_1 hP hD hS (lv_sub hl [0, 1, 2, 3, 4] rfl)
  rintro ⟨d, v, k, B1, F1, U1⟩ hI ih_2 H locs ls hP hD hS hl
  obtain ⟨b_B1, b_F1, b_U1, hk, hSI⟩ : (∀ j, B1 j < 2786) ∧ (∀ j, F1 j < 2786) ∧ (∀ j, U1 j < 2) ∧ (k ≤ mMs) ∧ (SI mSo Su S k v d B1 F1 U1) := hI
  have hP : va_P (dC, dI) classes [(a_mod, .inr (6, [.ref a_mkind, .ref a_mwidth, .ref a_mreset, .ref a_mop, .ref a_mka, .ref a_mkb, .ref a_mkc, .ref a_mheld, .int (nI mN), .ref a_msort, .ref a_mof, .ref a_mfrom, .int (nI mMs), .ref a_mbit, .ref a_mdone, .ref a_mrests, .ref a_mxx, .ref a_myy, .ref a_mdepth, .ref a_mone, .int (nI mG), .int (nI mCk), .int mFw, .int (nI mRd), .ref a_mbefore, .ref a_mfirst, .ref a_mturned])), (a_msort, .inl (cI, 20, .inl (nF mSo))), (a_mof, .inl (cI, 20, .inl mOf)), (a_mbefore, .inl (cI, 6, .inl (nF B1))), (a_mfirst, .inl (cI, 6, .inl (nF F1))), (a_mturned, .inl (cZ, 6, .inl (nF U1)))] H := hP
  have hD : va_D A [(a_mod, .inr (6, [.ref a_mkind, .ref a_mwidth, .ref a_mreset, .ref a_mop, .ref a_mka, .ref a_mkb, .ref a_mkc, .ref a_mheld, .int (nI mN), .ref a_msort, .ref a_mof, .ref a_mfrom, .int (nI mMs), .ref a_mbit, .ref a_mdone, .ref a_mrests, .ref a_mxx, .ref a_myy, .ref a_mdepth, .ref a_mone, .int (nI mG), .int (nI mCk), .int mFw, .int (nI mRd), .ref a_mbefore, .ref a_mfirst, .ref a_mturned])), (a_msort, .inl (cI, 20, .inl (nF mSo))), (a_mof, .inl (cI, 20, .inl mOf)), (a_mbefore, .inl (cI, 6, .inl (nF B1))), (a_mfirst, .inl (cI, 6, .inl (nF F1))), (a_mturned, .inl (cZ, 6, .inl (nF U1)))] := hD
  have hl : lv_has ls 5 [(4, .int (nI k)), (3, .int (nI v)), (2, .int (nI d)), (0, .ref a_mod), (1, .int (nI S))] := hl
  refine lv_iload hx hb d_Mod_isSure_7 (lv_at hl 0 rfl) ?_
  refine lv_aload_n hx hb d_Mod_isSure_9 rfl (lv_at hl 3 rfl) ?_
  refine va_get (D := (dC, dI)) (ci := 6) (v := .int (nI mMs)) (C := R_Mod) (T := F_Mod) (N := 27) hx hb hts (wi i_Mod) hown hK hP 0 rfl rfl 12 (by decide) (hts _ (mt 554 rfl rfl)) (fun _ h9 => h9) rfl d_Mod_isSure_10 ?_
  refine lv_icmp_ge (tgt := 175) hx hb d_Mod_isSure_13 (by decide) (fun c13 => ?_) (fun c13 => ?_)
  · skip
    have c13 : mMs ≤ k := (nI_leI (by omega) (by omega)).mp c13
    have hv2 := SI_v hSI
    refine lv_iload_n hx hb d_Mod_isSure_175 rfl (lv_at hl 1 rfl) ?_
    exact W.zret (v := nI v) (ty := .boolean) hx hb hr (k_narZ (by omega)) (fun t ht hW => ⟨⟨nI v, (B1, F1, U1), rfl, ⟨(by rw [hSI.2.1, hSI.1, show k = mMs by omega, hd0]), b_B1, b_F1, b_U1⟩, by rw [ht]; exact hP, va_K.moved hW.alike hK, hD⟩, hS.F ht⟩) hS.2.2 d_Mod_isSure_176
  · skip
    have c13 : ¬ (mMs ≤ k) := fun h => c13 ((nI_leI (by omega) (by omega)).mpr h)
    have g1 := hLG k (by omega)
    have g4 := dp_le hLG k (by omega)
    have hv2 := SI_v hSI
    have hd := hSI.1
    have hs4 := b_mSo k
    refine lv_aload_n hx hb d_Mod_isSure_16 rfl (lv_at hl 3 rfl) ?_
    refine va_get (D := (dC, dI)) (ci := 6) (v := .ref a_msort) (C := R_Mod) (T := F_Mod) (N := 27) hx hb hts (wi i_Mod) hown hK hP 0 rfl rfl 9 (by decide) (hts _ (mt 551 rfl rfl)) (fun _ h9 => h9) rfl d_Mod_isSure_17 ?_
    refine lv_iload hx hb d_Mod_isSure_20 (lv_at hl 0 rfl) ?_
    refine k_ild hx hb hK hP 1 0 rfl rfl (by omega) (by decide) d_Mod_isSure_22 ?_
    have hb_3 := b_mSo k
    refine lv_if_ne (tgt := 39) hx hb d_Mod_isSure_23 (by decide) (fun c23 => ?_) (fun c23 => ?_)
    · skip
      have c23 : ¬ ((mSo k) = 0) := fun h => c23 ((nI_eq0 (by omega)).mpr h)
      refine lv_aload_n hx hb d_Mod_isSure_39 rfl (lv_at hl 3 rfl) ?_
      refine va_get (D := (dC, dI)) (ci := 6) (v := .ref a_msort) (C := R_Mod) (T := F_Mod) (N := 27) hx hb hts (wi i_Mod) hown hK hP 0 rfl rfl 9 (by decide) (hts _ (mt 551 rfl rfl)) (fun _ h9 => h9) rfl d_Mod_isSure_40 ?_
      refine lv_iload hx hb d_Mod_isSure_43 (lv_at hl 0 rfl) ?_
      refine k_ild hx hb hK hP 1 0 rfl rfl (by omega) (by decide) d_Mod_isSure_45 ?_
      have hb_4 := b_mSo k
      refine lv_iconst (v := nI 1) hx hb d_Mod_isSure_46 rfl ?_
      refine lv_icmp_ne (tgt := 77) hx hb d_Mod_isSure_47 (by decide) (fun c47 => ?_) (fun c47 => ?_)
      · skip
        have c47 : ¬ ((mSo k) = 1) := fun h => c47 ((nI_eq (by omega) (by omega)).mpr h)
        refine lv_aload_n hx hb d_Mod_isSure_77 rfl (lv_at hl 3 rfl) ?_
        refine va_get (D := (dC, dI)) (ci := 6) (v := .ref a_msort) (C := R_Mod) (T := F_Mod) (N := 27) hx hb hts (wi i_Mod) hown hK hP 0 rfl rfl 9 (by decide) (hts _ (mt 551 rfl rfl)) (fun _ h9 => h9) rfl d_Mod_isSure_78 ?_
        refine lv_iload hx hb d_Mod_isSure_81 (lv_at hl 0 rfl) ?_
        refine k_ild hx hb hK hP 1 0 rfl rfl (by omega) (by decide) d_Mod_isSure_83 ?_
        have hb_5 := b_mSo k
        refine lv_iconst (v := nI 2) hx hb d_Mod_isSure_84 rfl ?_
        refine lv_icmp_ne (tgt := 116) hx hb d_Mod_isSure_85 (by decide) (fun c85 => ?_) (fun c85 => ?_)
        · skip
          have c85 : ¬ ((mSo k) = 2) := fun h => c85 ((nI_eq (by omega) (by omega)).mpr h)
          refine lv_aload_n hx hb d_Mod_isSure_116 rfl (lv_at hl 3 rfl) ?_
          refine va_get (D := (dC, dI)) (ci := 6) (v := .ref a_msort) (C := R_Mod) (T := F_Mod) (N := 27) hx hb hts (wi i_Mod) hown hK hP 0 rfl rfl 9 (by decide) (hts _ (mt 551 rfl rfl)) (fun _ h9 => h9) rfl d_Mod_isSure_117 ?_
          refine lv_iload hx hb d_Mod_isSure_120 (lv_at hl 0 rfl) ?_
          refine k_ild hx hb hK hP 1 0 rfl rfl (by omega) (by decide) d_Mod_isSure_122 ?_
          have hb_6 := b_mSo k
          refine lv_iconst (v := nI 3) hx hb d_Mod_isSure_123 rfl ?_
          refine lv_icmp_ne (tgt := 169) hx hb d_Mod_isSure_124 (by decide) (fun c124 => ?_) (fun c124 => ?_)
          · skip
            have c124 : ¬ ((mSo k) = 3) := fun h => c124 ((nI_eq (by omega) (by omega)).mpr h)
            omega
          · skip
            have c124 : (mSo k) = 3 := (nI_eq (by omega) (by omega)).mp c124
            have g2 := g1.2.1 c124
            have hd1 : 0 < d := by omega
            refine lv_iinc (v := nI (d - 1)) (lv' := [(2, .int (nI (d - 1))), (4, .int (nI k)), (3, .int (nI v)), (0, .ref a_mod), (1, .int (nI S))]) hx hb d_Mod_isSure_127 hl (k := 2) rfl (k_dec (by omega)) (by decide) rfl (fun ls hl => ?_)
            refine lv_aload_n hx hb d_Mod_isSure_130 rfl (lv_at hl 3 rfl) ?_
            refine va_get (D := (dC, dI)) (ci := 6) (v := .ref a_mbefore) (C := R_Mod) (T := F_Mod) (N := 27) hx hb hts (wi i_Mod) hown hK hP 0 rfl rfl 24 (by decide) (hts _ (mt 566 rfl rfl)) (fun _ h9 => h9) rfl d_Mod_isSure_131 ?_
            refine lv_iload_n hx hb d_Mod_isSure_134 rfl (lv_at hl 0 rfl) ?_
            refine k_ild hx hb hK hP 3 0 rfl rfl (by omega) (by decide) d_Mod_isSure_135 ?_
            have hb_7 := b_B1 (d - 1)
            refine lv_iconst (v := nI 1) hx hb d_Mod_isSure_136 rfl ?_
            refine lv_icmp_eq (tgt := 163) hx hb d_Mod_isSure_137 (by decide) (fun c137 => ?_) (fun c137 => ?_)
            · skip
              have c137 : (B1 (d - 1)) = 1 := (nI_eq (by omega) (by omega)).mp c137
              refine lv_iconst (v := nI 1) hx hb d_Mod_isSure_163 rfl ?_
              refine lv_goto (tgt := 168) hx hb d_Mod_isSure_164 (by decide) ?_
              refine lv_istore_n (lv' := [(3, .int (nI 1)), (2, .int (nI (d - 1))), (4, .int (nI k)), (0, .ref a_mod), (1, .int (nI S))]) hx hb d_Mod_isSure_168 rfl hl (by decide) rfl (fun ls hl => ?_)
              refine lv_iinc (v := nI (k + 1)) (lv' := [(4, .int (nI (k + 1))), (3, .int (nI 1)), (2, .int (nI (d - 1))), (0, .ref a_mod), (1, .int (nI S))]) hx hb d_Mod_isSure_169 hl (k := 2) rfl (k_inc _ 1) (by decide) rfl (fun ls hl => ?_)
              refine lv_goto (tgt := 7) hx hb d_Mod_isSure_172 (by decide) ?_
              have hI_8 : (∀ j, B1 j < 2786) ∧ (∀ j, F1 j < 2786) ∧ (∀ j, U1 j < 2) ∧ ((k + 1) ≤ mMs) ∧ (SI mSo Su S (k + 1) 1 (d - 1) B1 F1 U1) := ⟨b_B1, b_F1, b_U1, (by omega), (SI_3 hSI c124 hd1 (by omega))⟩
              exact ih_2 (d - 1, 1, k + 1, B1, F1, U1) hI_8 (show mMs - (k + 1) < mMs - k from by omega) _ _ _ hP hD hS (lv_sub hl [0, 1, 2, 3, 4] rfl)
            · skip
              have c137 : ¬ ((B1 (d - 1)) = 1) := fun h => c137 ((nI_eq (by omega) (by omega)).mpr h)
              refine lv_aload_n hx hb d_Mod_isSure_140 rfl (lv_at hl 3 rfl) ?_
              refine va_get (D := (dC, dI)) (ci := 6) (v := .ref a_mturned) (C := R_Mod) (T := F_Mod) (N := 27) hx hb hts (wi i_Mod) hown hK hP 0 rfl rfl 26 (by decide) (hts _ (mt 568 rfl rfl)) (fun _ h9 => h9) rfl d_Mod_isSure_141 ?_
              refine lv_iload_n hx hb d_Mod_isSure_144 rfl (lv_at hl 0 rfl) ?_
              refine k_zld hx hb hK hP 5 1 rfl rfl (by omega) (by decide) d_Mod_isSure_145 ?_
              have hb_9 := b_U1 (d - 1)
              refine lv_if_eq (tgt := 167) hx hb d_Mod_isSure_146 (by decide) (fun c146 => ?_) (fun c146 => ?_)
              · skip
                have c146 : (U1 (d - 1)) = 0 := (nI_eq0 (by omega)).mp c146
                refine lv_iconst (v := nI 0) hx hb d_Mod_isSure_167 rfl ?_
                refine lv_istore_n (lv' := [(3, .int (nI 0)), (2, .int (nI (d - 1))), (4, .int (nI k)), (0, .ref a_mod), (1, .int (nI S))]) hx hb d_Mod_isSure_168 rfl hl (by decide) rfl (fun ls hl => ?_)
                refine lv_iinc (v := nI (k + 1)) (lv' := [(4, .int (nI (k + 1))), (3, .int (nI 0)), (2, .int (nI (d - 1))), (0, .ref a_mod), (1, .int (nI S))]) hx hb d_Mod_isSure_169 hl (k := 2) rfl (k_inc _ 1) (by decide) rfl (fun ls hl => ?_)
                refine lv_goto (tgt := 7) hx hb d_Mod_isSure_172 (by decide) ?_
                have hI_10 : (∀ j, B1 j < 2786) ∧ (∀ j, F1 j < 2786) ∧ (∀ j, U1 j < 2) ∧ ((k + 1) ≤ mMs) ∧ (SI mSo Su S (k + 1) 0 (d - 1) B1 F1 U1) := ⟨b_B1, b_F1, b_U1, (by omega), (SI_3 hSI c124 hd1 (by omega))⟩
                exact ih_2 (d - 1, 0, k + 1, B1, F1, U1) hI_10 (show mMs - (k + 1) < mMs - k from by omega) _ _ _ hP hD hS (lv_sub hl [0, 1, 2, 3, 4] rfl)
              · skip
                have c146 : ¬ ((U1 (d - 1)) = 0) := fun h => c146 ((nI_eq0 (by omega)).mpr h)
                refine lv_aload_n hx hb d_Mod_isSure_149 rfl (lv_at hl 3 rfl) ?_
                refine va_get (D := (dC, dI)) (ci := 6) (v := .ref a_mfirst) (C := R_Mod) (T := F_Mod) (N := 27) hx hb hts (wi i_Mod) hown hK hP 0 rfl rfl 25 (by decide) (hts _ (mt 567 rfl rfl)) (fun _ h9 => h9) rfl d_Mod_isSure_150 ?_
                refine lv_iload_n hx hb d_Mod_isSure_153 rfl (lv_at hl 0 rfl) ?_
                refine k_ild hx hb hK hP 4 0 rfl rfl (by omega) (by decide) d_Mod_isSure_154 ?_
                have hb_11 := b_F1 (d - 1)
                refine lv_iconst (v := nI 1) hx hb d_Mod_isSure_155 rfl ?_
                refine lv_icmp_ne (tgt := 167) hx hb d_Mod_isSure_156 (by decide) (fun c156 => ?_) (fun c156 => ?_)
                · skip
                  have c156 : ¬ ((F1 (d - 1)) = 1) := fun h => c156 ((nI_eq (by omega) (by omega)).mpr h)
                  refine lv_iconst (v := nI 0) hx hb d_Mod_isSure_167 rfl ?_
                  refine lv_istore_n (lv' := [(3, .int (nI 0)), (2, .int (nI (d - 1))), (4, .int (nI k)), (0, .ref a_mod), (1, .int (nI S))]) hx hb d_Mod_isSure_168 rfl hl (by decide) rfl (fun ls hl => ?_)
                  refine lv_iinc (v := nI (k + 1)) (lv' := [(4, .int (nI (k + 1))), (3, .int (nI 0)), (2, .int (nI (d - 1))), (0, .ref a_mod), (1, .int (nI S))]) hx hb d_Mod_isSure_169 hl (k := 2) rfl (k_inc _ 1) (by decide) rfl (fun ls hl => ?_)
                  refine lv_goto (tgt := 7) hx hb d_Mod_isSure_172 (by decide) ?_
                  have hI_12 : (∀ j, B1 j < 2786) ∧ (∀ j, F1 j < 2786) ∧ (∀ j, U1 j < 2) ∧ ((k + 1) ≤ mMs) ∧ (SI mSo Su S (k + 1) 0 (d - 1) B1 F1 U1) := ⟨b_B1, b_F1, b_U1, (by omega), (SI_3 hSI c124 hd1 (by omega))⟩
                  exact ih_2 (d - 1, 0, k + 1, B1, F1, U1) hI_12 (show mMs - (k + 1) < mMs - k from by omega) _ _ _ hP hD hS (lv_sub hl [0, 1, 2, 3, 4] rfl)
                · skip
                  have c156 : (F1 (d - 1)) = 1 := (nI_eq (by omega) (by omega)).mp c156
                  refine lv_iload_n hx hb d_Mod_isSure_159 rfl (lv_at hl 2 rfl) ?_
                  refine lv_if_eq (tgt := 167) hx hb d_Mod_isSure_160 (by decide) (fun c160 => ?_) (fun c160 => ?_)
                  · skip
                    have c160 : v = 0 := (nI_eq0 (by omega)).mp c160
                    refine lv_iconst (v := nI 0) hx hb d_Mod_isSure_167 rfl ?_
                    refine lv_istore_n (lv' := [(3, .int (nI 0)), (2, .int (nI (d - 1))), (4, .int (nI k)), (0, .ref a_mod), (1, .int (nI S))]) hx hb d_Mod_isSure_168 rfl hl (by decide) rfl (fun ls hl => ?_)
                    refine lv_iinc (v := nI (k + 1)) (lv' := [(4, .int (nI (k + 1))), (3, .int (nI 0)), (2, .int (nI (d - 1))), (0, .ref a_mod), (1, .int (nI S))]) hx hb d_Mod_isSure_169 hl (k := 2) rfl (k_inc _ 1) (by decide) rfl (fun ls hl => ?_)
                    refine lv_goto (tgt := 7) hx hb d_Mod_isSure_172 (by decide) ?_
                    have hI_13 : (∀ j, B1 j < 2786) ∧ (∀ j, F1 j < 2786) ∧ (∀ j, U1 j < 2) ∧ ((k + 1) ≤ mMs) ∧ (SI mSo Su S (k + 1) 0 (d - 1) B1 F1 U1) := ⟨b_B1, b_F1, b_U1, (by omega), (SI_3 hSI c124 hd1 (by omega))⟩
                    exact ih_2 (d - 1, 0, k + 1, B1, F1, U1) hI_13 (show mMs - (k + 1) < mMs - k from by omega) _ _ _ hP hD hS (lv_sub hl [0, 1, 2, 3, 4] rfl)
                  · skip
                    have c160 : ¬ (v = 0) := fun h => c160 ((nI_eq0 (by omega)).mpr h)
                    refine lv_iconst (v := nI 1) hx hb d_Mod_isSure_163 rfl ?_
                    refine lv_goto (tgt := 168) hx hb d_Mod_isSure_164 (by decide) ?_
                    refine lv_istore_n (lv' := [(3, .int (nI 1)), (2, .int (nI (d - 1))), (4, .int (nI k)), (0, .ref a_mod), (1, .int (nI S))]) hx hb d_Mod_isSure_168 rfl hl (by decide) rfl (fun ls hl => ?_)
                    refine lv_iinc (v := nI (k + 1)) (lv' := [(4, .int (nI (k + 1))), (3, .int (nI 1)), (2, .int (nI (d - 1))), (0, .ref a_mod), (1, .int (nI S))]) hx hb d_Mod_isSure_169 hl (k := 2) rfl (k_inc _ 1) (by decide) rfl (fun ls hl => ?_)
                    refine lv_goto (tgt := 7) hx hb d_Mod_isSure_172 (by decide) ?_
                    have hI_14 : (∀ j, B1 j < 2786) ∧ (∀ j, F1 j < 2786) ∧ (∀ j, U1 j < 2) ∧ ((k + 1) ≤ mMs) ∧ (SI mSo Su S (k + 1) 1 (d - 1) B1 F1 U1) := ⟨b_B1, b_F1, b_U1, (by omega), (SI_3 hSI c124 hd1 (by omega))⟩
                    exact ih_2 (d - 1, 1, k + 1, B1, F1, U1) hI_14 (show mMs - (k + 1) < mMs - k from by omega) _ _ _ hP hD hS (lv_sub hl [0, 1, 2, 3, 4] rfl)
        · skip
          have c85 : (mSo k) = 2 := (nI_eq (by omega) (by omega)).mp c85
          have g2 := g1.2.2 c85
          have hd1 : 0 < d := by omega
          refine lv_aload_n hx hb d_Mod_isSure_88 rfl (lv_at hl 3 rfl) ?_
          refine va_get (D := (dC, dI)) (ci := 6) (v := .ref a_mfirst) (C := R_Mod) (T := F_Mod) (N := 27) hx hb hts (wi i_Mod) hown hK hP 0 rfl rfl 25 (by decide) (hts _ (mt 567 rfl rfl)) (fun _ h9 => h9) rfl d_Mod_isSure_89 ?_
          refine lv_iload_n hx hb d_Mod_isSure_92 rfl (lv_at hl 2 rfl) ?_
          refine lv_iconst (v := nI 1) hx hb d_Mod_isSure_93 rfl ?_
          refine lv_isub hx hb d_Mod_isSure_94 ?_
          refine k_top (pk_sub (by omega)) ?_
          refine lv_iload_n hx hb d_Mod_isSure_95 rfl (lv_at hl 1 rfl) ?_
          refine lv_if_eq (tgt := 103) hx hb d_Mod_isSure_96 (by decide) (fun c96 => ?_) (fun c96 => ?_)
          · skip
            have c96 : v = 0 := (nI_eq0 (by omega)).mp c96
            refine lv_iconst (v := nI 0) hx hb d_Mod_isSure_103 rfl ?_
            refine k_ist hx hb hK hP hD hS 4 0 rfl rfl (by omega) (by decide) d_Mod_isSure_104 (fun H locs hP hD hS => ?_)
            have bb_15 : ∀ j, upN F1 (d - 1) 0 j < 2786 := upN_lt b_F1 (by omega)
            have hP : va_P (dC, dI) classes [(a_mod, .inr (6, [.ref a_mkind, .ref a_mwidth, .ref a_mreset, .ref a_mop, .ref a_mka, .ref a_mkb, .ref a_mkc, .ref a_mheld, .int (nI mN), .ref a_msort, .ref a_mof, .ref a_mfrom, .int (nI mMs), .ref a_mbit, .ref a_mdone, .ref a_mrests, .ref a_mxx, .ref a_myy, .ref a_mdepth, .ref a_mone, .int (nI mG), .int (nI mCk), .int mFw, .int (nI mRd), .ref a_mbefore, .ref a_mfirst, .ref a_mturned])), (a_msort, .inl (cI, 20, .inl (nF mSo))), (a_mof, .inl (cI, 20, .inl mOf)), (a_mbefore, .inl (cI, 6, .inl (nF B1))), (a_mfirst, .inl (cI, 6, .inl (nF (upN F1 (d - 1) 0)))), (a_mturned, .inl (cZ, 6, .inl (nF U1)))] H := hP
            have hD : va_D A [(a_mod, .inr (6, [.ref a_mkind, .ref a_mwidth, .ref a_mreset, .ref a_mop, .ref a_mka, .ref a_mkb, .ref a_mkc, .ref a_mheld, .int (nI mN), .ref a_msort, .ref a_mof, .ref a_mfrom, .int (nI mMs), .ref a_mbit, .ref a_mdone, .ref a_mrests, .ref a_mxx, .ref a_myy, .ref a_mdepth, .ref a_mone, .int (nI mG), .int (nI mCk), .int mFw, .int (nI mRd), .ref a_mbefore, .ref a_mfirst, .ref a_mturned])), (a_msort, .inl (cI, 20, .inl (nF mSo))), (a_mof, .inl (cI, 20, .inl mOf)), (a_mbefore, .inl (cI, 6, .inl (nF B1))), (a_mfirst, .inl (cI, 6, .inl (nF (upN F1 (d - 1) 0)))), (a_mturned, .inl (cZ, 6, .inl (nF U1)))] := hD
            refine lv_aload_n hx hb d_Mod_isSure_105 rfl (lv_at hl 3 rfl) ?_
            refine va_get (D := (dC, dI)) (ci := 6) (v := .ref a_mturned) (C := R_Mod) (T := F_Mod) (N := 27) hx hb hts (wi i_Mod) hown hK hP 0 rfl rfl 26 (by decide) (hts _ (mt 568 rfl rfl)) (fun _ h9 => h9) rfl d_Mod_isSure_106 ?_
            refine lv_iload_n hx hb d_Mod_isSure_109 rfl (lv_at hl 2 rfl) ?_
            refine lv_iconst (v := nI 1) hx hb d_Mod_isSure_110 rfl ?_
            refine lv_isub hx hb d_Mod_isSure_111 ?_
            refine k_top (pk_sub (by omega)) ?_
            refine lv_iconst (v := nI 1) hx hb d_Mod_isSure_112 rfl ?_
            refine k_zst hx hb hK hP hD hS 5 1 rfl rfl (by omega) (by decide) (by omega) d_Mod_isSure_113 (fun H locs hP hD hS => ?_)
            have bb_16 : ∀ j, upN U1 (d - 1) 1 j < 2 := upN_lt b_U1 (by omega)
            have hP : va_P (dC, dI) classes [(a_mod, .inr (6, [.ref a_mkind, .ref a_mwidth, .ref a_mreset, .ref a_mop, .ref a_mka, .ref a_mkb, .ref a_mkc, .ref a_mheld, .int (nI mN), .ref a_msort, .ref a_mof, .ref a_mfrom, .int (nI mMs), .ref a_mbit, .ref a_mdone, .ref a_mrests, .ref a_mxx, .ref a_myy, .ref a_mdepth, .ref a_mone, .int (nI mG), .int (nI mCk), .int mFw, .int (nI mRd), .ref a_mbefore, .ref a_mfirst, .ref a_mturned])), (a_msort, .inl (cI, 20, .inl (nF mSo))), (a_mof, .inl (cI, 20, .inl mOf)), (a_mbefore, .inl (cI, 6, .inl (nF B1))), (a_mfirst, .inl (cI, 6, .inl (nF (upN F1 (d - 1) 0)))), (a_mturned, .inl (cZ, 6, .inl (nF (upN U1 (d - 1) 1))))] H := hP
            have hD : va_D A [(a_mod, .inr (6, [.ref a_mkind, .ref a_mwidth, .ref a_mreset, .ref a_mop, .ref a_mka, .ref a_mkb, .ref a_mkc, .ref a_mheld, .int (nI mN), .ref a_msort, .ref a_mof, .ref a_mfrom, .int (nI mMs), .ref a_mbit, .ref a_mdone, .ref a_mrests, .ref a_mxx, .ref a_myy, .ref a_mdepth, .ref a_mone, .int (nI mG), .int (nI mCk), .int mFw, .int (nI mRd), .ref a_mbefore, .ref a_mfirst, .ref a_mturned])), (a_msort, .inl (cI, 20, .inl (nF mSo))), (a_mof, .inl (cI, 20, .inl mOf)), (a_mbefore, .inl (cI, 6, .inl (nF B1))), (a_mfirst, .inl (cI, 6, .inl (nF (upN F1 (d - 1) 0)))), (a_mturned, .inl (cZ, 6, .inl (nF (upN U1 (d - 1) 1))))] := hD
            refine lv_iconst (v := nI 0) hx hb d_Mod_isSure_114 rfl ?_
            refine lv_istore_n (lv' := [(3, .int (nI 0)), (4, .int (nI k)), (2, .int (nI d)), (0, .ref a_mod), (1, .int (nI S))]) hx hb d_Mod_isSure_115 rfl hl (by decide) rfl (fun ls hl => ?_)
            refine lv_aload_n hx hb d_Mod_isSure_116 rfl (lv_at hl 3 rfl) ?_
            refine va_get (D := (dC, dI)) (ci := 6) (v := .ref a_msort) (C := R_Mod) (T := F_Mod) (N := 27) hx hb hts (wi i_Mod) hown hK hP 0 rfl rfl 9 (by decide) (hts _ (mt 551 rfl rfl)) (fun _ h9 => h9) rfl d_Mod_isSure_117 ?_
            refine lv_iload hx hb d_Mod_isSure_120 (lv_at hl 1 rfl) ?_
            refine k_ild hx hb hK hP 1 0 rfl rfl (by omega) (by decide) d_Mod_isSure_122 ?_
            have hb_17 := b_mSo k
            refine lv_iconst (v := nI 3) hx hb d_Mod_isSure_123 rfl ?_
            refine lv_icmp_ne (tgt := 169) hx hb d_Mod_isSure_124 (by decide) (fun c124 => ?_) (fun c124 => ?_)
            · skip
              have c124 : ¬ ((mSo k) = 3) := fun h => c124 ((nI_eq (by omega) (by omega)).mpr h)
              refine lv_iinc (v := nI (k + 1)) (lv' := [(4, .int (nI (k + 1))), (3, .int (nI 0)), (2, .int (nI d)), (0, .ref a_mod), (1, .int (nI S))]) hx hb d_Mod_isSure_169 hl (k := 1) rfl (k_inc _ 1) (by decide) rfl (fun ls hl => ?_)
              refine lv_goto (tgt := 7) hx hb d_Mod_isSure_172 (by decide) ?_
              have hI_18 : (∀ j, B1 j < 2786) ∧ (∀ j, (upN F1 (d - 1) 0) j < 2786) ∧ (∀ j, (upN U1 (d - 1) 1) j < 2) ∧ ((k + 1) ≤ mMs) ∧ (SI mSo Su S (k + 1) 0 d B1 (upN F1 (d - 1) 0) (upN U1 (d - 1) 1)) := ⟨b_B1, bb_15, bb_16, (by omega), (SI_2 hSI c85 (by omega) hd1)⟩
              exact ih_2 (d, 0, k + 1, B1, upN F1 (d - 1) 0, upN U1 (d - 1) 1) hI_18 (show mMs - (k + 1) < mMs - k from by omega) _ _ _ hP hD hS (lv_sub hl [0, 1, 2, 3, 4] rfl)
            · skip
              have c124 : (mSo k) = 3 := (nI_eq (by omega) (by omega)).mp c124
              omega
          · skip
            have c96 : ¬ (v = 0) := fun h => c96 ((nI_eq0 (by omega)).mpr h)
            refine lv_iconst (v := nI 1) hx hb d_Mod_isSure_99 rfl ?_
            refine lv_goto (tgt := 104) hx hb d_Mod_isSure_100 (by decide) ?_
            refine k_ist hx hb hK hP hD hS 4 0 rfl rfl (by omega) (by decide) d_Mod_isSure_104 (fun H locs hP hD hS => ?_)
            have bb_19 : ∀ j, upN F1 (d - 1) 1 j < 2786 := upN_lt b_F1 (by omega)
            have hP : va_P (dC, dI) classes [(a_mod, .inr (6, [.ref a_mkind, .ref a_mwidth, .ref a_mreset, .ref a_mop, .ref a_mka, .ref a_mkb, .ref a_mkc, .ref a_mheld, .int (nI mN), .ref a_msort, .ref a_mof, .ref a_mfrom, .int (nI mMs), .ref a_mbit, .ref a_mdone, .ref a_mrests, .ref a_mxx, .ref a_myy, .ref a_mdepth, .ref a_mone, .int (nI mG), .int (nI mCk), .int mFw, .int (nI mRd), .ref a_mbefore, .ref a_mfirst, .ref a_mturned])), (a_msort, .inl (cI, 20, .inl (nF mSo))), (a_mof, .inl (cI, 20, .inl mOf)), (a_mbefore, .inl (cI, 6, .inl (nF B1))), (a_mfirst, .inl (cI, 6, .inl (nF (upN F1 (d - 1) 1)))), (a_mturned, .inl (cZ, 6, .inl (nF U1)))] H := hP
            have hD : va_D A [(a_mod, .inr (6, [.ref a_mkind, .ref a_mwidth, .ref a_mreset, .ref a_mop, .ref a_mka, .ref a_mkb, .ref a_mkc, .ref a_mheld, .int (nI mN), .ref a_msort, .ref a_mof, .ref a_mfrom, .int (nI mMs), .ref a_mbit, .ref a_mdone, .ref a_mrests, .ref a_mxx, .ref a_myy, .ref a_mdepth, .ref a_mone, .int (nI mG), .int (nI mCk), .int mFw, .int (nI mRd), .ref a_mbefore, .ref a_mfirst, .ref a_mturned])), (a_msort, .inl (cI, 20, .inl (nF mSo))), (a_mof, .inl (cI, 20, .inl mOf)), (a_mbefore, .inl (cI, 6, .inl (nF B1))), (a_mfirst, .inl (cI, 6, .inl (nF (upN F1 (d - 1) 1)))), (a_mturned, .inl (cZ, 6, .inl (nF U1)))] := hD
            refine lv_aload_n hx hb d_Mod_isSure_105 rfl (lv_at hl 3 rfl) ?_
            refine va_get (D := (dC, dI)) (ci := 6) (v := .ref a_mturned) (C := R_Mod) (T := F_Mod) (N := 27) hx hb hts (wi i_Mod) hown hK hP 0 rfl rfl 26 (by decide) (hts _ (mt 568 rfl rfl)) (fun _ h9 => h9) rfl d_Mod_isSure_106 ?_
            refine lv_iload_n hx hb d_Mod_isSure_109 rfl (lv_at hl 2 rfl) ?_
            refine lv_iconst (v := nI 1) hx hb d_Mod_isSure_110 rfl ?_
            refine lv_isub hx hb d_Mod_isSure_111 ?_
            refine k_top (pk_sub (by omega)) ?_
            refine lv_iconst (v := nI 1) hx hb d_Mod_isSure_112 rfl ?_
            refine k_zst hx hb hK hP hD hS 5 1 rfl rfl (by omega) (by decide) (by omega) d_Mod_isSure_113 (fun H locs hP hD hS => ?_)
            have bb_20 : ∀ j, upN U1 (d - 1) 1 j < 2 := upN_lt b_U1 (by omega)
            have hP : va_P (dC, dI) classes [(a_mod, .inr (6, [.ref a_mkind, .ref a_mwidth, .ref a_mreset, .ref a_mop, .ref a_mka, .ref a_mkb, .ref a_mkc, .ref a_mheld, .int (nI mN), .ref a_msort, .ref a_mof, .ref a_mfrom, .int (nI mMs), .ref a_mbit, .ref a_mdone, .ref a_mrests, .ref a_mxx, .ref a_myy, .ref a_mdepth, .ref a_mone, .int (nI mG), .int (nI mCk), .int mFw, .int (nI mRd), .ref a_mbefore, .ref a_mfirst, .ref a_mturned])), (a_msort, .inl (cI, 20, .inl (nF mSo))), (a_mof, .inl (cI, 20, .inl mOf)), (a_mbefore, .inl (cI, 6, .inl (nF B1))), (a_mfirst, .inl (cI, 6, .inl (nF (upN F1 (d - 1) 1)))), (a_mturned, .inl (cZ, 6, .inl (nF (upN U1 (d - 1) 1))))] H := hP
            have hD : va_D A [(a_mod, .inr (6, [.ref a_mkind, .ref a_mwidth, .ref a_mreset, .ref a_mop, .ref a_mka, .ref a_mkb, .ref a_mkc, .ref a_mheld, .int (nI mN), .ref a_msort, .ref a_mof, .ref a_mfrom, .int (nI mMs), .ref a_mbit, .ref a_mdone, .ref a_mrests, .ref a_mxx, .ref a_myy, .ref a_mdepth, .ref a_mone, .int (nI mG), .int (nI mCk), .int mFw, .int (nI mRd), .ref a_mbefore, .ref a_mfirst, .ref a_mturned])), (a_msort, .inl (cI, 20, .inl (nF mSo))), (a_mof, .inl (cI, 20, .inl mOf)), (a_mbefore, .inl (cI, 6, .inl (nF B1))), (a_mfirst, .inl (cI, 6, .inl (nF (upN F1 (d - 1) 1)))), (a_mturned, .inl (cZ, 6, .inl (nF (upN U1 (d - 1) 1))))] := hD
            refine lv_iconst (v := nI 0) hx hb d_Mod_isSure_114 rfl ?_
            refine lv_istore_n (lv' := [(3, .int (nI 0)), (4, .int (nI k)), (2, .int (nI d)), (0, .ref a_mod), (1, .int (nI S))]) hx hb d_Mod_isSure_115 rfl hl (by decide) rfl (fun ls hl => ?_)
            refine lv_aload_n hx hb d_Mod_isSure_116 rfl (lv_at hl 3 rfl) ?_
            refine va_get (D := (dC, dI)) (ci := 6) (v := .ref a_msort) (C := R_Mod) (T := F_Mod) (N := 27) hx hb hts (wi i_Mod) hown hK hP 0 rfl rfl 9 (by decide) (hts _ (mt 551 rfl rfl)) (fun _ h9 => h9) rfl d_Mod_isSure_117 ?_
            refine lv_iload hx hb d_Mod_isSure_120 (lv_at hl 1 rfl) ?_
            refine k_ild hx hb hK hP 1 0 rfl rfl (by omega) (by decide) d_Mod_isSure_122 ?_
            have hb_21 := b_mSo k
            refine lv_iconst (v := nI 3) hx hb d_Mod_isSure_123 rfl ?_
            refine lv_icmp_ne (tgt := 169) hx hb d_Mod_isSure_124 (by decide) (fun c124 => ?_) (fun c124 => ?_)
            · skip
              have c124 : ¬ ((mSo k) = 3) := fun h => c124 ((nI_eq (by omega) (by omega)).mpr h)
              refine lv_iinc (v := nI (k + 1)) (lv' := [(4, .int (nI (k + 1))), (3, .int (nI 0)), (2, .int (nI d)), (0, .ref a_mod), (1, .int (nI S))]) hx hb d_Mod_isSure_169 hl (k := 1) rfl (k_inc _ 1) (by decide) rfl (fun ls hl => ?_)
              refine lv_goto (tgt := 7) hx hb d_Mod_isSure_172 (by decide) ?_
              have hI_22 : (∀ j, B1 j < 2786) ∧ (∀ j, (upN F1 (d - 1) 1) j < 2786) ∧ (∀ j, (upN U1 (d - 1) 1) j < 2) ∧ ((k + 1) ≤ mMs) ∧ (SI mSo Su S (k + 1) 0 d B1 (upN F1 (d - 1) 1) (upN U1 (d - 1) 1)) := ⟨b_B1, bb_19, bb_20, (by omega), (SI_2 hSI c85 (by omega) hd1)⟩
              exact ih_2 (d, 0, k + 1, B1, upN F1 (d - 1) 1, upN U1 (d - 1) 1) hI_22 (show mMs - (k + 1) < mMs - k from by omega) _ _ _ hP hD hS (lv_sub hl [0, 1, 2, 3, 4] rfl)
            · skip
              have c124 : (mSo k) = 3 := (nI_eq (by omega) (by omega)).mp c124
              omega
      · skip
        have c47 : (mSo k) = 1 := (nI_eq (by omega) (by omega)).mp c47
        have g2 := g1.1 c47
        refine lv_aload_n hx hb d_Mod_isSure_50 rfl (lv_at hl 3 rfl) ?_
        refine va_get (D := (dC, dI)) (ci := 6) (v := .ref a_mbefore) (C := R_Mod) (T := F_Mod) (N := 27) hx hb hts (wi i_Mod) hown hK hP 0 rfl rfl 24 (by decide) (hts _ (mt 566 rfl rfl)) (fun _ h9 => h9) rfl d_Mod_isSure_51 ?_
        refine lv_iload_n hx hb d_Mod_isSure_54 rfl (lv_at hl 2 rfl) ?_
        refine lv_iload_n hx hb d_Mod_isSure_55 rfl (lv_at hl 1 rfl) ?_
        refine lv_if_eq (tgt := 63) hx hb d_Mod_isSure_56 (by decide) (fun c56 => ?_) (fun c56 => ?_)
        · skip
          have c56 : v = 0 := (nI_eq0 (by omega)).mp c56
          refine lv_iconst (v := nI 0) hx hb d_Mod_isSure_63 rfl ?_
          refine k_ist hx hb hK hP hD hS 3 0 rfl rfl (by omega) (by decide) d_Mod_isSure_64 (fun H locs hP hD hS => ?_)
          have bb_23 : ∀ j, upN B1 d 0 j < 2786 := upN_lt b_B1 (by omega)
          have hP : va_P (dC, dI) classes [(a_mod, .inr (6, [.ref a_mkind, .ref a_mwidth, .ref a_mreset, .ref a_mop, .ref a_mka, .ref a_mkb, .ref a_mkc, .ref a_mheld, .int (nI mN), .ref a_msort, .ref a_mof, .ref a_mfrom, .int (nI mMs), .ref a_mbit, .ref a_mdone, .ref a_mrests, .ref a_mxx, .ref a_myy, .ref a_mdepth, .ref a_mone, .int (nI mG), .int (nI mCk), .int mFw, .int (nI mRd), .ref a_mbefore, .ref a_mfirst, .ref a_mturned])), (a_msort, .inl (cI, 20, .inl (nF mSo))), (a_mof, .inl (cI, 20, .inl mOf)), (a_mbefore, .inl (cI, 6, .inl (nF (upN B1 d 0)))), (a_mfirst, .inl (cI, 6, .inl (nF F1))), (a_mturned, .inl (cZ, 6, .inl (nF U1)))] H := hP
          have hD : va_D A [(a_mod, .inr (6, [.ref a_mkind, .ref a_mwidth, .ref a_mreset, .ref a_mop, .ref a_mka, .ref a_mkb, .ref a_mkc, .ref a_mheld, .int (nI mN), .ref a_msort, .ref a_mof, .ref a_mfrom, .int (nI mMs), .ref a_mbit, .ref a_mdone, .ref a_mrests, .ref a_mxx, .ref a_myy, .ref a_mdepth, .ref a_mone, .int (nI mG), .int (nI mCk), .int mFw, .int (nI mRd), .ref a_mbefore, .ref a_mfirst, .ref a_mturned])), (a_msort, .inl (cI, 20, .inl (nF mSo))), (a_mof, .inl (cI, 20, .inl mOf)), (a_mbefore, .inl (cI, 6, .inl (nF (upN B1 d 0)))), (a_mfirst, .inl (cI, 6, .inl (nF F1))), (a_mturned, .inl (cZ, 6, .inl (nF U1)))] := hD
          refine lv_aload_n hx hb d_Mod_isSure_65 rfl (lv_at hl 3 rfl) ?_
          refine va_get (D := (dC, dI)) (ci := 6) (v := .ref a_mturned) (C := R_Mod) (T := F_Mod) (N := 27) hx hb hts (wi i_Mod) hown hK hP 0 rfl rfl 26 (by decide) (hts _ (mt 568 rfl rfl)) (fun _ h9 => h9) rfl d_Mod_isSure_66 ?_
          refine lv_iload_n hx hb d_Mod_isSure_69 rfl (lv_at hl 2 rfl) ?_
          refine lv_iconst (v := nI 0) hx hb d_Mod_isSure_70 rfl ?_
          refine k_zst hx hb hK hP hD hS 5 1 rfl rfl (by omega) (by decide) (by omega) d_Mod_isSure_71 (fun H locs hP hD hS => ?_)
          have bb_24 : ∀ j, upN U1 d 0 j < 2 := upN_lt b_U1 (by omega)
          have hP : va_P (dC, dI) classes [(a_mod, .inr (6, [.ref a_mkind, .ref a_mwidth, .ref a_mreset, .ref a_mop, .ref a_mka, .ref a_mkb, .ref a_mkc, .ref a_mheld, .int (nI mN), .ref a_msort, .ref a_mof, .ref a_mfrom, .int (nI mMs), .ref a_mbit, .ref a_mdone, .ref a_mrests, .ref a_mxx, .ref a_myy, .ref a_mdepth, .ref a_mone, .int (nI mG), .int (nI mCk), .int mFw, .int (nI mRd), .ref a_mbefore, .ref a_mfirst, .ref a_mturned])), (a_msort, .inl (cI, 20, .inl (nF mSo))), (a_mof, .inl (cI, 20, .inl mOf)), (a_mbefore, .inl (cI, 6, .inl (nF (upN B1 d 0)))), (a_mfirst, .inl (cI, 6, .inl (nF F1))), (a_mturned, .inl (cZ, 6, .inl (nF (upN U1 d 0))))] H := hP
          have hD : va_D A [(a_mod, .inr (6, [.ref a_mkind, .ref a_mwidth, .ref a_mreset, .ref a_mop, .ref a_mka, .ref a_mkb, .ref a_mkc, .ref a_mheld, .int (nI mN), .ref a_msort, .ref a_mof, .ref a_mfrom, .int (nI mMs), .ref a_mbit, .ref a_mdone, .ref a_mrests, .ref a_mxx, .ref a_myy, .ref a_mdepth, .ref a_mone, .int (nI mG), .int (nI mCk), .int mFw, .int (nI mRd), .ref a_mbefore, .ref a_mfirst, .ref a_mturned])), (a_msort, .inl (cI, 20, .inl (nF mSo))), (a_mof, .inl (cI, 20, .inl mOf)), (a_mbefore, .inl (cI, 6, .inl (nF (upN B1 d 0)))), (a_mfirst, .inl (cI, 6, .inl (nF F1))), (a_mturned, .inl (cZ, 6, .inl (nF (upN U1 d 0))))] := hD
          refine lv_iconst (v := nI 0) hx hb d_Mod_isSure_72 rfl ?_
          refine lv_istore_n (lv' := [(3, .int (nI 0)), (4, .int (nI k)), (2, .int (nI d)), (0, .ref a_mod), (1, .int (nI S))]) hx hb d_Mod_isSure_73 rfl hl (by decide) rfl (fun ls hl => ?_)
          refine lv_iinc (v := nI (d + 1)) (lv' := [(2, .int (nI (d + 1))), (3, .int (nI 0)), (4, .int (nI k)), (0, .ref a_mod), (1, .int (nI S))]) hx hb d_Mod_isSure_74 hl (k := 2) rfl (k_inc _ 1) (by decide) rfl (fun ls hl => ?_)
          refine lv_aload_n hx hb d_Mod_isSure_77 rfl (lv_at hl 3 rfl) ?_
          refine va_get (D := (dC, dI)) (ci := 6) (v := .ref a_msort) (C := R_Mod) (T := F_Mod) (N := 27) hx hb hts (wi i_Mod) hown hK hP 0 rfl rfl 9 (by decide) (hts _ (mt 551 rfl rfl)) (fun _ h9 => h9) rfl d_Mod_isSure_78 ?_
          refine lv_iload hx hb d_Mod_isSure_81 (lv_at hl 2 rfl) ?_
          refine k_ild hx hb hK hP 1 0 rfl rfl (by omega) (by decide) d_Mod_isSure_83 ?_
          have hb_25 := b_mSo k
          refine lv_iconst (v := nI 2) hx hb d_Mod_isSure_84 rfl ?_
          refine lv_icmp_ne (tgt := 116) hx hb d_Mod_isSure_85 (by decide) (fun c85 => ?_) (fun c85 => ?_)
          · skip
            have c85 : ¬ ((mSo k) = 2) := fun h => c85 ((nI_eq (by omega) (by omega)).mpr h)
            refine lv_aload_n hx hb d_Mod_isSure_116 rfl (lv_at hl 3 rfl) ?_
            refine va_get (D := (dC, dI)) (ci := 6) (v := .ref a_msort) (C := R_Mod) (T := F_Mod) (N := 27) hx hb hts (wi i_Mod) hown hK hP 0 rfl rfl 9 (by decide) (hts _ (mt 551 rfl rfl)) (fun _ h9 => h9) rfl d_Mod_isSure_117 ?_
            refine lv_iload hx hb d_Mod_isSure_120 (lv_at hl 2 rfl) ?_
            refine k_ild hx hb hK hP 1 0 rfl rfl (by omega) (by decide) d_Mod_isSure_122 ?_
            have hb_26 := b_mSo k
            refine lv_iconst (v := nI 3) hx hb d_Mod_isSure_123 rfl ?_
            refine lv_icmp_ne (tgt := 169) hx hb d_Mod_isSure_124 (by decide) (fun c124 => ?_) (fun c124 => ?_)
            · skip
              have c124 : ¬ ((mSo k) = 3) := fun h => c124 ((nI_eq (by omega) (by omega)).mpr h)
              refine lv_iinc (v := nI (k + 1)) (lv' := [(4, .int (nI (k + 1))), (2, .int (nI (d + 1))), (3, .int (nI 0)), (0, .ref a_mod), (1, .int (nI S))]) hx hb d_Mod_isSure_169 hl (k := 2) rfl (k_inc _ 1) (by decide) rfl (fun ls hl => ?_)
              refine lv_goto (tgt := 7) hx hb d_Mod_isSure_172 (by decide) ?_
              have hI_27 : (∀ j, (upN B1 d 0) j < 2786) ∧ (∀ j, F1 j < 2786) ∧ (∀ j, (upN U1 d 0) j < 2) ∧ ((k + 1) ≤ mMs) ∧ (SI mSo Su S (k + 1) 0 (d + 1) (upN B1 d 0) F1 (upN U1 d 0)) := ⟨bb_23, b_F1, bb_24, (by omega), (SI_1 hSI c47 (by omega))⟩
              exact ih_2 (d + 1, 0, k + 1, upN B1 d 0, F1, upN U1 d 0) hI_27 (show mMs - (k + 1) < mMs - k from by omega) _ _ _ hP hD hS (lv_sub hl [0, 2, 1, 3, 4] rfl)
            · skip
              have c124 : (mSo k) = 3 := (nI_eq (by omega) (by omega)).mp c124
              omega
          · skip
            have c85 : (mSo k) = 2 := (nI_eq (by omega) (by omega)).mp c85
            omega
        · skip
          have c56 : ¬ (v = 0) := fun h => c56 ((nI_eq0 (by omega)).mpr h)
          refine lv_iconst (v := nI 1) hx hb d_Mod_isSure_59 rfl ?_
          refine lv_goto (tgt := 64) hx hb d_Mod_isSure_60 (by decide) ?_
          refine k_ist hx hb hK hP hD hS 3 0 rfl rfl (by omega) (by decide) d_Mod_isSure_64 (fun H locs hP hD hS => ?_)
          have bb_28 : ∀ j, upN B1 d 1 j < 2786 := upN_lt b_B1 (by omega)
          have hP : va_P (dC, dI) classes [(a_mod, .inr (6, [.ref a_mkind, .ref a_mwidth, .ref a_mreset, .ref a_mop, .ref a_mka, .ref a_mkb, .ref a_mkc, .ref a_mheld, .int (nI mN), .ref a_msort, .ref a_mof, .ref a_mfrom, .int (nI mMs), .ref a_mbit, .ref a_mdone, .ref a_mrests, .ref a_mxx, .ref a_myy, .ref a_mdepth, .ref a_mone, .int (nI mG), .int (nI mCk), .int mFw, .int (nI mRd), .ref a_mbefore, .ref a_mfirst, .ref a_mturned])), (a_msort, .inl (cI, 20, .inl (nF mSo))), (a_mof, .inl (cI, 20, .inl mOf)), (a_mbefore, .inl (cI, 6, .inl (nF (upN B1 d 1)))), (a_mfirst, .inl (cI, 6, .inl (nF F1))), (a_mturned, .inl (cZ, 6, .inl (nF U1)))] H := hP
          have hD : va_D A [(a_mod, .inr (6, [.ref a_mkind, .ref a_mwidth, .ref a_mreset, .ref a_mop, .ref a_mka, .ref a_mkb, .ref a_mkc, .ref a_mheld, .int (nI mN), .ref a_msort, .ref a_mof, .ref a_mfrom, .int (nI mMs), .ref a_mbit, .ref a_mdone, .ref a_mrests, .ref a_mxx, .ref a_myy, .ref a_mdepth, .ref a_mone, .int (nI mG), .int (nI mCk), .int mFw, .int (nI mRd), .ref a_mbefore, .ref a_mfirst, .ref a_mturned])), (a_msort, .inl (cI, 20, .inl (nF mSo))), (a_mof, .inl (cI, 20, .inl mOf)), (a_mbefore, .inl (cI, 6, .inl (nF (upN B1 d 1)))), (a_mfirst, .inl (cI, 6, .inl (nF F1))), (a_mturned, .inl (cZ, 6, .inl (nF U1)))] := hD
          refine lv_aload_n hx hb d_Mod_isSure_65 rfl (lv_at hl 3 rfl) ?_
          refine va_get (D := (dC, dI)) (ci := 6) (v := .ref a_mturned) (C := R_Mod) (T := F_Mod) (N := 27) hx hb hts (wi i_Mod) hown hK hP 0 rfl rfl 26 (by decide) (hts _ (mt 568 rfl rfl)) (fun _ h9 => h9) rfl d_Mod_isSure_66 ?_
          refine lv_iload_n hx hb d_Mod_isSure_69 rfl (lv_at hl 2 rfl) ?_
          refine lv_iconst (v := nI 0) hx hb d_Mod_isSure_70 rfl ?_
          refine k_zst hx hb hK hP hD hS 5 1 rfl rfl (by omega) (by decide) (by omega) d_Mod_isSure_71 (fun H locs hP hD hS => ?_)
          have bb_29 : ∀ j, upN U1 d 0 j < 2 := upN_lt b_U1 (by omega)
          have hP : va_P (dC, dI) classes [(a_mod, .inr (6, [.ref a_mkind, .ref a_mwidth, .ref a_mreset, .ref a_mop, .ref a_mka, .ref a_mkb, .ref a_mkc, .ref a_mheld, .int (nI mN), .ref a_msort, .ref a_mof, .ref a_mfrom, .int (nI mMs), .ref a_mbit, .ref a_mdone, .ref a_mrests, .ref a_mxx, .ref a_myy, .ref a_mdepth, .ref a_mone, .int (nI mG), .int (nI mCk), .int mFw, .int (nI mRd), .ref a_mbefore, .ref a_mfirst, .ref a_mturned])), (a_msort, .inl (cI, 20, .inl (nF mSo))), (a_mof, .inl (cI, 20, .inl mOf)), (a_mbefore, .inl (cI, 6, .inl (nF (upN B1 d 1)))), (a_mfirst, .inl (cI, 6, .inl (nF F1))), (a_mturned, .inl (cZ, 6, .inl (nF (upN U1 d 0))))] H := hP
          have hD : va_D A [(a_mod, .inr (6, [.ref a_mkind, .ref a_mwidth, .ref a_mreset, .ref a_mop, .ref a_mka, .ref a_mkb, .ref a_mkc, .ref a_mheld, .int (nI mN), .ref a_msort, .ref a_mof, .ref a_mfrom, .int (nI mMs), .ref a_mbit, .ref a_mdone, .ref a_mrests, .ref a_mxx, .ref a_myy, .ref a_mdepth, .ref a_mone, .int (nI mG), .int (nI mCk), .int mFw, .int (nI mRd), .ref a_mbefore, .ref a_mfirst, .ref a_mturned])), (a_msort, .inl (cI, 20, .inl (nF mSo))), (a_mof, .inl (cI, 20, .inl mOf)), (a_mbefore, .inl (cI, 6, .inl (nF (upN B1 d 1)))), (a_mfirst, .inl (cI, 6, .inl (nF F1))), (a_mturned, .inl (cZ, 6, .inl (nF (upN U1 d 0))))] := hD
          refine lv_iconst (v := nI 0) hx hb d_Mod_isSure_72 rfl ?_
          refine lv_istore_n (lv' := [(3, .int (nI 0)), (4, .int (nI k)), (2, .int (nI d)), (0, .ref a_mod), (1, .int (nI S))]) hx hb d_Mod_isSure_73 rfl hl (by decide) rfl (fun ls hl => ?_)
          refine lv_iinc (v := nI (d + 1)) (lv' := [(2, .int (nI (d + 1))), (3, .int (nI 0)), (4, .int (nI k)), (0, .ref a_mod), (1, .int (nI S))]) hx hb d_Mod_isSure_74 hl (k := 2) rfl (k_inc _ 1) (by decide) rfl (fun ls hl => ?_)
          refine lv_aload_n hx hb d_Mod_isSure_77 rfl (lv_at hl 3 rfl) ?_
          refine va_get (D := (dC, dI)) (ci := 6) (v := .ref a_msort) (C := R_Mod) (T := F_Mod) (N := 27) hx hb hts (wi i_Mod) hown hK hP 0 rfl rfl 9 (by decide) (hts _ (mt 551 rfl rfl)) (fun _ h9 => h9) rfl d_Mod_isSure_78 ?_
          refine lv_iload hx hb d_Mod_isSure_81 (lv_at hl 2 rfl) ?_
          refine k_ild hx hb hK hP 1 0 rfl rfl (by omega) (by decide) d_Mod_isSure_83 ?_
          have hb_30 := b_mSo k
          refine lv_iconst (v := nI 2) hx hb d_Mod_isSure_84 rfl ?_
          refine lv_icmp_ne (tgt := 116) hx hb d_Mod_isSure_85 (by decide) (fun c85 => ?_) (fun c85 => ?_)
          · skip
            have c85 : ¬ ((mSo k) = 2) := fun h => c85 ((nI_eq (by omega) (by omega)).mpr h)
            refine lv_aload_n hx hb d_Mod_isSure_116 rfl (lv_at hl 3 rfl) ?_
            refine va_get (D := (dC, dI)) (ci := 6) (v := .ref a_msort) (C := R_Mod) (T := F_Mod) (N := 27) hx hb hts (wi i_Mod) hown hK hP 0 rfl rfl 9 (by decide) (hts _ (mt 551 rfl rfl)) (fun _ h9 => h9) rfl d_Mod_isSure_117 ?_
            refine lv_iload hx hb d_Mod_isSure_120 (lv_at hl 2 rfl) ?_
            refine k_ild hx hb hK hP 1 0 rfl rfl (by omega) (by decide) d_Mod_isSure_122 ?_
            have hb_31 := b_mSo k
            refine lv_iconst (v := nI 3) hx hb d_Mod_isSure_123 rfl ?_
            refine lv_icmp_ne (tgt := 169) hx hb d_Mod_isSure_124 (by decide) (fun c124 => ?_) (fun c124 => ?_)
            · skip
              have c124 : ¬ ((mSo k) = 3) := fun h => c124 ((nI_eq (by omega) (by omega)).mpr h)
              refine lv_iinc (v := nI (k + 1)) (lv' := [(4, .int (nI (k + 1))), (2, .int (nI (d + 1))), (3, .int (nI 0)), (0, .ref a_mod), (1, .int (nI S))]) hx hb d_Mod_isSure_169 hl (k := 2) rfl (k_inc _ 1) (by decide) rfl (fun ls hl => ?_)
              refine lv_goto (tgt := 7) hx hb d_Mod_isSure_172 (by decide) ?_
              have hI_32 : (∀ j, (upN B1 d 1) j < 2786) ∧ (∀ j, F1 j < 2786) ∧ (∀ j, (upN U1 d 0) j < 2) ∧ ((k + 1) ≤ mMs) ∧ (SI mSo Su S (k + 1) 0 (d + 1) (upN B1 d 1) F1 (upN U1 d 0)) := ⟨bb_28, b_F1, bb_29, (by omega), (SI_1 hSI c47 (by omega))⟩
              exact ih_2 (d + 1, 0, k + 1, upN B1 d 1, F1, upN U1 d 0) hI_32 (show mMs - (k + 1) < mMs - k from by omega) _ _ _ hP hD hS (lv_sub hl [0, 2, 1, 3, 4] rfl)
            · skip
              have c124 : (mSo k) = 3 := (nI_eq (by omega) (by omega)).mp c124
              omega
          · skip
            have c85 : (mSo k) = 2 := (nI_eq (by omega) (by omega)).mp c85
            omega
    · skip
      have c23 : (mSo k) = 0 := (nI_eq0 (by omega)).mp c23
      refine lv_aload_n hx hb d_Mod_isSure_26 rfl (lv_at hl 3 rfl) ?_
      refine va_get (D := (dC, dI)) (ci := 6) (v := .ref a_mof) (C := R_Mod) (T := F_Mod) (N := 27) hx hb hts (wi i_Mod) hown hK hP 0 rfl rfl 10 (by decide) (hts _ (mt 552 rfl rfl)) (fun _ h9 => h9) rfl d_Mod_isSure_27 ?_
      refine lv_iload hx hb d_Mod_isSure_30 (lv_at hl 0 rfl) ?_
      refine k_rld hx hb hK hP 2 0 rfl rfl (by omega) (by decide) d_Mod_isSure_32 ?_
      have hof := hOf k (by omega) (Or.inl c23)
      refine k_top (show mOf k = nI (Su k) from hof.1) ?_
      refine lv_iload_n hx hb d_Mod_isSure_33 rfl (lv_at hl 4 rfl) ?_
      refine lv_icmp_ne (tgt := 39) hx hb d_Mod_isSure_34 (by decide) (fun c34 => ?_) (fun c34 => ?_)
      · skip
        have c34 : ¬ ((Su k) = S) := fun h => c34 ((nI_eq (by omega) (by omega)).mpr h)
        refine lv_aload_n hx hb d_Mod_isSure_39 rfl (lv_at hl 3 rfl) ?_
        refine va_get (D := (dC, dI)) (ci := 6) (v := .ref a_msort) (C := R_Mod) (T := F_Mod) (N := 27) hx hb hts (wi i_Mod) hown hK hP 0 rfl rfl 9 (by decide) (hts _ (mt 551 rfl rfl)) (fun _ h9 => h9) rfl d_Mod_isSure_40 ?_
        refine lv_iload hx hb d_Mod_isSure_43 (lv_at hl 0 rfl) ?_
        refine k_ild hx hb hK hP 1 0 rfl rfl (by omega) (by decide) d_Mod_isSure_45 ?_
        have hb_33 := b_mSo k
        refine lv_iconst (v := nI 1) hx hb d_Mod_isSure_46 rfl ?_
        refine lv_icmp_ne (tgt := 77) hx hb d_Mod_isSure_47 (by decide) (fun c47 => ?_) (fun c47 => ?_)
        · skip
          have c47 : ¬ ((mSo k) = 1) := fun h => c47 ((nI_eq (by omega) (by omega)).mpr h)
          refine lv_aload_n hx hb d_Mod_isSure_77 rfl (lv_at hl 3 rfl) ?_
          refine va_get (D := (dC, dI)) (ci := 6) (v := .ref a_msort) (C := R_Mod) (T := F_Mod) (N := 27) hx hb hts (wi i_Mod) hown hK hP 0 rfl rfl 9 (by decide) (hts _ (mt 551 rfl rfl)) (fun _ h9 => h9) rfl d_Mod_isSure_78 ?_
          refine lv_iload hx hb d_Mod_isSure_81 (lv_at hl 0 rfl) ?_
          refine k_ild hx hb hK hP 1 0 rfl rfl (by omega) (by decide) d_Mod_isSure_83 ?_
          have hb_34 := b_mSo k
          refine lv_iconst (v := nI 2) hx hb d_Mod_isSure_84 rfl ?_
          refine lv_icmp_ne (tgt := 116) hx hb d_Mod_isSure_85 (by decide) (fun c85 => ?_) (fun c85 => ?_)
          · skip
            have c85 : ¬ ((mSo k) = 2) := fun h => c85 ((nI_eq (by omega) (by omega)).mpr h)
            refine lv_aload_n hx hb d_Mod_isSure_116 rfl (lv_at hl 3 rfl) ?_
            refine va_get (D := (dC, dI)) (ci := 6) (v := .ref a_msort) (C := R_Mod) (T := F_Mod) (N := 27) hx hb hts (wi i_Mod) hown hK hP 0 rfl rfl 9 (by decide) (hts _ (mt 551 rfl rfl)) (fun _ h9 => h9) rfl d_Mod_isSure_117 ?_
            refine lv_iload hx hb d_Mod_isSure_120 (lv_at hl 0 rfl) ?_
            refine k_ild hx hb hK hP 1 0 rfl rfl (by omega) (by decide) d_Mod_isSure_122 ?_
            have hb_35 := b_mSo k
            refine lv_iconst (v := nI 3) hx hb d_Mod_isSure_123 rfl ?_
            refine lv_icmp_ne (tgt := 169) hx hb d_Mod_isSure_124 (by decide) (fun c124 => ?_) (fun c124 => ?_)
            · skip
              have c124 : ¬ ((mSo k) = 3) := fun h => c124 ((nI_eq (by omega) (by omega)).mpr h)
              refine lv_iinc (v := nI (k + 1)) (lv' := [(4, .int (nI (k + 1))), (3, .int (nI v)), (2, .int (nI d)), (0, .ref a_mod), (1, .int (nI S))]) hx hb d_Mod_isSure_169 hl (k := 0) rfl (k_inc _ 1) (by decide) rfl (fun ls hl => ?_)
              refine lv_goto (tgt := 7) hx hb d_Mod_isSure_172 (by decide) ?_
              have hI_36 : (∀ j, B1 j < 2786) ∧ (∀ j, F1 j < 2786) ∧ (∀ j, U1 j < 2) ∧ ((k + 1) ≤ mMs) ∧ (SI mSo Su S (k + 1) v d B1 F1 U1) := ⟨b_B1, b_F1, b_U1, (by omega), (SI_0n hSI c23 c34)⟩
              exact ih_2 (d, v, k + 1, B1, F1, U1) hI_36 (show mMs - (k + 1) < mMs - k from by omega) _ _ _ hP hD hS (lv_sub hl [0, 1, 2, 3, 4] rfl)
            · skip
              have c124 : (mSo k) = 3 := (nI_eq (by omega) (by omega)).mp c124
              omega
          · skip
            have c85 : (mSo k) = 2 := (nI_eq (by omega) (by omega)).mp c85
            omega
        · skip
          have c47 : (mSo k) = 1 := (nI_eq (by omega) (by omega)).mp c47
          omega
      · skip
        have c34 : (Su k) = S := (nI_eq (by omega) (by omega)).mp c34
        refine lv_iconst (v := nI 1) hx hb d_Mod_isSure_37 rfl ?_
        refine lv_istore_n (lv' := [(3, .int (nI 1)), (4, .int (nI k)), (2, .int (nI d)), (0, .ref a_mod), (1, .int (nI S))]) hx hb d_Mod_isSure_38 rfl hl (by decide) rfl (fun ls hl => ?_)
        refine lv_aload_n hx hb d_Mod_isSure_39 rfl (lv_at hl 3 rfl) ?_
        refine va_get (D := (dC, dI)) (ci := 6) (v := .ref a_msort) (C := R_Mod) (T := F_Mod) (N := 27) hx hb hts (wi i_Mod) hown hK hP 0 rfl rfl 9 (by decide) (hts _ (mt 551 rfl rfl)) (fun _ h9 => h9) rfl d_Mod_isSure_40 ?_
        refine lv_iload hx hb d_Mod_isSure_43 (lv_at hl 1 rfl) ?_
        refine k_ild hx hb hK hP 1 0 rfl rfl (by omega) (by decide) d_Mod_isSure_45 ?_
        have hb_37 := b_mSo k
        refine lv_iconst (v := nI 1) hx hb d_Mod_isSure_46 rfl ?_
        refine lv_icmp_ne (tgt := 77) hx hb d_Mod_isSure_47 (by decide) (fun c47 => ?_) (fun c47 => ?_)
        · skip
          have c47 : ¬ ((mSo k) = 1) := fun h => c47 ((nI_eq (by omega) (by omega)).mpr h)
          refine lv_aload_n hx hb d_Mod_isSure_77 rfl (lv_at hl 3 rfl) ?_
          refine va_get (D := (dC, dI)) (ci := 6) (v := .ref a_msort) (C := R_Mod) (T := F_Mod) (N := 27) hx hb hts (wi i_Mod) hown hK hP 0 rfl rfl 9 (by decide) (hts _ (mt 551 rfl rfl)) (fun _ h9 => h9) rfl d_Mod_isSure_78 ?_
          refine lv_iload hx hb d_Mod_isSure_81 (lv_at hl 1 rfl) ?_
          refine k_ild hx hb hK hP 1 0 rfl rfl (by omega) (by decide) d_Mod_isSure_83 ?_
          have hb_38 := b_mSo k
          refine lv_iconst (v := nI 2) hx hb d_Mod_isSure_84 rfl ?_
          refine lv_icmp_ne (tgt := 116) hx hb d_Mod_isSure_85 (by decide) (fun c85 => ?_) (fun c85 => ?_)
          · skip
            have c85 : ¬ ((mSo k) = 2) := fun h => c85 ((nI_eq (by omega) (by omega)).mpr h)
            refine lv_aload_n hx hb d_Mod_isSure_116 rfl (lv_at hl 3 rfl) ?_
            refine va_get (D := (dC, dI)) (ci := 6) (v := .ref a_msort) (C := R_Mod) (T := F_Mod) (N := 27) hx hb hts (wi i_Mod) hown hK hP 0 rfl rfl 9 (by decide) (hts _ (mt 551 rfl rfl)) (fun _ h9 => h9) rfl d_Mod_isSure_117 ?_
            refine lv_iload hx hb d_Mod_isSure_120 (lv_at hl 1 rfl) ?_
            refine k_ild hx hb hK hP 1 0 rfl rfl (by omega) (by decide) d_Mod_isSure_122 ?_
            have hb_39 := b_mSo k
            refine lv_iconst (v := nI 3) hx hb d_Mod_isSure_123 rfl ?_
            refine lv_icmp_ne (tgt := 169) hx hb d_Mod_isSure_124 (by decide) (fun c124 => ?_) (fun c124 => ?_)
            · skip
              have c124 : ¬ ((mSo k) = 3) := fun h => c124 ((nI_eq (by omega) (by omega)).mpr h)
              refine lv_iinc (v := nI (k + 1)) (lv' := [(4, .int (nI (k + 1))), (3, .int (nI 1)), (2, .int (nI d)), (0, .ref a_mod), (1, .int (nI S))]) hx hb d_Mod_isSure_169 hl (k := 1) rfl (k_inc _ 1) (by decide) rfl (fun ls hl => ?_)
              refine lv_goto (tgt := 7) hx hb d_Mod_isSure_172 (by decide) ?_
              have hI_40 : (∀ j, B1 j < 2786) ∧ (∀ j, F1 j < 2786) ∧ (∀ j, U1 j < 2) ∧ ((k + 1) ≤ mMs) ∧ (SI mSo Su S (k + 1) 1 d B1 F1 U1) := ⟨b_B1, b_F1, b_U1, (by omega), (SI_0y hSI c23 c34)⟩
              exact ih_2 (d, 1, k + 1, B1, F1, U1) hI_40 (show mMs - (k + 1) < mMs - k from by omega) _ _ _ hP hD hS (lv_sub hl [0, 1, 2, 3, 4] rfl)
            · skip
              have c124 : (mSo k) = 3 := (nI_eq (by omega) (by omega)).mp c124
              omega
          · skip
            have c85 : (mSo k) = 2 := (nI_eq (by omega) (by omega)).mp c85
            omega
        · skip
          have c47 : (mSo k) = 1 := (nI_eq (by omega) (by omega)).mp c47
          omega
set_option maxHeartbeats 4000000 in
set_option maxRecDepth 100000 in
theorem c_Mod_restsOnItself (l : Launch) (dC : Nat → ClassId) (dI : Nat → Nat → Nat) (cI cZ : ClassId) (a_mod a_mkind a_mwidth a_mreset a_mop a_mka a_mkb a_mkc a_mheld a_msort a_mof a_mfrom a_mbit a_mdone a_mrests a_mxx a_myy a_mdepth a_mone a_mbefore a_mfirst a_mturned : Nat) (tt sz : Nat) (mN : Nat) (mMs : Nat) (mG : Nat) (mCk : Nat) (mFw : Int32) (mRd : Nat) (mRe : Nat → Nat) (S : Nat) (b_mN : mN ≤ 14) (b_mMs : mMs ≤ 20) (b_mG : mG ≤ 1280) (b_mRd : mRd ≤ 1) (b_mRe : ∀ j, mRe j < 2) (hS14 : S < 14) : Met l y_Mod_restsOnItself w_Mod_restsOnItself ({ frames := 0, cells := 0, slots := 0, locals := 0 }) (va_Pc [.ref a_mod, .int (nI S)] (PW (dC, dI) classes [(cI, .int), (cZ, .boolean)] tt [(a_mod, .inr (6, [.ref a_mkind, .ref a_mwidth, .ref a_mreset, .ref a_mop, .ref a_mka, .ref a_mkb, .ref a_mkc, .ref a_mheld, .int (nI mN), .ref a_msort, .ref a_mof, .ref a_mfrom, .int (nI mMs), .ref a_mbit, .ref a_mdone, .ref a_mrests, .ref a_mxx, .ref a_myy, .ref a_mdepth, .ref a_mone, .int (nI mG), .int (nI mCk), .int mFw, .int (nI mRd), .ref a_mbefore, .ref a_mfirst, .ref a_mturned])), (a_mrests, .inl (cZ, 196, .inl (nF mRe)))] sz)) (va_Qi (fun (r : Int32) (u : (Nat → Nat)) => ∃ rv : Nat, r = nI rv ∧ (∀ j, u j < 2) ∧ (OTH mRe u S) ∧ (INC mRe u S) ∧ (SND mRe u S) ∧ (CLo mRe u S) ∧ (rv = u (14 * S + S))) (AT (dC, dI) classes [(cI, .int), (cZ, .boolean)] (va_A [(a_mod, .inr (6, [.ref a_mkind, .ref a_mwidth, .ref a_mreset, .ref a_mop, .ref a_mka, .ref a_mkb, .ref a_mkc, .ref a_mheld, .int (nI mN), .ref a_msort, .ref a_mof, .ref a_mfrom, .int (nI mMs), .ref a_mbit, .ref a_mdone, .ref a_mrests, .ref a_mxx, .ref a_myy, .ref a_mdepth, .ref a_mone, .int (nI mG), .int (nI mCk), .int mFw, .int (nI mRd), .ref a_mbefore, .ref a_mfirst, .ref a_mturned])), (a_mrests, .inl (cZ, 196, .inl (nF mRe)))] sz) (fun (u : (Nat → Nat)) => [(a_mod, .inr (6, [.ref a_mkind, .ref a_mwidth, .ref a_mreset, .ref a_mop, .ref a_mka, .ref a_mkb, .ref a_mkc, .ref a_mheld, .int (nI mN), .ref a_msort, .ref a_mof, .ref a_mfrom, .int (nI mMs), .ref a_mbit, .ref a_mdone, .ref a_mrests, .ref a_mxx, .ref a_myy, .ref a_mdepth, .ref a_mone, .int (nI mG), .int (nI mCk), .int mFw, .int (nI mRd), .ref a_mbefore, .ref a_mfirst, .ref a_mturned])), (a_mrests, .inl (cZ, 196, .inl (nF u)))])) (va_A [(a_mod, .inr (6, [.ref a_mkind, .ref a_mwidth, .ref a_mreset, .ref a_mop, .ref a_mka, .ref a_mkb, .ref a_mkc, .ref a_mheld, .int (nI mN), .ref a_msort, .ref a_mof, .ref a_mfrom, .int (nI mMs), .ref a_mbit, .ref a_mdone, .ref a_mrests, .ref a_mxx, .ref a_myy, .ref a_mdepth, .ref a_mone, .int (nI mG), .int (nI mCk), .int mFw, .int (nI mRd), .ref a_mbefore, .ref a_mfirst, .ref a_mturned])), (a_mrests, .inl (cZ, 196, .inl (nF mRe)))] sz)) 0 0 (va_A [(a_mod, .inr (6, [.ref a_mkind, .ref a_mwidth, .ref a_mreset, .ref a_mop, .ref a_mka, .ref a_mkb, .ref a_mkc, .ref a_mheld, .int (nI mN), .ref a_msort, .ref a_mof, .ref a_mfrom, .int (nI mMs), .ref a_mbit, .ref a_mdone, .ref a_mrests, .ref a_mxx, .ref a_myy, .ref a_mdepth, .ref a_mone, .int (nI mG), .int (nI mCk), .int mFw, .int (nI mRd), .ref a_mbefore, .ref a_mfirst, .ref a_mturned])), (a_mrests, .inl (cZ, 196, .inl (nF mRe)))] sz) := by
  refine Met.ofW (cc := b_Mod_restsOnItself) (maxL := 5) (ret := (some .boolean)) (by decide) rfl ?_
  intro p e s m args below meth c s₁ B hml hv
  obtain ⟨rfl, hsz, hP, hK, hD0, hE⟩ := hv
  have hx := B.exec
  have hb := B.bytes
  have hr := B.returns
  have hts := atoms_spec (ws := w_Mod_restsOnItself) B.pre
  have hown : s.vm.findClass R_Mod = some m.cls := findClass_of_methodNamed B.named
  have hlocks := B.notSynchronized
  subst hsz
  have hD := hD0.self (sz := s.heap.size)
  generalize hAe : va_A [(a_mod, .inr (6, [.ref a_mkind, .ref a_mwidth, .ref a_mreset, .ref a_mop, .ref a_mka, .ref a_mkb, .ref a_mkc, .ref a_mheld, .int (nI mN), .ref a_msort, .ref a_mof, .ref a_mfrom, .int (nI mMs), .ref a_mbit, .ref a_mdone, .ref a_mrests, .ref a_mxx, .ref a_myy, .ref a_mdepth, .ref a_mone, .int (nI mG), .int (nI mCk), .int mFw, .int (nI mRd), .ref a_mbefore, .ref a_mfirst, .ref a_mturned])), (a_mrests, .inl (cZ, 196, .inl (nF mRe)))] s.heap.size = A at hD hE ⊢
  have hA : ∀ q : Nat, s.heap.size ≤ q → A q := fun q h => by rw [← hAe]; exact Or.inr h
  have hS : va_S A s.heap s.heap [] := va_S.rf
  have hP : va_P (dC, dI) classes [(a_mod, .inr (6, [.ref a_mkind, .ref a_mwidth, .ref a_mreset, .ref a_mop, .ref a_mka, .ref a_mkb, .ref a_mkc, .ref a_mheld, .int (nI mN), .ref a_msort, .ref a_mof, .ref a_mfrom, .int (nI mMs), .ref a_mbit, .ref a_mdone, .ref a_mrests, .ref a_mxx, .ref a_myy, .ref a_mdepth, .ref a_mone, .int (nI mG), .int (nI mCk), .int mFw, .int (nI mRd), .ref a_mbefore, .ref a_mfirst, .ref a_mturned])), (a_mrests, .inl (cZ, 196, .inl (nF mRe)))] s.heap := hP
  have hl := lv_entry ([.ref a_mod, .int (nI S)]) (n := 5) (Nat.le_of_ble_eq_true rfl)
  rw [lg_entry_eq]
  generalize (lg_sl ([.ref a_mod, .int (nI S)]) ++ List.replicate (5 - (lg_sl ([.ref a_mod, .int (nI S)])).length) Slot.unset).toArray = ls at hl ⊢
  have hl : lv_has ls 5 [(0, .ref a_mod), (1, .int (nI S))] := hl
  refine lv_iconst (v := nI 0) hx hb d_Mod_restsOnItself_0 rfl ?_
  refine lv_istore_n (lv' := [(2, .int (nI 0)), (0, .ref a_mod), (1, .int (nI S))]) hx hb d_Mod_restsOnItself_1 rfl hl (by decide) rfl (fun ls hl => ?_)
  have hI_1 : (∀ j, mRe j < 2) ∧ (0 ≤ 14) ∧ (OTH mRe mRe S) ∧ (INC mRe mRe S) ∧ (SND mRe mRe S) ∧ (CLo mRe mRe S ∨ 0 ≤ cnt (fun y => mRe (14 * S + y)) 14) := ⟨b_mRe, (by omega), (fun _ _ => rfl), (fun _ _ q => q), (fun C c1 _ x hx q => c1 x hx q), (Or.inr (Nat.zero_le _))⟩
  refine k_loop (σ := Nat × (Nat → Nat)) (D := (dC, dI)) (cl := classes) (A := A) (H0 := s.heap) (fun x => [(a_mod, .inr (6, [.ref a_mkind, .ref a_mwidth, .ref a_mreset, .ref a_mop, .ref a_mka, .ref a_mkb, .ref a_mkc, .ref a_mheld, .int (nI mN), .ref a_msort, .ref a_mof, .ref a_mfrom, .int (nI mMs), .ref a_mbit, .ref a_mdone, .ref a_mrests, .ref a_mxx, .ref a_myy, .ref a_mdepth, .ref a_mone, .int (nI mG), .int (nI mCk), .int mFw, .int (nI mRd), .ref a_mbefore, .ref a_mfirst, .ref a_mturned])), (a_mrests, .inl (cZ, 196, .inl (nF x.2)))]) (fun x => [(2, .int (nI x.1)), (0, .ref a_mod), (1, .int (nI S))]) (fun x => (∀ j, x.2 j < 2) ∧ (x.1 ≤ 14) ∧ (OTH mRe x.2 S) ∧ (INC mRe x.2 S) ∧ (SND mRe x.2 S) ∧ (CLo mRe x.2 S ∨ x.1 ≤ cnt (fun y => x.2 (14 * S + y)) 14)) (fun x => 14 - x.1) ?_ (0, mRe) hI_1 hP hD hS (lv_sub hl [0, 1, 2] rfl)
  rintro ⟨n0, R1⟩ hI ih_2 H locs ls hP hD hS hl
  obtain ⟨b_R1, hn0, hO1, hI1, hS1, hJ⟩ : (∀ j, R1 j < 2) ∧ (n0 ≤ 14) ∧ (OTH mRe R1 S) ∧ (INC mRe R1 S) ∧ (SND mRe R1 S) ∧ (CLo mRe R1 S ∨ n0 ≤ cnt (fun y => R1 (14 * S + y)) 14) := hI
  have hP : va_P (dC, dI) classes [(a_mod, .inr (6, [.ref a_mkind, .ref a_mwidth, .ref a_mreset, .ref a_mop, .ref a_mka, .ref a_mkb, .ref a_mkc, .ref a_mheld, .int (nI mN), .ref a_msort, .ref a_mof, .ref a_mfrom, .int (nI mMs), .ref a_mbit, .ref a_mdone, .ref a_mrests, .ref a_mxx, .ref a_myy, .ref a_mdepth, .ref a_mone, .int (nI mG), .int (nI mCk), .int mFw, .int (nI mRd), .ref a_mbefore, .ref a_mfirst, .ref a_mturned])), (a_mrests, .inl (cZ, 196, .inl (nF R1)))] H := hP
  have hD : va_D A [(a_mod, .inr (6, [.ref a_mkind, .ref a_mwidth, .ref a_mreset, .ref a_mop, .ref a_mka, .ref a_mkb, .ref a_mkc, .ref a_mheld, .int (nI mN), .ref a_msort, .ref a_mof, .ref a_mfrom, .int (nI mMs), .ref a_mbit, .ref a_mdone, .ref a_mrests, .ref a_mxx, .ref a_myy, .ref a_mdepth, .ref a_mone, .int (nI mG), .int (nI mCk), .int mFw, .int (nI mRd), .ref a_mbefore, .ref a_mfirst, .ref a_mturned])), (a_mrests, .inl (cZ, 196, .inl (nF R1)))] := hD
  have hl : lv_has ls 5 [(2, .int (nI n0)), (0, .ref a_mod), (1, .int (nI S))] := hl
  refine lv_iload_n hx hb d_Mod_restsOnItself_2 rfl (lv_at hl 0 rfl) ?_
  refine lv_bipush (v := nI 14) hx hb d_Mod_restsOnItself_3 rfl ?_
  refine lv_icmp_ge (tgt := 86) hx hb d_Mod_restsOnItself_5 (by decide) (fun c5 => ?_) (fun c5 => ?_)
  · skip
    have c5 : 14 ≤ n0 := (nI_leI (by omega) (by omega)).mp c5
    refine lv_aload_n hx hb d_Mod_restsOnItself_86 rfl (lv_at hl 1 rfl) ?_
    refine va_get (D := (dC, dI)) (ci := 6) (v := .ref a_mrests) (C := R_Mod) (T := F_Mod) (N := 27) hx hb hts (wi i_Mod) hown hK hP 0 rfl rfl 15 (by decide) (hts _ (mt 557 rfl rfl)) (fun _ h9 => h9) rfl d_Mod_restsOnItself_87 ?_
    refine lv_bipush (v := nI 15) hx hb d_Mod_restsOnItself_90 rfl ?_
    refine lv_iload_n hx hb d_Mod_restsOnItself_92 rfl (lv_at hl 2 rfl) ?_
    refine lv_imul hx hb d_Mod_restsOnItself_93 ?_
    refine k_top (pk_mul _ _) ?_
    refine k_zld hx hb hK hP 1 1 rfl rfl (by omega) (by decide) d_Mod_restsOnItself_94 ?_
    have hb_3 := b_R1 (15 * S)
    refine k_top (congrArg nI (show R1 (15 * S) = R1 (14 * S + S) from (by rw [show 15 * S = 14 * S + S by omega]))) ?_
    exact W.zret (v := nI (R1 (14 * S + S))) (ty := .boolean) hx hb hr (k_narZ (by have := b_R1 (14 * S + S); omega)) (fun t ht hW => ⟨⟨nI (R1 (14 * S + S)), (R1), rfl, ⟨R1 (14 * S + S), rfl, b_R1, (show OTH mRe R1 S from hO1), (show INC mRe R1 S from hI1), (show SND mRe R1 S from hS1), (show CLo mRe R1 S from CLo_end b_R1 (by rw [show n0 = 14 by omega] at hJ; exact hJ)), (show (R1 (14 * S + S)) = R1 (14 * S + S) from rfl)⟩, by rw [ht]; exact hP, va_K.moved hW.alike hK, hD⟩, hS.F ht⟩) hS.2.2 d_Mod_restsOnItself_95
  · skip
    have c5 : ¬ (14 ≤ n0) := fun h => c5 ((nI_leI (by omega) (by omega)).mpr h)
    refine lv_iconst (v := nI 0) hx hb d_Mod_restsOnItself_8 rfl ?_
    refine lv_istore_n (lv' := [(3, .int (nI 0)), (2, .int (nI n0)), (0, .ref a_mod), (1, .int (nI S))]) hx hb d_Mod_restsOnItself_9 rfl hl (by decide) rfl (fun ls hl => ?_)
    have hI_4 : (∀ j, R1 j < 2) ∧ (0 ≤ 14) ∧ (OTH mRe R1 S) ∧ (INC R1 R1 S) ∧ (SND mRe R1 S) ∧ (∀ y, y < 0 → R1 (14 * S + y) = 1 → ∀ v, v < 14 → mRe (14 * y + v) = 1 → R1 (14 * S + v) = 1) := ⟨b_R1, (by omega), hO1, (fun _ _ q => q), hS1, (fun x h => absurd h (by omega))⟩
    refine k_loop (σ := Nat × (Nat → Nat)) (D := (dC, dI)) (cl := classes) (A := A) (H0 := s.heap) (fun x => [(a_mod, .inr (6, [.ref a_mkind, .ref a_mwidth, .ref a_mreset, .ref a_mop, .ref a_mka, .ref a_mkb, .ref a_mkc, .ref a_mheld, .int (nI mN), .ref a_msort, .ref a_mof, .ref a_mfrom, .int (nI mMs), .ref a_mbit, .ref a_mdone, .ref a_mrests, .ref a_mxx, .ref a_myy, .ref a_mdepth, .ref a_mone, .int (nI mG), .int (nI mCk), .int mFw, .int (nI mRd), .ref a_mbefore, .ref a_mfirst, .ref a_mturned])), (a_mrests, .inl (cZ, 196, .inl (nF x.2)))]) (fun x => [(3, .int (nI x.1)), (2, .int (nI n0)), (0, .ref a_mod), (1, .int (nI S))]) (fun x => (∀ j, x.2 j < 2) ∧ (x.1 ≤ 14) ∧ (OTH mRe x.2 S) ∧ (INC R1 x.2 S) ∧ (SND mRe x.2 S) ∧ (∀ y, y < x.1 → R1 (14 * S + y) = 1 → ∀ v, v < 14 → mRe (14 * y + v) = 1 → x.2 (14 * S + v) = 1)) (fun x => 14 - x.1) ?_ (0, R1) hI_4 hP hD hS (lv_sub hl [0, 1, 2, 3] rfl)
    rintro ⟨t1, R2⟩ hI ih_5 H locs ls hP hD hS hl
    obtain ⟨b_R2, ht, hO2, hI2, hS2, hD2⟩ : (∀ j, R2 j < 2) ∧ (t1 ≤ 14) ∧ (OTH mRe R2 S) ∧ (INC R1 R2 S) ∧ (SND mRe R2 S) ∧ (∀ y, y < t1 → R1 (14 * S + y) = 1 → ∀ v, v < 14 → mRe (14 * y + v) = 1 → R2 (14 * S + v) = 1) := hI
    have hP : va_P (dC, dI) classes [(a_mod, .inr (6, [.ref a_mkind, .ref a_mwidth, .ref a_mreset, .ref a_mop, .ref a_mka, .ref a_mkb, .ref a_mkc, .ref a_mheld, .int (nI mN), .ref a_msort, .ref a_mof, .ref a_mfrom, .int (nI mMs), .ref a_mbit, .ref a_mdone, .ref a_mrests, .ref a_mxx, .ref a_myy, .ref a_mdepth, .ref a_mone, .int (nI mG), .int (nI mCk), .int mFw, .int (nI mRd), .ref a_mbefore, .ref a_mfirst, .ref a_mturned])), (a_mrests, .inl (cZ, 196, .inl (nF R2)))] H := hP
    have hD : va_D A [(a_mod, .inr (6, [.ref a_mkind, .ref a_mwidth, .ref a_mreset, .ref a_mop, .ref a_mka, .ref a_mkb, .ref a_mkc, .ref a_mheld, .int (nI mN), .ref a_msort, .ref a_mof, .ref a_mfrom, .int (nI mMs), .ref a_mbit, .ref a_mdone, .ref a_mrests, .ref a_mxx, .ref a_myy, .ref a_mdepth, .ref a_mone, .int (nI mG), .int (nI mCk), .int mFw, .int (nI mRd), .ref a_mbefore, .ref a_mfirst, .ref a_mturned])), (a_mrests, .inl (cZ, 196, .inl (nF R2)))] := hD
    have hl : lv_has ls 5 [(3, .int (nI t1)), (2, .int (nI n0)), (0, .ref a_mod), (1, .int (nI S))] := hl
    refine lv_iload_n hx hb d_Mod_restsOnItself_10 rfl (lv_at hl 0 rfl) ?_
    refine lv_bipush (v := nI 14) hx hb d_Mod_restsOnItself_11 rfl ?_
    refine lv_icmp_ge (tgt := 80) hx hb d_Mod_restsOnItself_13 (by decide) (fun c13 => ?_) (fun c13 => ?_)
    · skip
      have c13 : 14 ≤ t1 := (nI_leI (by omega) (by omega)).mp c13
      refine lv_iinc (v := nI (n0 + 1)) (lv' := [(2, .int (nI (n0 + 1))), (3, .int (nI t1)), (0, .ref a_mod), (1, .int (nI S))]) hx hb d_Mod_restsOnItself_80 hl (k := 1) rfl (k_inc _ 1) (by decide) rfl (fun ls hl => ?_)
      refine lv_goto (tgt := 2) hx hb d_Mod_restsOnItself_83 (by decide) ?_
      have hI_6 : (∀ j, R2 j < 2) ∧ ((n0 + 1) ≤ 14) ∧ (OTH mRe R2 S) ∧ (INC mRe R2 S) ∧ (SND mRe R2 S) ∧ (CLo mRe R2 S ∨ (n0 + 1) ≤ cnt (fun y => R2 (14 * S + y)) 14) := ⟨b_R2, (by omega), hO2, (fun y hy q => hI2 y hy (hI1 y hy q)), hS2, (CLo_round b_R1 b_R2 hI1 hI2 hS2 (fun x hx q v hv r => hD2 x (by omega) q v hv r) hJ)⟩
      exact ih_2 (n0 + 1, R2) hI_6 (show 14 - (n0 + 1) < 14 - n0 from by omega) _ _ _ hP hD hS (lv_sub hl [0, 2, 3] rfl)
    · skip
      have c13 : ¬ (14 ≤ t1) := fun h => c13 ((nI_leI (by omega) (by omega)).mpr h)
      refine lv_aload_n hx hb d_Mod_restsOnItself_16 rfl (lv_at hl 2 rfl) ?_
      refine va_get (D := (dC, dI)) (ci := 6) (v := .ref a_mrests) (C := R_Mod) (T := F_Mod) (N := 27) hx hb hts (wi i_Mod) hown hK hP 0 rfl rfl 15 (by decide) (hts _ (mt 557 rfl rfl)) (fun _ h9 => h9) rfl d_Mod_restsOnItself_17 ?_
      refine lv_bipush (v := nI 14) hx hb d_Mod_restsOnItself_20 rfl ?_
      refine lv_iload_n hx hb d_Mod_restsOnItself_22 rfl (lv_at hl 3 rfl) ?_
      refine lv_imul hx hb d_Mod_restsOnItself_23 ?_
      refine k_top (pk_mul _ _) ?_
      refine lv_iload_n hx hb d_Mod_restsOnItself_24 rfl (lv_at hl 0 rfl) ?_
      refine lv_iadd hx hb d_Mod_restsOnItself_25 ?_
      refine k_top (nI_add _ _) ?_
      refine k_zld hx hb hK hP 1 1 rfl rfl (by omega) (by decide) d_Mod_restsOnItself_26 ?_
      have hb_7 := b_R2 ((14 * S) + t1)
      refine lv_if_eq (tgt := 74) hx hb d_Mod_restsOnItself_27 (by decide) (fun c27 => ?_) (fun c27 => ?_)
      · skip
        have c27 : (R2 ((14 * S) + t1)) = 0 := (nI_eq0 (by omega)).mp c27
        refine lv_iinc (v := nI (t1 + 1)) (lv' := [(3, .int (nI (t1 + 1))), (2, .int (nI n0)), (0, .ref a_mod), (1, .int (nI S))]) hx hb d_Mod_restsOnItself_74 hl (k := 0) rfl (k_inc _ 1) (by decide) rfl (fun ls hl => ?_)
        refine lv_goto (tgt := 10) hx hb d_Mod_restsOnItself_77 (by decide) ?_
        have hI_8 : (∀ j, R2 j < 2) ∧ ((t1 + 1) ≤ 14) ∧ (OTH mRe R2 S) ∧ (INC R1 R2 S) ∧ (SND mRe R2 S) ∧ (∀ y, y < (t1 + 1) → R1 (14 * S + y) = 1 → ∀ v, v < 14 → mRe (14 * y + v) = 1 → R2 (14 * S + v) = 1) := ⟨b_R2, (by omega), hO2, hI2, hS2, (fun x hx q v hv r => by by_cases e : x = t1; (exfalso; subst e; have := hI2 x (by omega) q; omega); exact hD2 x (by omega) q v hv r)⟩
        exact ih_5 (t1 + 1, R2) hI_8 (show 14 - (t1 + 1) < 14 - t1 from by omega) _ _ _ hP hD hS (lv_sub hl [0, 1, 2, 3] rfl)
      · skip
        have c27 : ¬ ((R2 ((14 * S) + t1)) = 0) := fun h => c27 ((nI_eq0 (by omega)).mpr h)
        refine lv_iconst (v := nI 0) hx hb d_Mod_restsOnItself_30 rfl ?_
        refine lv_istore (lv' := [(4, .int (nI 0)), (3, .int (nI t1)), (2, .int (nI n0)), (0, .ref a_mod), (1, .int (nI S))]) hx hb d_Mod_restsOnItself_31 hl (by decide) rfl (fun ls hl => ?_)
        have h27 := b_R2 (14 * S + t1)
        have h28 : R2 (14 * S + t1) = 1 := by omega
        have hI_9 : (∀ j, R2 j < 2) ∧ (0 ≤ 14) ∧ (OTH mRe R2 S) ∧ (INC R2 R2 S) ∧ (SND mRe R2 S) ∧ (∀ v, v < 0 → mRe (14 * t1 + v) = 1 → R2 (14 * S + v) = 1) := ⟨b_R2, (by omega), hO2, (fun _ _ q => q), hS2, (fun x h => absurd h (by omega))⟩
        refine k_loop (σ := Nat × (Nat → Nat)) (D := (dC, dI)) (cl := classes) (A := A) (H0 := s.heap) (fun x => [(a_mod, .inr (6, [.ref a_mkind, .ref a_mwidth, .ref a_mreset, .ref a_mop, .ref a_mka, .ref a_mkb, .ref a_mkc, .ref a_mheld, .int (nI mN), .ref a_msort, .ref a_mof, .ref a_mfrom, .int (nI mMs), .ref a_mbit, .ref a_mdone, .ref a_mrests, .ref a_mxx, .ref a_myy, .ref a_mdepth, .ref a_mone, .int (nI mG), .int (nI mCk), .int mFw, .int (nI mRd), .ref a_mbefore, .ref a_mfirst, .ref a_mturned])), (a_mrests, .inl (cZ, 196, .inl (nF x.2)))]) (fun x => [(4, .int (nI x.1)), (3, .int (nI t1)), (2, .int (nI n0)), (0, .ref a_mod), (1, .int (nI S))]) (fun x => (∀ j, x.2 j < 2) ∧ (x.1 ≤ 14) ∧ (OTH mRe x.2 S) ∧ (INC R2 x.2 S) ∧ (SND mRe x.2 S) ∧ (∀ v, v < x.1 → mRe (14 * t1 + v) = 1 → x.2 (14 * S + v) = 1)) (fun x => 14 - x.1) ?_ (0, R2) hI_9 hP hD hS (lv_sub hl [0, 1, 2, 3, 4] rfl)
        rintro ⟨w1, R3⟩ hI ih_10 H locs ls hP hD hS hl
        obtain ⟨b_R3, hw, hO3, hI3, hS3, hD3⟩ : (∀ j, R3 j < 2) ∧ (w1 ≤ 14) ∧ (OTH mRe R3 S) ∧ (INC R2 R3 S) ∧ (SND mRe R3 S) ∧ (∀ v, v < w1 → mRe (14 * t1 + v) = 1 → R3 (14 * S + v) = 1) := hI
        have hP : va_P (dC, dI) classes [(a_mod, .inr (6, [.ref a_mkind, .ref a_mwidth, .ref a_mreset, .ref a_mop, .ref a_mka, .ref a_mkb, .ref a_mkc, .ref a_mheld, .int (nI mN), .ref a_msort, .ref a_mof, .ref a_mfrom, .int (nI mMs), .ref a_mbit, .ref a_mdone, .ref a_mrests, .ref a_mxx, .ref a_myy, .ref a_mdepth, .ref a_mone, .int (nI mG), .int (nI mCk), .int mFw, .int (nI mRd), .ref a_mbefore, .ref a_mfirst, .ref a_mturned])), (a_mrests, .inl (cZ, 196, .inl (nF R3)))] H := hP
        have hD : va_D A [(a_mod, .inr (6, [.ref a_mkind, .ref a_mwidth, .ref a_mreset, .ref a_mop, .ref a_mka, .ref a_mkb, .ref a_mkc, .ref a_mheld, .int (nI mN), .ref a_msort, .ref a_mof, .ref a_mfrom, .int (nI mMs), .ref a_mbit, .ref a_mdone, .ref a_mrests, .ref a_mxx, .ref a_myy, .ref a_mdepth, .ref a_mone, .int (nI mG), .int (nI mCk), .int mFw, .int (nI mRd), .ref a_mbefore, .ref a_mfirst, .ref a_mturned])), (a_mrests, .inl (cZ, 196, .inl (nF R3)))] := hD
        have hl : lv_has ls 5 [(4, .int (nI w1)), (3, .int (nI t1)), (2, .int (nI n0)), (0, .ref a_mod), (1, .int (nI S))] := hl
        refine lv_iload hx hb d_Mod_restsOnItself_33 (lv_at hl 0 rfl) ?_
        refine lv_bipush (v := nI 14) hx hb d_Mod_restsOnItself_35 rfl ?_
        refine lv_icmp_ge (tgt := 74) hx hb d_Mod_restsOnItself_37 (by decide) (fun c37 => ?_) (fun c37 => ?_)
        · skip
          have c37 : 14 ≤ w1 := (nI_leI (by omega) (by omega)).mp c37
          refine lv_iinc (v := nI (t1 + 1)) (lv' := [(3, .int (nI (t1 + 1))), (4, .int (nI w1)), (2, .int (nI n0)), (0, .ref a_mod), (1, .int (nI S))]) hx hb d_Mod_restsOnItself_74 hl (k := 1) rfl (k_inc _ 1) (by decide) rfl (fun ls hl => ?_)
          refine lv_goto (tgt := 10) hx hb d_Mod_restsOnItself_77 (by decide) ?_
          have hI_11 : (∀ j, R3 j < 2) ∧ ((t1 + 1) ≤ 14) ∧ (OTH mRe R3 S) ∧ (INC R1 R3 S) ∧ (SND mRe R3 S) ∧ (∀ y, y < (t1 + 1) → R1 (14 * S + y) = 1 → ∀ v, v < 14 → mRe (14 * y + v) = 1 → R3 (14 * S + v) = 1) := ⟨b_R3, (by omega), hO3, (fun y hy q => hI3 y hy (hI2 y hy q)), hS3, (fun x hx q v hv r => by by_cases e : x = t1; (subst e; exact hD3 v (by omega) r); exact hI3 v hv (hD2 x (by omega) q v hv r))⟩
          exact ih_5 (t1 + 1, R3) hI_11 (show 14 - (t1 + 1) < 14 - t1 from by omega) _ _ _ hP hD hS (lv_sub hl [0, 2, 3, 4] rfl)
        · skip
          have c37 : ¬ (14 ≤ w1) := fun h => c37 ((nI_leI (by omega) (by omega)).mpr h)
          refine lv_aload_n hx hb d_Mod_restsOnItself_40 rfl (lv_at hl 3 rfl) ?_
          refine va_get (D := (dC, dI)) (ci := 6) (v := .ref a_mrests) (C := R_Mod) (T := F_Mod) (N := 27) hx hb hts (wi i_Mod) hown hK hP 0 rfl rfl 15 (by decide) (hts _ (mt 557 rfl rfl)) (fun _ h9 => h9) rfl d_Mod_restsOnItself_41 ?_
          refine lv_bipush (v := nI 14) hx hb d_Mod_restsOnItself_44 rfl ?_
          refine lv_iload_n hx hb d_Mod_restsOnItself_46 rfl (lv_at hl 1 rfl) ?_
          refine lv_imul hx hb d_Mod_restsOnItself_47 ?_
          refine k_top (pk_mul _ _) ?_
          refine lv_iload hx hb d_Mod_restsOnItself_48 (lv_at hl 0 rfl) ?_
          refine lv_iadd hx hb d_Mod_restsOnItself_50 ?_
          refine k_top (nI_add _ _) ?_
          refine k_zld hx hb hK hP 1 1 rfl rfl (by omega) (by decide) d_Mod_restsOnItself_51 ?_
          have hb_12 := b_R3 ((14 * t1) + w1)
          refine lv_if_eq (tgt := 68) hx hb d_Mod_restsOnItself_52 (by decide) (fun c52 => ?_) (fun c52 => ?_)
          · skip
            have c52 : (R3 ((14 * t1) + w1)) = 0 := (nI_eq0 (by omega)).mp c52
            refine lv_iinc (v := nI (w1 + 1)) (lv' := [(4, .int (nI (w1 + 1))), (3, .int (nI t1)), (2, .int (nI n0)), (0, .ref a_mod), (1, .int (nI S))]) hx hb d_Mod_restsOnItself_68 hl (k := 0) rfl (k_inc _ 1) (by decide) rfl (fun ls hl => ?_)
            refine lv_goto (tgt := 33) hx hb d_Mod_restsOnItself_71 (by decide) ?_
            have hI_13 : (∀ j, R3 j < 2) ∧ ((w1 + 1) ≤ 14) ∧ (OTH mRe R3 S) ∧ (INC R2 R3 S) ∧ (SND mRe R3 S) ∧ (∀ v, v < (w1 + 1) → mRe (14 * t1 + v) = 1 → R3 (14 * S + v) = 1) := ⟨b_R3, (by omega), hO3, hI3, hS3, (fun v hv q => by by_cases e : v = w1; (exfalso; subst e; by_cases es : t1 = S; (subst es; have := hI3 v (by omega) (hI2 v (by omega) (hI1 v (by omega) q)); omega); (have := hO3 (14 * t1 + v) (by omega); omega)); exact hD3 v (by omega) q)⟩
            exact ih_10 (w1 + 1, R3) hI_13 (show 14 - (w1 + 1) < 14 - w1 from by omega) _ _ _ hP hD hS (lv_sub hl [0, 1, 2, 3, 4] rfl)
          · skip
            have c52 : ¬ ((R3 ((14 * t1) + w1)) = 0) := fun h => c52 ((nI_eq0 (by omega)).mpr h)
            refine lv_aload_n hx hb d_Mod_restsOnItself_55 rfl (lv_at hl 3 rfl) ?_
            refine va_get (D := (dC, dI)) (ci := 6) (v := .ref a_mrests) (C := R_Mod) (T := F_Mod) (N := 27) hx hb hts (wi i_Mod) hown hK hP 0 rfl rfl 15 (by decide) (hts _ (mt 557 rfl rfl)) (fun _ h9 => h9) rfl d_Mod_restsOnItself_56 ?_
            refine lv_bipush (v := nI 14) hx hb d_Mod_restsOnItself_59 rfl ?_
            refine lv_iload_n hx hb d_Mod_restsOnItself_61 rfl (lv_at hl 4 rfl) ?_
            refine lv_imul hx hb d_Mod_restsOnItself_62 ?_
            refine k_top (pk_mul _ _) ?_
            refine lv_iload hx hb d_Mod_restsOnItself_63 (lv_at hl 0 rfl) ?_
            refine lv_iadd hx hb d_Mod_restsOnItself_65 ?_
            refine k_top (nI_add _ _) ?_
            refine lv_iconst (v := nI 1) hx hb d_Mod_restsOnItself_66 rfl ?_
            refine k_zst hx hb hK hP hD hS 1 1 rfl rfl (by omega) (by decide) (by omega) d_Mod_restsOnItself_67 (fun H locs hP hD hS => ?_)
            have bb_14 : ∀ j, upN R3 ((14 * S) + w1) 1 j < 2 := upN_lt b_R3 (by omega)
            have hP : va_P (dC, dI) classes [(a_mod, .inr (6, [.ref a_mkind, .ref a_mwidth, .ref a_mreset, .ref a_mop, .ref a_mka, .ref a_mkb, .ref a_mkc, .ref a_mheld, .int (nI mN), .ref a_msort, .ref a_mof, .ref a_mfrom, .int (nI mMs), .ref a_mbit, .ref a_mdone, .ref a_mrests, .ref a_mxx, .ref a_myy, .ref a_mdepth, .ref a_mone, .int (nI mG), .int (nI mCk), .int mFw, .int (nI mRd), .ref a_mbefore, .ref a_mfirst, .ref a_mturned])), (a_mrests, .inl (cZ, 196, .inl (nF (upN R3 ((14 * S) + w1) 1))))] H := hP
            have hD : va_D A [(a_mod, .inr (6, [.ref a_mkind, .ref a_mwidth, .ref a_mreset, .ref a_mop, .ref a_mka, .ref a_mkb, .ref a_mkc, .ref a_mheld, .int (nI mN), .ref a_msort, .ref a_mof, .ref a_mfrom, .int (nI mMs), .ref a_mbit, .ref a_mdone, .ref a_mrests, .ref a_mxx, .ref a_myy, .ref a_mdepth, .ref a_mone, .int (nI mG), .int (nI mCk), .int mFw, .int (nI mRd), .ref a_mbefore, .ref a_mfirst, .ref a_mturned])), (a_mrests, .inl (cZ, 196, .inl (nF (upN R3 ((14 * S) + w1) 1))))] := hD
            refine lv_iinc (v := nI (w1 + 1)) (lv' := [(4, .int (nI (w1 + 1))), (3, .int (nI t1)), (2, .int (nI n0)), (0, .ref a_mod), (1, .int (nI S))]) hx hb d_Mod_restsOnItself_68 hl (k := 0) rfl (k_inc _ 1) (by decide) rfl (fun ls hl => ?_)
            refine lv_goto (tgt := 33) hx hb d_Mod_restsOnItself_71 (by decide) ?_
            have hI_15 : (∀ j, (upN R3 ((14 * S) + w1) 1) j < 2) ∧ ((w1 + 1) ≤ 14) ∧ (OTH mRe (upN R3 ((14 * S) + w1) 1) S) ∧ (INC R2 (upN R3 ((14 * S) + w1) 1) S) ∧ (SND mRe (upN R3 ((14 * S) + w1) 1) S) ∧ (∀ v, v < (w1 + 1) → mRe (14 * t1 + v) = 1 → (upN R3 ((14 * S) + w1) 1) (14 * S + v) = 1) := ⟨bb_14, (by omega), (OTH_up hO3 (by omega)), (INC_up hI3), (SND_up (t := t1) hS3 hO3 (by omega) (by omega) (hI3 t1 (by omega) h28) (by have := b_R3 (14 * t1 + w1); omega)), (fun v hv q => by by_cases e : v = w1; (rw [e, upN_self]); (rw [upN_ne _ _ (by omega)]; exact hD3 v (by omega) q))⟩
            exact ih_10 (w1 + 1, upN R3 ((14 * S) + w1) 1) hI_15 (show 14 - (w1 + 1) < 14 - w1 from by omega) _ _ _ hP hD hS (lv_sub hl [0, 1, 2, 3, 4] rfl)
