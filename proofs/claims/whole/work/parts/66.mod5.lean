abbrev b_Mod_depthOf : ByteArray := prog_8_method_18_code
def y_Mod_depthOf : MethodName := ⟨"CircuitDeskModel", "depthOf", "(I)I"⟩
def w_Mod_depthOf : List Cond := .code y_Mod_depthOf b_Mod_depthOf 2 (some .int) :: lw_gw
theorem d_Mod_depthOf_0 : decode b_Mod_depthOf 0 = .ok (.iload_n 1, 1) := by decide +kernel
theorem d_Mod_depthOf_1 : decode b_Mod_depthOf 1 = .ok (.sipush 226, 3) := by decide +kernel
theorem d_Mod_depthOf_4 : decode b_Mod_depthOf 4 = .ok (.if_icmp .ge 7, 3) := by decide +kernel
theorem d_Mod_depthOf_7 : decode b_Mod_depthOf 7 = .ok (.iconst 0, 1) := by decide +kernel
theorem d_Mod_depthOf_8 : decode b_Mod_depthOf 8 = .ok (.goto 14, 3) := by decide +kernel
theorem d_Mod_depthOf_11 : decode b_Mod_depthOf 11 = .ok (.aload_n 0, 1) := by decide +kernel
theorem d_Mod_depthOf_12 : decode b_Mod_depthOf 12 = .ok (.getfield 59, 3) := by decide +kernel
theorem d_Mod_depthOf_15 : decode b_Mod_depthOf 15 = .ok (.iload_n 1, 1) := by decide +kernel
theorem d_Mod_depthOf_16 : decode b_Mod_depthOf 16 = .ok (.iconst 2, 1) := by decide +kernel
theorem d_Mod_depthOf_17 : decode b_Mod_depthOf 17 = .ok (.idiv, 1) := by decide +kernel
theorem d_Mod_depthOf_18 : decode b_Mod_depthOf 18 = .ok (.bipush 113, 2) := by decide +kernel
theorem d_Mod_depthOf_20 : decode b_Mod_depthOf 20 = .ok (.isub, 1) := by decide +kernel
theorem d_Mod_depthOf_21 : decode b_Mod_depthOf 21 = .ok (.iaload, 1) := by decide +kernel
theorem d_Mod_depthOf_22 : decode b_Mod_depthOf 22 = .ok (.ireturn, 1) := by decide +kernel
abbrev b_Mod_join : ByteArray := prog_8_method_17_code
def y_Mod_join : MethodName := ⟨"CircuitDeskModel", "join", "(II)I"⟩
def w_Mod_join : List Cond := .code y_Mod_join b_Mod_join 6 (some .int) :: lw_gw
theorem d_Mod_join_0 : decode b_Mod_join 0 = .ok (.iload_n 1, 1) := by decide +kernel
theorem d_Mod_join_1 : decode b_Mod_join 1 = .ok (.ifCond .eq 14, 3) := by decide +kernel
theorem d_Mod_join_4 : decode b_Mod_join 4 = .ok (.iload_n 2, 1) := by decide +kernel
theorem d_Mod_join_5 : decode b_Mod_join 5 = .ok (.ifCond .eq 10, 3) := by decide +kernel
theorem d_Mod_join_8 : decode b_Mod_join 8 = .ok (.iload_n 1, 1) := by decide +kernel
theorem d_Mod_join_9 : decode b_Mod_join 9 = .ok (.iload_n 2, 1) := by decide +kernel
theorem d_Mod_join_10 : decode b_Mod_join 10 = .ok (.iconst 1, 1) := by decide +kernel
theorem d_Mod_join_11 : decode b_Mod_join 11 = .ok (.ixor, 1) := by decide +kernel
theorem d_Mod_join_12 : decode b_Mod_join 12 = .ok (.if_icmp .ne 5, 3) := by decide +kernel
theorem d_Mod_join_15 : decode b_Mod_join 15 = .ok (.iconst 0, 1) := by decide +kernel
theorem d_Mod_join_16 : decode b_Mod_join 16 = .ok (.ireturn, 1) := by decide +kernel
theorem d_Mod_join_17 : decode b_Mod_join 17 = .ok (.iload_n 1, 1) := by decide +kernel
theorem d_Mod_join_18 : decode b_Mod_join 18 = .ok (.iconst 1, 1) := by decide +kernel
theorem d_Mod_join_19 : decode b_Mod_join 19 = .ok (.if_icmp .ne 5, 3) := by decide +kernel
theorem d_Mod_join_22 : decode b_Mod_join 22 = .ok (.iload_n 2, 1) := by decide +kernel
theorem d_Mod_join_23 : decode b_Mod_join 23 = .ok (.ireturn, 1) := by decide +kernel
theorem d_Mod_join_24 : decode b_Mod_join 24 = .ok (.iload_n 2, 1) := by decide +kernel
theorem d_Mod_join_25 : decode b_Mod_join 25 = .ok (.iconst 1, 1) := by decide +kernel
theorem d_Mod_join_26 : decode b_Mod_join 26 = .ok (.if_icmp .eq 8, 3) := by decide +kernel
theorem d_Mod_join_29 : decode b_Mod_join 29 = .ok (.iload_n 1, 1) := by decide +kernel
theorem d_Mod_join_30 : decode b_Mod_join 30 = .ok (.iload_n 2, 1) := by decide +kernel
theorem d_Mod_join_31 : decode b_Mod_join 31 = .ok (.if_icmp .ne 5, 3) := by decide +kernel
theorem d_Mod_join_34 : decode b_Mod_join 34 = .ok (.iload_n 1, 1) := by decide +kernel
theorem d_Mod_join_35 : decode b_Mod_join 35 = .ok (.ireturn, 1) := by decide +kernel
theorem d_Mod_join_36 : decode b_Mod_join 36 = .ok (.iload_n 1, 1) := by decide +kernel
theorem d_Mod_join_37 : decode b_Mod_join 37 = .ok (.iload_n 2, 1) := by decide +kernel
theorem d_Mod_join_38 : decode b_Mod_join 38 = .ok (.if_icmp .ge 7, 3) := by decide +kernel
theorem d_Mod_join_41 : decode b_Mod_join 41 = .ok (.iload_n 1, 1) := by decide +kernel
theorem d_Mod_join_42 : decode b_Mod_join 42 = .ok (.goto 4, 3) := by decide +kernel
theorem d_Mod_join_45 : decode b_Mod_join 45 = .ok (.iload_n 2, 1) := by decide +kernel
theorem d_Mod_join_46 : decode b_Mod_join 46 = .ok (.istore_n 3, 1) := by decide +kernel
theorem d_Mod_join_47 : decode b_Mod_join 47 = .ok (.iload_n 1, 1) := by decide +kernel
theorem d_Mod_join_48 : decode b_Mod_join 48 = .ok (.iload_n 2, 1) := by decide +kernel
theorem d_Mod_join_49 : decode b_Mod_join 49 = .ok (.if_icmp .ge 7, 3) := by decide +kernel
theorem d_Mod_join_52 : decode b_Mod_join 52 = .ok (.iload_n 2, 1) := by decide +kernel
theorem d_Mod_join_53 : decode b_Mod_join 53 = .ok (.goto 4, 3) := by decide +kernel
theorem d_Mod_join_56 : decode b_Mod_join 56 = .ok (.iload_n 1, 1) := by decide +kernel
theorem d_Mod_join_57 : decode b_Mod_join 57 = .ok (.istore 4, 2) := by decide +kernel
theorem d_Mod_join_59 : decode b_Mod_join 59 = .ok (.iconst 0, 1) := by decide +kernel
theorem d_Mod_join_60 : decode b_Mod_join 60 = .ok (.istore 5, 2) := by decide +kernel
theorem d_Mod_join_62 : decode b_Mod_join 62 = .ok (.iload 5, 2) := by decide +kernel
theorem d_Mod_join_64 : decode b_Mod_join 64 = .ok (.aload_n 0, 1) := by decide +kernel
theorem d_Mod_join_65 : decode b_Mod_join 65 = .ok (.getfield 124, 3) := by decide +kernel
theorem d_Mod_join_68 : decode b_Mod_join 68 = .ok (.if_icmp .ge 40, 3) := by decide +kernel
theorem d_Mod_join_71 : decode b_Mod_join 71 = .ok (.aload_n 0, 1) := by decide +kernel
theorem d_Mod_join_72 : decode b_Mod_join 72 = .ok (.getfield 53, 3) := by decide +kernel
theorem d_Mod_join_75 : decode b_Mod_join 75 = .ok (.iload 5, 2) := by decide +kernel
theorem d_Mod_join_77 : decode b_Mod_join 77 = .ok (.iaload, 1) := by decide +kernel
theorem d_Mod_join_78 : decode b_Mod_join 78 = .ok (.iload_n 3, 1) := by decide +kernel
theorem d_Mod_join_79 : decode b_Mod_join 79 = .ok (.if_icmp .ne 23, 3) := by decide +kernel
theorem d_Mod_join_82 : decode b_Mod_join 82 = .ok (.aload_n 0, 1) := by decide +kernel
theorem d_Mod_join_83 : decode b_Mod_join 83 = .ok (.getfield 56, 3) := by decide +kernel
theorem d_Mod_join_86 : decode b_Mod_join 86 = .ok (.iload 5, 2) := by decide +kernel
theorem d_Mod_join_88 : decode b_Mod_join 88 = .ok (.iaload, 1) := by decide +kernel
theorem d_Mod_join_89 : decode b_Mod_join 89 = .ok (.iload 4, 2) := by decide +kernel
theorem d_Mod_join_91 : decode b_Mod_join 91 = .ok (.if_icmp .ne 11, 3) := by decide +kernel
theorem d_Mod_join_94 : decode b_Mod_join 94 = .ok (.iconst 2, 1) := by decide +kernel
theorem d_Mod_join_95 : decode b_Mod_join 95 = .ok (.bipush 113, 2) := by decide +kernel
theorem d_Mod_join_97 : decode b_Mod_join 97 = .ok (.iload 5, 2) := by decide +kernel
theorem d_Mod_join_99 : decode b_Mod_join 99 = .ok (.iadd, 1) := by decide +kernel
theorem d_Mod_join_100 : decode b_Mod_join 100 = .ok (.imul, 1) := by decide +kernel
theorem d_Mod_join_101 : decode b_Mod_join 101 = .ok (.ireturn, 1) := by decide +kernel
theorem d_Mod_join_102 : decode b_Mod_join 102 = .ok (.iinc 5 1, 3) := by decide +kernel
theorem d_Mod_join_105 : decode b_Mod_join 105 = .ok (.goto (-43), 3) := by decide +kernel
theorem d_Mod_join_108 : decode b_Mod_join 108 = .ok (.aload_n 0, 1) := by decide +kernel
theorem d_Mod_join_109 : decode b_Mod_join 109 = .ok (.getfield 124, 3) := by decide +kernel
theorem d_Mod_join_112 : decode b_Mod_join 112 = .ok (.sipush 2600, 3) := by decide +kernel
theorem d_Mod_join_115 : decode b_Mod_join 115 = .ok (.if_icmp .ne 5, 3) := by decide +kernel
theorem d_Mod_join_118 : decode b_Mod_join 118 = .ok (.iconst 0, 1) := by decide +kernel
theorem d_Mod_join_119 : decode b_Mod_join 119 = .ok (.ireturn, 1) := by decide +kernel
theorem d_Mod_join_120 : decode b_Mod_join 120 = .ok (.aload_n 0, 1) := by decide +kernel
theorem d_Mod_join_121 : decode b_Mod_join 121 = .ok (.getfield 53, 3) := by decide +kernel
theorem d_Mod_join_124 : decode b_Mod_join 124 = .ok (.aload_n 0, 1) := by decide +kernel
theorem d_Mod_join_125 : decode b_Mod_join 125 = .ok (.getfield 124, 3) := by decide +kernel
theorem d_Mod_join_128 : decode b_Mod_join 128 = .ok (.iload_n 3, 1) := by decide +kernel
theorem d_Mod_join_129 : decode b_Mod_join 129 = .ok (.iastore, 1) := by decide +kernel
theorem d_Mod_join_130 : decode b_Mod_join 130 = .ok (.aload_n 0, 1) := by decide +kernel
theorem d_Mod_join_131 : decode b_Mod_join 131 = .ok (.getfield 56, 3) := by decide +kernel
theorem d_Mod_join_134 : decode b_Mod_join 134 = .ok (.aload_n 0, 1) := by decide +kernel
theorem d_Mod_join_135 : decode b_Mod_join 135 = .ok (.getfield 124, 3) := by decide +kernel
theorem d_Mod_join_138 : decode b_Mod_join 138 = .ok (.iload 4, 2) := by decide +kernel
theorem d_Mod_join_140 : decode b_Mod_join 140 = .ok (.iastore, 1) := by decide +kernel
theorem d_Mod_join_141 : decode b_Mod_join 141 = .ok (.aload_n 0, 1) := by decide +kernel
theorem d_Mod_join_142 : decode b_Mod_join 142 = .ok (.getfield 59, 3) := by decide +kernel
theorem d_Mod_join_145 : decode b_Mod_join 145 = .ok (.aload_n 0, 1) := by decide +kernel
theorem d_Mod_join_146 : decode b_Mod_join 146 = .ok (.getfield 124, 3) := by decide +kernel
theorem d_Mod_join_149 : decode b_Mod_join 149 = .ok (.iconst 1, 1) := by decide +kernel
theorem d_Mod_join_150 : decode b_Mod_join 150 = .ok (.aload_n 0, 1) := by decide +kernel
theorem d_Mod_join_151 : decode b_Mod_join 151 = .ok (.iload_n 3, 1) := by decide +kernel
theorem d_Mod_join_152 : decode b_Mod_join 152 = .ok (.invokevirtual 133, 3) := by decide +kernel
theorem d_Mod_join_155 : decode b_Mod_join 155 = .ok (.aload_n 0, 1) := by decide +kernel
theorem d_Mod_join_156 : decode b_Mod_join 156 = .ok (.iload 4, 2) := by decide +kernel
theorem d_Mod_join_158 : decode b_Mod_join 158 = .ok (.invokevirtual 133, 3) := by decide +kernel
theorem d_Mod_join_161 : decode b_Mod_join 161 = .ok (.invokestatic 97, 3) := by decide +kernel
theorem d_Mod_join_164 : decode b_Mod_join 164 = .ok (.iadd, 1) := by decide +kernel
theorem d_Mod_join_165 : decode b_Mod_join 165 = .ok (.iastore, 1) := by decide +kernel
theorem d_Mod_join_166 : decode b_Mod_join 166 = .ok (.aload_n 0, 1) := by decide +kernel
theorem d_Mod_join_167 : decode b_Mod_join 167 = .ok (.dup, 1) := by decide +kernel
theorem d_Mod_join_168 : decode b_Mod_join 168 = .ok (.getfield 124, 3) := by decide +kernel
theorem d_Mod_join_171 : decode b_Mod_join 171 = .ok (.iconst 1, 1) := by decide +kernel
theorem d_Mod_join_172 : decode b_Mod_join 172 = .ok (.iadd, 1) := by decide +kernel
theorem d_Mod_join_173 : decode b_Mod_join 173 = .ok (.putfield 124, 3) := by decide +kernel
theorem d_Mod_join_176 : decode b_Mod_join 176 = .ok (.iconst 2, 1) := by decide +kernel
theorem d_Mod_join_177 : decode b_Mod_join 177 = .ok (.bipush 113, 2) := by decide +kernel
theorem d_Mod_join_179 : decode b_Mod_join 179 = .ok (.aload_n 0, 1) := by decide +kernel
theorem d_Mod_join_180 : decode b_Mod_join 180 = .ok (.getfield 124, 3) := by decide +kernel
theorem d_Mod_join_183 : decode b_Mod_join 183 = .ok (.iadd, 1) := by decide +kernel
theorem d_Mod_join_184 : decode b_Mod_join 184 = .ok (.iconst 1, 1) := by decide +kernel
theorem d_Mod_join_185 : decode b_Mod_join 185 = .ok (.isub, 1) := by decide +kernel
theorem d_Mod_join_186 : decode b_Mod_join 186 = .ok (.imul, 1) := by decide +kernel
theorem d_Mod_join_187 : decode b_Mod_join 187 = .ok (.ireturn, 1) := by decide +kernel
set_option maxHeartbeats 4000000 in
set_option maxRecDepth 100000 in
theorem c_Mod_depthOf (l : Launch) (dC : Nat → ClassId) (dI : Nat → Nat → Nat) (cI cZ : ClassId) (a_mod a_mkind a_mwidth a_mreset a_mop a_mka a_mkb a_mkc a_mheld a_msort a_mof a_mfrom a_mbit a_mdone a_mrests a_mxx a_myy a_mdepth a_mone a_mbefore a_mfirst a_mturned : Nat) (tt sz : Nat) (mN : Nat) (mMs : Nat) (mG : Nat) (mCk : Nat) (mFw : Int32) (mRd : Nat) (mDe : Nat → Nat) (gd : Nat) (P : Nat → Nat) (Dp : Nat → Nat) (Sl : Nat → Nat) (T : Nat → Nat) (K : List Nat) (X : Nat) (b_mN : mN ≤ 14) (b_mMs : mMs ≤ 20) (b_mG : mG ≤ 1280) (b_mRd : mRd ≤ 1) (b_mDe : ∀ j, mDe j < 1400) (hN : NJ mG gd P Dp Sl T) (hDe : ∀ i, i < mG → mDe i = Dp (113 + i)) (hX : X < 2 * (113 + mG)) : Met l y_Mod_depthOf w_Mod_depthOf ({ frames := 0, cells := 0, slots := 0, locals := 0 }) (va_Pc [.ref a_mod, .int (nI X)] (PW (dC, dI) classes [(cI, .int), (cZ, .boolean)] tt [(a_mod, .inr (6, [.ref a_mkind, .ref a_mwidth, .ref a_mreset, .ref a_mop, .ref a_mka, .ref a_mkb, .ref a_mkc, .ref a_mheld, .int (nI mN), .ref a_msort, .ref a_mof, .ref a_mfrom, .int (nI mMs), .ref a_mbit, .ref a_mdone, .ref a_mrests, .ref a_mxx, .ref a_myy, .ref a_mdepth, .ref a_mone, .int (nI mG), .int (nI mCk), .int mFw, .int (nI mRd), .ref a_mbefore, .ref a_mfirst, .ref a_mturned])), (a_mdepth, .inl (cI, 2600, .inl (nF mDe)))] sz)) (va_Qi (fun (r : Int32) (u : Unit) => (r = nI (Dp (X / 2)))) (AT (dC, dI) classes [(cI, .int), (cZ, .boolean)] (va_A [(a_mod, .inr (6, [.ref a_mkind, .ref a_mwidth, .ref a_mreset, .ref a_mop, .ref a_mka, .ref a_mkb, .ref a_mkc, .ref a_mheld, .int (nI mN), .ref a_msort, .ref a_mof, .ref a_mfrom, .int (nI mMs), .ref a_mbit, .ref a_mdone, .ref a_mrests, .ref a_mxx, .ref a_myy, .ref a_mdepth, .ref a_mone, .int (nI mG), .int (nI mCk), .int mFw, .int (nI mRd), .ref a_mbefore, .ref a_mfirst, .ref a_mturned])), (a_mdepth, .inl (cI, 2600, .inl (nF mDe)))] sz) (fun (u : Unit) => [(a_mod, .inr (6, [.ref a_mkind, .ref a_mwidth, .ref a_mreset, .ref a_mop, .ref a_mka, .ref a_mkb, .ref a_mkc, .ref a_mheld, .int (nI mN), .ref a_msort, .ref a_mof, .ref a_mfrom, .int (nI mMs), .ref a_mbit, .ref a_mdone, .ref a_mrests, .ref a_mxx, .ref a_myy, .ref a_mdepth, .ref a_mone, .int (nI mG), .int (nI mCk), .int mFw, .int (nI mRd), .ref a_mbefore, .ref a_mfirst, .ref a_mturned])), (a_mdepth, .inl (cI, 2600, .inl (nF mDe)))])) (va_A [(a_mod, .inr (6, [.ref a_mkind, .ref a_mwidth, .ref a_mreset, .ref a_mop, .ref a_mka, .ref a_mkb, .ref a_mkc, .ref a_mheld, .int (nI mN), .ref a_msort, .ref a_mof, .ref a_mfrom, .int (nI mMs), .ref a_mbit, .ref a_mdone, .ref a_mrests, .ref a_mxx, .ref a_myy, .ref a_mdepth, .ref a_mone, .int (nI mG), .int (nI mCk), .int mFw, .int (nI mRd), .ref a_mbefore, .ref a_mfirst, .ref a_mturned])), (a_mdepth, .inl (cI, 2600, .inl (nF mDe)))] sz)) 0 0 (va_A [(a_mod, .inr (6, [.ref a_mkind, .ref a_mwidth, .ref a_mreset, .ref a_mop, .ref a_mka, .ref a_mkb, .ref a_mkc, .ref a_mheld, .int (nI mN), .ref a_msort, .ref a_mof, .ref a_mfrom, .int (nI mMs), .ref a_mbit, .ref a_mdone, .ref a_mrests, .ref a_mxx, .ref a_myy, .ref a_mdepth, .ref a_mone, .int (nI mG), .int (nI mCk), .int mFw, .int (nI mRd), .ref a_mbefore, .ref a_mfirst, .ref a_mturned])), (a_mdepth, .inl (cI, 2600, .inl (nF mDe)))] sz) := by
  refine Met.ofW (cc := b_Mod_depthOf) (maxL := 2) (ret := (some .int)) (by decide) rfl ?_
  intro p e s m args below meth c s₁ B hml hv
  obtain ⟨rfl, hsz, hP, hK, hD0, hE⟩ := hv
  have hx := B.exec
  have hb := B.bytes
  have hr := B.returns
  have hts := atoms_spec (ws := w_Mod_depthOf) B.pre
  have hown : s.vm.findClass R_Mod = some m.cls := findClass_of_methodNamed B.named
  have hlocks := B.notSynchronized
  subst hsz
  have hD := hD0.self (sz := s.heap.size)
  generalize hAe : va_A [(a_mod, .inr (6, [.ref a_mkind, .ref a_mwidth, .ref a_mreset, .ref a_mop, .ref a_mka, .ref a_mkb, .ref a_mkc, .ref a_mheld, .int (nI mN), .ref a_msort, .ref a_mof, .ref a_mfrom, .int (nI mMs), .ref a_mbit, .ref a_mdone, .ref a_mrests, .ref a_mxx, .ref a_myy, .ref a_mdepth, .ref a_mone, .int (nI mG), .int (nI mCk), .int mFw, .int (nI mRd), .ref a_mbefore, .ref a_mfirst, .ref a_mturned])), (a_mdepth, .inl (cI, 2600, .inl (nF mDe)))] s.heap.size = A at hD hE ⊢
  have hA : ∀ q : Nat, s.heap.size ≤ q → A q := fun q h => by rw [← hAe]; exact Or.inr h
  have hS : va_S A s.heap s.heap [] := va_S.rf
  have hP : va_P (dC, dI) classes [(a_mod, .inr (6, [.ref a_mkind, .ref a_mwidth, .ref a_mreset, .ref a_mop, .ref a_mka, .ref a_mkb, .ref a_mkc, .ref a_mheld, .int (nI mN), .ref a_msort, .ref a_mof, .ref a_mfrom, .int (nI mMs), .ref a_mbit, .ref a_mdone, .ref a_mrests, .ref a_mxx, .ref a_myy, .ref a_mdepth, .ref a_mone, .int (nI mG), .int (nI mCk), .int mFw, .int (nI mRd), .ref a_mbefore, .ref a_mfirst, .ref a_mturned])), (a_mdepth, .inl (cI, 2600, .inl (nF mDe)))] s.heap := hP
  have hl := lv_entry ([.ref a_mod, .int (nI X)]) (n := 2) (Nat.le_of_ble_eq_true rfl)
  rw [lg_entry_eq]
  generalize (lg_sl ([.ref a_mod, .int (nI X)]) ++ List.replicate (2 - (lg_sl ([.ref a_mod, .int (nI X)])).length) Slot.unset).toArray = ls at hl ⊢
  have hl : lv_has ls 2 [(0, .ref a_mod), (1, .int (nI X))] := hl
  refine lv_iload_n hx hb d_Mod_depthOf_0 rfl (lv_at hl 1 rfl) ?_
  refine lv_sipush (v := nI 226) hx hb d_Mod_depthOf_1 rfl ?_
  refine lv_icmp_ge (tgt := 11) hx hb d_Mod_depthOf_4 (by decide) (fun c4 => ?_) (fun c4 => ?_)
  · skip
    have c4 : 226 ≤ X := (nI_leI (by omega) (by omega)).mp c4
    refine lv_aload_n hx hb d_Mod_depthOf_11 rfl (lv_at hl 0 rfl) ?_
    refine va_get (D := (dC, dI)) (ci := 6) (v := .ref a_mdepth) (C := R_Mod) (T := F_Mod) (N := 27) hx hb hts (wi i_Mod) hown hK hP 0 rfl rfl 18 (by decide) (hts _ (mt 560 rfl rfl)) (fun _ h9 => h9) rfl d_Mod_depthOf_12 ?_
    refine lv_iload_n hx hb d_Mod_depthOf_15 rfl (lv_at hl 1 rfl) ?_
    refine lv_iconst (v := nI 2) hx hb d_Mod_depthOf_16 rfl ?_
    refine lv_idiv hx hb d_Mod_depthOf_17 (nI_ne0 (by decide) (by decide)) ?_
    refine k_top (pk_div (by omega) (by decide) (by decide)) ?_
    refine lv_bipush (v := nI 113) hx hb d_Mod_depthOf_18 rfl ?_
    refine lv_isub hx hb d_Mod_depthOf_20 ?_
    refine k_top (pk_sub (by omega)) ?_
    refine k_ild hx hb hK hP 1 0 rfl rfl (by omega) (by decide) d_Mod_depthOf_21 ?_
    have hb_1 := b_mDe ((X / 2) - 113)
    exact W.iret (v := nI (mDe ((X / 2) - 113))) hx hb hr (fun t ht hW => ⟨⟨nI (mDe ((X / 2) - 113)), (), rfl, (by rw [hDe _ (by omega), show 113 + (X / 2 - 113) = X / 2 by omega]), by rw [ht]; exact hP, va_K.moved hW.alike hK, hD⟩, hS.F ht⟩) hS.2.2 d_Mod_depthOf_22
  · skip
    have c4 : ¬ (226 ≤ X) := fun h => c4 ((nI_leI (by omega) (by omega)).mpr h)
    refine lv_iconst (v := nI 0) hx hb d_Mod_depthOf_7 rfl ?_
    refine lv_goto (tgt := 22) hx hb d_Mod_depthOf_8 (by decide) ?_
    exact W.iret (v := nI 0) hx hb hr (fun t ht hW => ⟨⟨nI 0, (), rfl, (by rw [NI_d0 hN.1 (by omega)]), by rw [ht]; exact hP, va_K.moved hW.alike hK, hD⟩, hS.F ht⟩) hS.2.2 d_Mod_depthOf_22
set_option maxHeartbeats 4000000 in
set_option maxRecDepth 100000 in
theorem c_Mod_join (l : Launch) (dC : Nat → ClassId) (dI : Nat → Nat → Nat) (cI cZ : ClassId) (a_mod a_mkind a_mwidth a_mreset a_mop a_mka a_mkb a_mkc a_mheld a_msort a_mof a_mfrom a_mbit a_mdone a_mrests a_mxx a_myy a_mdepth a_mone a_mbefore a_mfirst a_mturned : Nat) (tt sz : Nat) (mN : Nat) (mMs : Nat) (mG : Nat) (mCk : Nat) (mFw : Int32) (mRd : Nat) (mX : Nat → Nat) (mY : Nat → Nat) (mDe : Nat → Nat) (gd : Nat) (P : Nat → Nat) (Dp : Nat → Nat) (Sl : Nat → Nat) (T : Nat → Nat) (K : List Nat) (X : Nat) (Y : Nat) (b_mN : mN ≤ 14) (b_mMs : mMs ≤ 20) (b_mG : mG ≤ 1280) (b_mRd : mRd ≤ 1) (b_mX : ∀ j, mX j < 2786) (b_mY : ∀ j, mY j < 2786) (b_mDe : ∀ j, mDe j < 1400) (hN : NJ mG gd P Dp Sl T) (hXY : MXY mG mX mY mDe P Dp) (hAL : AL K T mG) (hX : X < 2 * (113 + mG)) (hY : Y < 2 * (113 + mG)) (hin : ∀ c, c ∈ jl (LT T X) (LT T Y) → c ∈ K) : Met l y_Mod_join w_Mod_join ({ frames := 1, cells := 0, slots := 0, locals := 21 }) (va_Pc [.ref a_mod, .int (nI X), .int (nI Y)] (PW (dC, dI) classes [(cI, .int), (cZ, .boolean)] tt [(a_mod, .inr (6, [.ref a_mkind, .ref a_mwidth, .ref a_mreset, .ref a_mop, .ref a_mka, .ref a_mkb, .ref a_mkc, .ref a_mheld, .int (nI mN), .ref a_msort, .ref a_mof, .ref a_mfrom, .int (nI mMs), .ref a_mbit, .ref a_mdone, .ref a_mrests, .ref a_mxx, .ref a_myy, .ref a_mdepth, .ref a_mone, .int (nI mG), .int (nI mCk), .int mFw, .int (nI mRd), .ref a_mbefore, .ref a_mfirst, .ref a_mturned])), (a_mxx, .inl (cI, 2600, .inl (nF mX))), (a_myy, .inl (cI, 2600, .inl (nF mY))), (a_mdepth, .inl (cI, 2600, .inl (nF mDe)))] sz)) (va_Qi (fun (r : Int32) (u : Nat × (Nat → Nat) × (Nat → Nat) × (Nat → Nat) × Nat × (Nat → Nat) × (Nat → Nat) × (Nat → Nat) × (Nat → Nat)) => ∃ rv : Nat, r = nI rv ∧ (u.1 ≤ 1280) ∧ (∀ j, u.2.1 j < 2786) ∧ (∀ j, u.2.2.1 j < 2786) ∧ (∀ j, u.2.2.2.1 j < 1400) ∧ (NJ u.1 u.2.2.2.2.1 u.2.2.2.2.2.1 u.2.2.2.2.2.2.1 u.2.2.2.2.2.2.2.1 u.2.2.2.2.2.2.2.2) ∧ (MXY u.1 u.2.1 u.2.2.1 u.2.2.2.1 u.2.2.2.2.2.1 u.2.2.2.2.2.2.1) ∧ (ST T mG u.2.2.2.2.2.2.2.2 u.1 (jl (LT T X) (LT T Y))) ∧ (rv < 2 * (113 + u.1)) ∧ (LT u.2.2.2.2.2.2.2.2 rv = jn (LT T X) (LT T Y)) ∧ (AL K u.2.2.2.2.2.2.2.2 u.1)) (AT (dC, dI) classes [(cI, .int), (cZ, .boolean)] (va_A [(a_mod, .inr (6, [.ref a_mkind, .ref a_mwidth, .ref a_mreset, .ref a_mop, .ref a_mka, .ref a_mkb, .ref a_mkc, .ref a_mheld, .int (nI mN), .ref a_msort, .ref a_mof, .ref a_mfrom, .int (nI mMs), .ref a_mbit, .ref a_mdone, .ref a_mrests, .ref a_mxx, .ref a_myy, .ref a_mdepth, .ref a_mone, .int (nI mG), .int (nI mCk), .int mFw, .int (nI mRd), .ref a_mbefore, .ref a_mfirst, .ref a_mturned])), (a_mxx, .inl (cI, 2600, .inl (nF mX))), (a_myy, .inl (cI, 2600, .inl (nF mY))), (a_mdepth, .inl (cI, 2600, .inl (nF mDe)))] sz) (fun (u : Nat × (Nat → Nat) × (Nat → Nat) × (Nat → Nat) × Nat × (Nat → Nat) × (Nat → Nat) × (Nat → Nat) × (Nat → Nat)) => [(a_mod, .inr (6, [.ref a_mkind, .ref a_mwidth, .ref a_mreset, .ref a_mop, .ref a_mka, .ref a_mkb, .ref a_mkc, .ref a_mheld, .int (nI mN), .ref a_msort, .ref a_mof, .ref a_mfrom, .int (nI mMs), .ref a_mbit, .ref a_mdone, .ref a_mrests, .ref a_mxx, .ref a_myy, .ref a_mdepth, .ref a_mone, .int (nI u.1), .int (nI mCk), .int mFw, .int (nI mRd), .ref a_mbefore, .ref a_mfirst, .ref a_mturned])), (a_mxx, .inl (cI, 2600, .inl (nF u.2.1))), (a_myy, .inl (cI, 2600, .inl (nF u.2.2.1))), (a_mdepth, .inl (cI, 2600, .inl (nF u.2.2.2.1)))])) (va_A [(a_mod, .inr (6, [.ref a_mkind, .ref a_mwidth, .ref a_mreset, .ref a_mop, .ref a_mka, .ref a_mkb, .ref a_mkc, .ref a_mheld, .int (nI mN), .ref a_msort, .ref a_mof, .ref a_mfrom, .int (nI mMs), .ref a_mbit, .ref a_mdone, .ref a_mrests, .ref a_mxx, .ref a_myy, .ref a_mdepth, .ref a_mone, .int (nI mG), .int (nI mCk), .int mFw, .int (nI mRd), .ref a_mbefore, .ref a_mfirst, .ref a_mturned])), (a_mxx, .inl (cI, 2600, .inl (nF mX))), (a_myy, .inl (cI, 2600, .inl (nF mY))), (a_mdepth, .inl (cI, 2600, .inl (nF mDe)))] sz)) 0 0 (va_A [(a_mod, .inr (6, [.ref a_mkind, .ref a_mwidth, .ref a_mreset, .ref a_mop, .ref a_mka, .ref a_mkb, .ref a_mkc, .ref a_mheld, .int (nI mN), .ref a_msort, .ref a_mof, .ref a_mfrom, .int (nI mMs), .ref a_mbit, .ref a_mdone, .ref a_mrests, .ref a_mxx, .ref a_myy, .ref a_mdepth, .ref a_mone, .int (nI mG), .int (nI mCk), .int mFw, .int (nI mRd), .ref a_mbefore, .ref a_mfirst, .ref a_mturned])), (a_mxx, .inl (cI, 2600, .inl (nF mX))), (a_myy, .inl (cI, 2600, .inl (nF mY))), (a_mdepth, .inl (cI, 2600, .inl (nF mDe)))] sz) := by
  refine Met.ofW (cc := b_Mod_join) (maxL := 6) (ret := (some .int)) (by decide) rfl ?_
  intro p e s m args below meth c s₁ B hml hv
  obtain ⟨rfl, hsz, hP, hK, hD0, hE⟩ := hv
  have hx := B.exec
  have hb := B.bytes
  have hr := B.returns
  have hts := atoms_spec (ws := w_Mod_join) B.pre
  have hown : s.vm.findClass R_Mod = some m.cls := findClass_of_methodNamed B.named
  have hlocks := B.notSynchronized
  subst hsz
  have hD := hD0.self (sz := s.heap.size)
  generalize hAe : va_A [(a_mod, .inr (6, [.ref a_mkind, .ref a_mwidth, .ref a_mreset, .ref a_mop, .ref a_mka, .ref a_mkb, .ref a_mkc, .ref a_mheld, .int (nI mN), .ref a_msort, .ref a_mof, .ref a_mfrom, .int (nI mMs), .ref a_mbit, .ref a_mdone, .ref a_mrests, .ref a_mxx, .ref a_myy, .ref a_mdepth, .ref a_mone, .int (nI mG), .int (nI mCk), .int mFw, .int (nI mRd), .ref a_mbefore, .ref a_mfirst, .ref a_mturned])), (a_mxx, .inl (cI, 2600, .inl (nF mX))), (a_myy, .inl (cI, 2600, .inl (nF mY))), (a_mdepth, .inl (cI, 2600, .inl (nF mDe)))] s.heap.size = A at hD hE ⊢
  have hA : ∀ q : Nat, s.heap.size ≤ q → A q := fun q h => by rw [← hAe]; exact Or.inr h
  have hS : va_S A s.heap s.heap [] := va_S.rf
  have hP : va_P (dC, dI) classes [(a_mod, .inr (6, [.ref a_mkind, .ref a_mwidth, .ref a_mreset, .ref a_mop, .ref a_mka, .ref a_mkb, .ref a_mkc, .ref a_mheld, .int (nI mN), .ref a_msort, .ref a_mof, .ref a_mfrom, .int (nI mMs), .ref a_mbit, .ref a_mdone, .ref a_mrests, .ref a_mxx, .ref a_myy, .ref a_mdepth, .ref a_mone, .int (nI mG), .int (nI mCk), .int mFw, .int (nI mRd), .ref a_mbefore, .ref a_mfirst, .ref a_mturned])), (a_mxx, .inl (cI, 2600, .inl (nF mX))), (a_myy, .inl (cI, 2600, .inl (nF mY))), (a_mdepth, .inl (cI, 2600, .inl (nF mDe)))] s.heap := hP
  have hl := lv_entry ([.ref a_mod, .int (nI X), .int (nI Y)]) (n := 6) (Nat.le_of_ble_eq_true rfl)
  rw [lg_entry_eq]
  generalize (lg_sl ([.ref a_mod, .int (nI X), .int (nI Y)]) ++ List.replicate (6 - (lg_sl ([.ref a_mod, .int (nI X), .int (nI Y)])).length) Slot.unset).toArray = ls at hl ⊢
  have hl : lv_has ls 6 [(0, .ref a_mod), (1, .int (nI X)), (2, .int (nI Y))] := hl
  refine lv_iload_n hx hb d_Mod_join_0 rfl (lv_at hl 1 rfl) ?_
  refine lv_if_eq (tgt := 15) hx hb d_Mod_join_1 (by decide) (fun c1 => ?_) (fun c1 => ?_)
  · skip
    have c1 : X = 0 := (nI_eq0 (by omega)).mp c1
    have hz : X = 0 ∨ Y = 0 ∨ X = op1 Y := by omega
    refine lv_iconst (v := nI 0) hx hb d_Mod_join_15 rfl ?_
    exact W.iret (v := nI 0) hx hb hr (fun t ht hW => ⟨⟨nI 0, (mG, mX, mY, mDe, gd, P, Dp, Sl, T), rfl, ⟨0, rfl, (show mG ≤ 1280 from by omega), b_mX, b_mY, b_mDe, (show NJ mG gd P Dp Sl T from hN), (show MXY mG mX mY mDe P Dp from hXY), (show ST T mG T mG (jl (LT T X) (LT T Y)) from ST_rf (J_0 hN.1 hX hY hz).1), (show 0 < 2 * (113 + mG) from by omega), (show LT T 0 = jn (LT T X) (LT T Y) from (J_0 hN.1 hX hY hz).2), (show AL K T mG from hAL)⟩, by rw [ht]; exact hP, va_K.moved hW.alike hK, hD⟩, hS.F ht⟩) hS.2.2 d_Mod_join_16
  · skip
    have c1 : ¬ (X = 0) := fun h => c1 ((nI_eq0 (by omega)).mpr h)
    refine lv_iload_n hx hb d_Mod_join_4 rfl (lv_at hl 2 rfl) ?_
    refine lv_if_eq (tgt := 15) hx hb d_Mod_join_5 (by decide) (fun c5 => ?_) (fun c5 => ?_)
    · skip
      have c5 : Y = 0 := (nI_eq0 (by omega)).mp c5
      have hz : X = 0 ∨ Y = 0 ∨ X = op1 Y := by omega
      refine lv_iconst (v := nI 0) hx hb d_Mod_join_15 rfl ?_
      exact W.iret (v := nI 0) hx hb hr (fun t ht hW => ⟨⟨nI 0, (mG, mX, mY, mDe, gd, P, Dp, Sl, T), rfl, ⟨0, rfl, (show mG ≤ 1280 from by omega), b_mX, b_mY, b_mDe, (show NJ mG gd P Dp Sl T from hN), (show MXY mG mX mY mDe P Dp from hXY), (show ST T mG T mG (jl (LT T X) (LT T Y)) from ST_rf (J_0 hN.1 hX hY hz).1), (show 0 < 2 * (113 + mG) from by omega), (show LT T 0 = jn (LT T X) (LT T Y) from (J_0 hN.1 hX hY hz).2), (show AL K T mG from hAL)⟩, by rw [ht]; exact hP, va_K.moved hW.alike hK, hD⟩, hS.F ht⟩) hS.2.2 d_Mod_join_16
    · skip
      have c5 : ¬ (Y = 0) := fun h => c5 ((nI_eq0 (by omega)).mpr h)
      refine lv_iload_n hx hb d_Mod_join_8 rfl (lv_at hl 1 rfl) ?_
      refine lv_iload_n hx hb d_Mod_join_9 rfl (lv_at hl 2 rfl) ?_
      refine lv_iconst (v := nI 1) hx hb d_Mod_join_10 rfl ?_
      refine lv_ixor hx hb d_Mod_join_11 ?_
      refine k_top ((nI_xor _ _).trans (congrArg nI (xor_1 _))) ?_
      have ho := op1_lt hY
      refine lv_icmp_ne (tgt := 17) hx hb d_Mod_join_12 (by decide) (fun c12 => ?_) (fun c12 => ?_)
      · skip
        have c12 : ¬ (X = (op1 Y)) := fun h => c12 ((nI_eq (by omega) (by omega)).mpr h)
        have hz : ¬ (X = 0 ∨ Y = 0 ∨ X = op1 Y) := by omega
        refine lv_iload_n hx hb d_Mod_join_17 rfl (lv_at hl 1 rfl) ?_
        refine lv_iconst (v := nI 1) hx hb d_Mod_join_18 rfl ?_
        refine lv_icmp_ne (tgt := 24) hx hb d_Mod_join_19 (by decide) (fun c19 => ?_) (fun c19 => ?_)
        · skip
          have c19 : ¬ (X = 1) := fun h => c19 ((nI_eq (by omega) (by omega)).mpr h)
          refine lv_iload_n hx hb d_Mod_join_24 rfl (lv_at hl 2 rfl) ?_
          refine lv_iconst (v := nI 1) hx hb d_Mod_join_25 rfl ?_
          refine lv_icmp_eq (tgt := 34) hx hb d_Mod_join_26 (by decide) (fun c26 => ?_) (fun c26 => ?_)
          · skip
            have c26 : Y = 1 := (nI_eq (by omega) (by omega)).mp c26
            have h2 : Y = 1 ∨ X = Y := by omega
            refine lv_iload_n hx hb d_Mod_join_34 rfl (lv_at hl 1 rfl) ?_
            exact W.iret (v := nI X) hx hb hr (fun t ht hW => ⟨⟨nI X, (mG, mX, mY, mDe, gd, P, Dp, Sl, T), rfl, ⟨X, rfl, (show mG ≤ 1280 from by omega), b_mX, b_mY, b_mDe, (show NJ mG gd P Dp Sl T from hN), (show MXY mG mX mY mDe P Dp from hXY), (show ST T mG T mG (jl (LT T X) (LT T Y)) from ST_rf (J_2 hN.1 hX hY hz c19 h2).1), (show X < 2 * (113 + mG) from by omega), (show LT T X = jn (LT T X) (LT T Y) from (J_2 hN.1 hX hY hz c19 h2).2), (show AL K T mG from hAL)⟩, by rw [ht]; exact hP, va_K.moved hW.alike hK, hD⟩, hS.F ht⟩) hS.2.2 d_Mod_join_35
          · skip
            have c26 : ¬ (Y = 1) := fun h => c26 ((nI_eq (by omega) (by omega)).mpr h)
            refine lv_iload_n hx hb d_Mod_join_29 rfl (lv_at hl 1 rfl) ?_
            refine lv_iload_n hx hb d_Mod_join_30 rfl (lv_at hl 2 rfl) ?_
            refine lv_icmp_ne (tgt := 36) hx hb d_Mod_join_31 (by decide) (fun c31 => ?_) (fun c31 => ?_)
            · skip
              have c31 : ¬ (X = Y) := fun h => c31 ((nI_eq (by omega) (by omega)).mpr h)
              have h2 : ¬ (Y = 1 ∨ X = Y) := by omega
              have h3 := J_3 hN.1 hX hY hz c19 h2
              have hne : X ≠ Y := by omega
              refine lv_iload_n hx hb d_Mod_join_36 rfl (lv_at hl 1 rfl) ?_
              refine lv_iload_n hx hb d_Mod_join_37 rfl (lv_at hl 2 rfl) ?_
              refine lv_icmp_ge (tgt := 45) hx hb d_Mod_join_38 (by decide) (fun c38 => ?_) (fun c38 => ?_)
              · skip
                have c38 : Y ≤ X := (nI_leI (by omega) (by omega)).mp c38
                refine lv_iload_n hx hb d_Mod_join_45 rfl (lv_at hl 2 rfl) ?_
                refine k_top (congrArg nI (show Y = min X Y from (by omega))) ?_
                refine lv_istore_n (lv' := [(3, .int (nI (min X Y))), (0, .ref a_mod), (1, .int (nI X)), (2, .int (nI Y))]) hx hb d_Mod_join_46 rfl hl (by decide) rfl (fun ls hl => ?_)
                refine lv_iload_n hx hb d_Mod_join_47 rfl (lv_at hl 2 rfl) ?_
                refine lv_iload_n hx hb d_Mod_join_48 rfl (lv_at hl 3 rfl) ?_
                refine lv_icmp_ge (tgt := 56) hx hb d_Mod_join_49 (by decide) (fun c49 => ?_) (fun c49 => ?_)
                · skip
                  have c49 : Y ≤ X := (nI_leI (by omega) (by omega)).mp c49
                  refine lv_iload_n hx hb d_Mod_join_56 rfl (lv_at hl 2 rfl) ?_
                  refine k_top (congrArg nI (show X = max X Y from (by omega))) ?_
                  refine lv_istore (lv' := [(4, .int (nI (max X Y))), (3, .int (nI (min X Y))), (0, .ref a_mod), (1, .int (nI X)), (2, .int (nI Y))]) hx hb d_Mod_join_57 hl (by decide) rfl (fun ls hl => ?_)
                  refine lv_iconst (v := nI 0) hx hb d_Mod_join_59 rfl ?_
                  refine lv_istore (lv' := [(5, .int (nI 0)), (4, .int (nI (max X Y))), (3, .int (nI (min X Y))), (0, .ref a_mod), (1, .int (nI X)), (2, .int (nI Y))]) hx hb d_Mod_join_60 hl (by decide) rfl (fun ls hl => ?_)
                  have hI_1 : (∀ j, j < 0 → ¬ (mX j = min X Y ∧ mY j = max X Y)) ∧ (0 ≤ mG) := ⟨(fun j h => absurd h (by omega)), (by omega)⟩
                  refine k_loop (σ := Nat) (D := (dC, dI)) (cl := classes) (A := A) (H0 := s.heap) (fun x => [(a_mod, .inr (6, [.ref a_mkind, .ref a_mwidth, .ref a_mreset, .ref a_mop, .ref a_mka, .ref a_mkb, .ref a_mkc, .ref a_mheld, .int (nI mN), .ref a_msort, .ref a_mof, .ref a_mfrom, .int (nI mMs), .ref a_mbit, .ref a_mdone, .ref a_mrests, .ref a_mxx, .ref a_myy, .ref a_mdepth, .ref a_mone, .int (nI mG), .int (nI mCk), .int mFw, .int (nI mRd), .ref a_mbefore, .ref a_mfirst, .ref a_mturned])), (a_mxx, .inl (cI, 2600, .inl (nF mX))), (a_myy, .inl (cI, 2600, .inl (nF mY))), (a_mdepth, .inl (cI, 2600, .inl (nF mDe)))]) (fun x => [(5, .int (nI x)), (4, .int (nI (max X Y))), (3, .int (nI (min X Y))), (0, .ref a_mod), (1, .int (nI X)), (2, .int (nI Y))]) (fun x => (∀ j, j < x → ¬ (mX j = min X Y ∧ mY j = max X Y)) ∧ (x ≤ mG)) (fun x => mG - x) ?_ (0) hI_1 hP hD hS (lv_sub hl [0, 1, 2, 3, 4, 5] rfl)
                  intro i hI ih_2 H locs ls hP hD hS hl
                  obtain ⟨hi, hig⟩ : (∀ j, j < i → ¬ (mX j = min X Y ∧ mY j = max X Y)) ∧ (i ≤ mG) := hI
                  have hP : va_P (dC, dI) classes [(a_mod, .inr (6, [.ref a_mkind, .ref a_mwidth, .ref a_mreset, .ref a_mop, .ref a_mka, .ref a_mkb, .ref a_mkc, .ref a_mheld, .int (nI mN), .ref a_msort, .ref a_mof, .ref a_mfrom, .int (nI mMs), .ref a_mbit, .ref a_mdone, .ref a_mrests, .ref a_mxx, .ref a_myy, .ref a_mdepth, .ref a_mone, .int (nI mG), .int (nI mCk), .int mFw, .int (nI mRd), .ref a_mbefore, .ref a_mfirst, .ref a_mturned])), (a_mxx, .inl (cI, 2600, .inl (nF mX))), (a_myy, .inl (cI, 2600, .inl (nF mY))), (a_mdepth, .inl (cI, 2600, .inl (nF mDe)))] H := hP
                  have hD : va_D A [(a_mod, .inr (6, [.ref a_mkind, .ref a_mwidth, .ref a_mreset, .ref a_mop, .ref a_mka, .ref a_mkb, .ref a_mkc, .ref a_mheld, .int (nI mN), .ref a_msort, .ref a_mof, .ref a_mfrom, .int (nI mMs), .ref a_mbit, .ref a_mdone, .ref a_mrests, .ref a_mxx, .ref a_myy, .ref a_mdepth, .ref a_mone, .int (nI mG), .int (nI mCk), .int mFw, .int (nI mRd), .ref a_mbefore, .ref a_mfirst, .ref a_mturned])), (a_mxx, .inl (cI, 2600, .inl (nF mX))), (a_myy, .inl (cI, 2600, .inl (nF mY))), (a_mdepth, .inl (cI, 2600, .inl (nF mDe)))] := hD
                  have hl : lv_has ls 6 [(5, .int (nI i)), (4, .int (nI (max X Y))), (3, .int (nI (min X Y))), (0, .ref a_mod), (1, .int (nI X)), (2, .int (nI Y))] := hl
                  refine lv_iload hx hb d_Mod_join_62 (lv_at hl 0 rfl) ?_
                  refine lv_aload_n hx hb d_Mod_join_64 rfl (lv_at hl 3 rfl) ?_
                  refine va_get (D := (dC, dI)) (ci := 6) (v := .int (nI mG)) (C := R_Mod) (T := F_Mod) (N := 27) hx hb hts (wi i_Mod) hown hK hP 0 rfl rfl 20 (by decide) (hts _ (mt 562 rfl rfl)) (fun _ h9 => h9) rfl d_Mod_join_65 ?_
                  refine lv_icmp_ge (tgt := 108) hx hb d_Mod_join_68 (by decide) (fun c68 => ?_) (fun c68 => ?_)
                  · skip
                    have c68 : mG ≤ i := (nI_leI (by omega) (by omega)).mp c68
                    refine lv_aload_n hx hb d_Mod_join_108 rfl (lv_at hl 3 rfl) ?_
                    refine va_get (D := (dC, dI)) (ci := 6) (v := .int (nI mG)) (C := R_Mod) (T := F_Mod) (N := 27) hx hb hts (wi i_Mod) hown hK hP 0 rfl rfl 20 (by decide) (hts _ (mt 562 rfl rfl)) (fun _ h9 => h9) rfl d_Mod_join_109 ?_
                    refine lv_sipush (v := nI 2600) hx hb d_Mod_join_112 rfl ?_
                    refine lv_icmp_ne (tgt := 120) hx hb d_Mod_join_115 (by decide) (fun c115 => ?_) (fun c115 => ?_)
                    · skip
                      have c115 : ¬ (mG = 2600) := fun h => c115 ((nI_eq (by omega) (by omega)).mpr h)
                      have hfr : ∀ n, 113 ≤ n → n < 113 + mG → P n ≠ min X Y * 4096 + max X Y := fun n n1 n2 e => by
                        have hxy := hXY (n - 113) (by omega)
                        rw [show 113 + (n - 113) = n by omega, e] at hxy
                        exact hi (n - 113) (by omega) (by omega)
                      have hnew := NI_new hN.1 (a := min X Y) (b := max X Y) (by omega) (by omega) hfr
                      rw [gN_mm] at hnew
                      have hlt : mG < 1280 := AL_lt hAL hN.1.2.2.2.1 (hin _ (by rw [h3.2.1]; exact List.mem_singleton.mpr rfl)) hnew
                      obtain ⟨kf, hkf, hff⟩ := Fnd_ex hN.1 b_mG (min X Y * 4096 + max X Y)
                      have hk0 := Fnd_new hN.1 hkf hff hfr
                      have hd1 := NI_dp hN.1 _ (min X Y / 2) (Nat.le_refl _) (by omega)
                      have hd2 := NI_dp hN.1 _ (max X Y / 2) (Nat.le_refl _) (by omega)
                      have hJ := J_new hN hX hY hne h3.1 h3.2 hkf hff hk0 rfl rfl
                      have hXY2 := MXY_add (a := min X Y) (b := max X Y) (dv := 1 + max (Dp (min X Y / 2)) (Dp (max X Y / 2))) hXY (by omega) (by omega)
                      refine lv_aload_n hx hb d_Mod_join_120 rfl (lv_at hl 3 rfl) ?_
                      refine va_get (D := (dC, dI)) (ci := 6) (v := .ref a_mxx) (C := R_Mod) (T := F_Mod) (N := 27) hx hb hts (wi i_Mod) hown hK hP 0 rfl rfl 16 (by decide) (hts _ (mt 558 rfl rfl)) (fun _ h9 => h9) rfl d_Mod_join_121 ?_
                      refine lv_aload_n hx hb d_Mod_join_124 rfl (lv_at hl 3 rfl) ?_
                      refine va_get (D := (dC, dI)) (ci := 6) (v := .int (nI mG)) (C := R_Mod) (T := F_Mod) (N := 27) hx hb hts (wi i_Mod) hown hK hP 0 rfl rfl 20 (by decide) (hts _ (mt 562 rfl rfl)) (fun _ h9 => h9) rfl d_Mod_join_125 ?_
                      refine lv_iload_n hx hb d_Mod_join_128 rfl (lv_at hl 2 rfl) ?_
                      refine k_ist hx hb hK hP hD hS 1 0 rfl rfl (by omega) (by decide) d_Mod_join_129 (fun H locs hP hD hS => ?_)
                      have bb_3 : ∀ j, upN mX mG (min X Y) j < 2786 := upN_lt b_mX (by omega)
                      have hP : va_P (dC, dI) classes [(a_mod, .inr (6, [.ref a_mkind, .ref a_mwidth, .ref a_mreset, .ref a_mop, .ref a_mka, .ref a_mkb, .ref a_mkc, .ref a_mheld, .int (nI mN), .ref a_msort, .ref a_mof, .ref a_mfrom, .int (nI mMs), .ref a_mbit, .ref a_mdone, .ref a_mrests, .ref a_mxx, .ref a_myy, .ref a_mdepth, .ref a_mone, .int (nI mG), .int (nI mCk), .int mFw, .int (nI mRd), .ref a_mbefore, .ref a_mfirst, .ref a_mturned])), (a_mxx, .inl (cI, 2600, .inl (nF (upN mX mG (min X Y))))), (a_myy, .inl (cI, 2600, .inl (nF mY))), (a_mdepth, .inl (cI, 2600, .inl (nF mDe)))] H := hP
                      have hD : va_D A [(a_mod, .inr (6, [.ref a_mkind, .ref a_mwidth, .ref a_mreset, .ref a_mop, .ref a_mka, .ref a_mkb, .ref a_mkc, .ref a_mheld, .int (nI mN), .ref a_msort, .ref a_mof, .ref a_mfrom, .int (nI mMs), .ref a_mbit, .ref a_mdone, .ref a_mrests, .ref a_mxx, .ref a_myy, .ref a_mdepth, .ref a_mone, .int (nI mG), .int (nI mCk), .int mFw, .int (nI mRd), .ref a_mbefore, .ref a_mfirst, .ref a_mturned])), (a_mxx, .inl (cI, 2600, .inl (nF (upN mX mG (min X Y))))), (a_myy, .inl (cI, 2600, .inl (nF mY))), (a_mdepth, .inl (cI, 2600, .inl (nF mDe)))] := hD
                      refine lv_aload_n hx hb d_Mod_join_130 rfl (lv_at hl 3 rfl) ?_
                      refine va_get (D := (dC, dI)) (ci := 6) (v := .ref a_myy) (C := R_Mod) (T := F_Mod) (N := 27) hx hb hts (wi i_Mod) hown hK hP 0 rfl rfl 17 (by decide) (hts _ (mt 559 rfl rfl)) (fun _ h9 => h9) rfl d_Mod_join_131 ?_
                      refine lv_aload_n hx hb d_Mod_join_134 rfl (lv_at hl 3 rfl) ?_
                      refine va_get (D := (dC, dI)) (ci := 6) (v := .int (nI mG)) (C := R_Mod) (T := F_Mod) (N := 27) hx hb hts (wi i_Mod) hown hK hP 0 rfl rfl 20 (by decide) (hts _ (mt 562 rfl rfl)) (fun _ h9 => h9) rfl d_Mod_join_135 ?_
                      refine lv_iload hx hb d_Mod_join_138 (lv_at hl 1 rfl) ?_
                      refine k_ist hx hb hK hP hD hS 2 0 rfl rfl (by omega) (by decide) d_Mod_join_140 (fun H locs hP hD hS => ?_)
                      have bb_4 : ∀ j, upN mY mG (max X Y) j < 2786 := upN_lt b_mY (by omega)
                      have hP : va_P (dC, dI) classes [(a_mod, .inr (6, [.ref a_mkind, .ref a_mwidth, .ref a_mreset, .ref a_mop, .ref a_mka, .ref a_mkb, .ref a_mkc, .ref a_mheld, .int (nI mN), .ref a_msort, .ref a_mof, .ref a_mfrom, .int (nI mMs), .ref a_mbit, .ref a_mdone, .ref a_mrests, .ref a_mxx, .ref a_myy, .ref a_mdepth, .ref a_mone, .int (nI mG), .int (nI mCk), .int mFw, .int (nI mRd), .ref a_mbefore, .ref a_mfirst, .ref a_mturned])), (a_mxx, .inl (cI, 2600, .inl (nF (upN mX mG (min X Y))))), (a_myy, .inl (cI, 2600, .inl (nF (upN mY mG (max X Y))))), (a_mdepth, .inl (cI, 2600, .inl (nF mDe)))] H := hP
                      have hD : va_D A [(a_mod, .inr (6, [.ref a_mkind, .ref a_mwidth, .ref a_mreset, .ref a_mop, .ref a_mka, .ref a_mkb, .ref a_mkc, .ref a_mheld, .int (nI mN), .ref a_msort, .ref a_mof, .ref a_mfrom, .int (nI mMs), .ref a_mbit, .ref a_mdone, .ref a_mrests, .ref a_mxx, .ref a_myy, .ref a_mdepth, .ref a_mone, .int (nI mG), .int (nI mCk), .int mFw, .int (nI mRd), .ref a_mbefore, .ref a_mfirst, .ref a_mturned])), (a_mxx, .inl (cI, 2600, .inl (nF (upN mX mG (min X Y))))), (a_myy, .inl (cI, 2600, .inl (nF (upN mY mG (max X Y))))), (a_mdepth, .inl (cI, 2600, .inl (nF mDe)))] := hD
                      refine lv_aload_n hx hb d_Mod_join_141 rfl (lv_at hl 3 rfl) ?_
                      refine va_get (D := (dC, dI)) (ci := 6) (v := .ref a_mdepth) (C := R_Mod) (T := F_Mod) (N := 27) hx hb hts (wi i_Mod) hown hK hP 0 rfl rfl 18 (by decide) (hts _ (mt 560 rfl rfl)) (fun _ h9 => h9) rfl d_Mod_join_142 ?_
                      refine lv_aload_n hx hb d_Mod_join_145 rfl (lv_at hl 3 rfl) ?_
                      refine va_get (D := (dC, dI)) (ci := 6) (v := .int (nI mG)) (C := R_Mod) (T := F_Mod) (N := 27) hx hb hts (wi i_Mod) hown hK hP 0 rfl rfl 20 (by decide) (hts _ (mt 562 rfl rfl)) (fun _ h9 => h9) rfl d_Mod_join_146 ?_
                      refine lv_iconst (v := nI 1) hx hb d_Mod_join_149 rfl ?_
                      refine lv_aload_n hx hb d_Mod_join_150 rfl (lv_at hl 3 rfl) ?_
                      refine lv_iload_n hx hb d_Mod_join_151 rfl (lv_at hl 2 rfl) ?_
                      refine k_i (wr := [(a_mxx, .inl (cI, 2600, .inl (nF (upN mX mG (min X Y))))), (a_myy, .inl (cI, 2600, .inl (nF (upN mY mG (max X Y)))))]) (w2 := fun (u : Unit) => [(a_mod, .inr (6, [.ref a_mkind, .ref a_mwidth, .ref a_mreset, .ref a_mop, .ref a_mka, .ref a_mkb, .ref a_mkc, .ref a_mheld, .int (nI mN), .ref a_msort, .ref a_mof, .ref a_mfrom, .int (nI mMs), .ref a_mbit, .ref a_mdone, .ref a_mrests, .ref a_mxx, .ref a_myy, .ref a_mdepth, .ref a_mone, .int (nI mG), .int (nI mCk), .int mFw, .int (nI mRd), .ref a_mbefore, .ref a_mfirst, .ref a_mturned])), (a_mxx, .inl (cI, 2600, .inl (nF (upN mX mG (min X Y))))), (a_myy, .inl (cI, 2600, .inl (nF (upN mY mG (max X Y))))), (a_mdepth, .inl (cI, 2600, .inl (nF mDe)))]) (va_runV (As := [.int (nI (min X Y))]) (rest := [.int (nI 1), .int (nI mG), .ref a_mdepth]) ⟨hx, hb, hml, hown, hts⟩ (c_Mod_depthOf l dC dI cI cZ a_mod a_mkind a_mwidth a_mreset a_mop a_mka a_mkb a_mkc a_mheld a_msort a_mof a_mfrom a_mbit a_mdone a_mrests a_mxx a_myy a_mdepth a_mone a_mbefore a_mfirst a_mturned tt H.size mN mMs mG mCk mFw mRd mDe gd P Dp Sl T K (min X Y) (by omega) (by omega) (by omega) (by omega) b_mDe hN (fun i h => (hXY i h).2.2.2) (by omega)) (cwV 1 hts (gd_V in_tl (mw 706 rfl rfl) (mw 708 rfl rfl) (mw 33 rfl rfl) (mw 47 rfl rfl) (mw 709 rfl rfl)) rfl rfl rfl (by decide +kernel) ⟨Nat.le_of_ble_eq_true rfl, Nat.le_of_ble_eq_true rfl⟩) (k_preV hK hP hD hS hA hE [0, 3] (by decide) rfl 6 0 rfl rfl) rfl rfl hl.1 rfl (lv_room (Nat.le_of_ble_eq_true rfl)) d_Mod_join_152 ⟨Nat.zero_le _, Nat.zero_le _⟩) hP hD hS hA [0, 3] [1, 2] [2, 0, 1, 3] rfl rfl (by decide) (by decide) (by decide) (fun _ => rfl) (fun r_5 u H locs hw hP hD hS => ?_)
                      obtain rfl : (r_5 = nI (Dp ((min X Y) / 2))) := hw
                      have hP : va_P (dC, dI) classes [(a_mod, .inr (6, [.ref a_mkind, .ref a_mwidth, .ref a_mreset, .ref a_mop, .ref a_mka, .ref a_mkb, .ref a_mkc, .ref a_mheld, .int (nI mN), .ref a_msort, .ref a_mof, .ref a_mfrom, .int (nI mMs), .ref a_mbit, .ref a_mdone, .ref a_mrests, .ref a_mxx, .ref a_myy, .ref a_mdepth, .ref a_mone, .int (nI mG), .int (nI mCk), .int mFw, .int (nI mRd), .ref a_mbefore, .ref a_mfirst, .ref a_mturned])), (a_mxx, .inl (cI, 2600, .inl (nF (upN mX mG (min X Y))))), (a_myy, .inl (cI, 2600, .inl (nF (upN mY mG (max X Y))))), (a_mdepth, .inl (cI, 2600, .inl (nF mDe)))] H := hP
                      have hD : va_D A [(a_mod, .inr (6, [.ref a_mkind, .ref a_mwidth, .ref a_mreset, .ref a_mop, .ref a_mka, .ref a_mkb, .ref a_mkc, .ref a_mheld, .int (nI mN), .ref a_msort, .ref a_mof, .ref a_mfrom, .int (nI mMs), .ref a_mbit, .ref a_mdone, .ref a_mrests, .ref a_mxx, .ref a_myy, .ref a_mdepth, .ref a_mone, .int (nI mG), .int (nI mCk), .int mFw, .int (nI mRd), .ref a_mbefore, .ref a_mfirst, .ref a_mturned])), (a_mxx, .inl (cI, 2600, .inl (nF (upN mX mG (min X Y))))), (a_myy, .inl (cI, 2600, .inl (nF (upN mY mG (max X Y))))), (a_mdepth, .inl (cI, 2600, .inl (nF mDe)))] := hD
                      refine lv_aload_n hx hb d_Mod_join_155 rfl (lv_at hl 3 rfl) ?_
                      refine lv_iload hx hb d_Mod_join_156 (lv_at hl 1 rfl) ?_
                      refine k_i (wr := [(a_mxx, .inl (cI, 2600, .inl (nF (upN mX mG (min X Y))))), (a_myy, .inl (cI, 2600, .inl (nF (upN mY mG (max X Y)))))]) (w2 := fun (u : Unit) => [(a_mod, .inr (6, [.ref a_mkind, .ref a_mwidth, .ref a_mreset, .ref a_mop, .ref a_mka, .ref a_mkb, .ref a_mkc, .ref a_mheld, .int (nI mN), .ref a_msort, .ref a_mof, .ref a_mfrom, .int (nI mMs), .ref a_mbit, .ref a_mdone, .ref a_mrests, .ref a_mxx, .ref a_myy, .ref a_mdepth, .ref a_mone, .int (nI mG), .int (nI mCk), .int mFw, .int (nI mRd), .ref a_mbefore, .ref a_mfirst, .ref a_mturned])), (a_mxx, .inl (cI, 2600, .inl (nF (upN mX mG (min X Y))))), (a_myy, .inl (cI, 2600, .inl (nF (upN mY mG (max X Y))))), (a_mdepth, .inl (cI, 2600, .inl (nF mDe)))]) (va_runV (As := [.int (nI (max X Y))]) (rest := [.int (nI (Dp ((min X Y) / 2))), .int (nI 1), .int (nI mG), .ref a_mdepth]) ⟨hx, hb, hml, hown, hts⟩ (c_Mod_depthOf l dC dI cI cZ a_mod a_mkind a_mwidth a_mreset a_mop a_mka a_mkb a_mkc a_mheld a_msort a_mof a_mfrom a_mbit a_mdone a_mrests a_mxx a_myy a_mdepth a_mone a_mbefore a_mfirst a_mturned tt H.size mN mMs mG mCk mFw mRd mDe gd P Dp Sl T K (max X Y) (by omega) (by omega) (by omega) (by omega) b_mDe hN (fun i h => (hXY i h).2.2.2) (by omega)) (cwV 1 hts (gd_V in_tl (mw 706 rfl rfl) (mw 708 rfl rfl) (mw 33 rfl rfl) (mw 47 rfl rfl) (mw 709 rfl rfl)) rfl rfl rfl (by decide +kernel) ⟨Nat.le_of_ble_eq_true rfl, Nat.le_of_ble_eq_true rfl⟩) (k_preV hK hP hD hS hA hE [0, 3] (by decide) rfl 6 0 rfl rfl) rfl rfl hl.1 rfl (lv_room (Nat.le_of_ble_eq_true rfl)) d_Mod_join_158 ⟨Nat.zero_le _, Nat.zero_le _⟩) hP hD hS hA [0, 3] [1, 2] [2, 0, 1, 3] rfl rfl (by decide) (by decide) (by decide) (fun _ => rfl) (fun r_6 u H locs hw hP hD hS => ?_)
                      obtain rfl : (r_6 = nI (Dp ((max X Y) / 2))) := hw
                      have hP : va_P (dC, dI) classes [(a_mod, .inr (6, [.ref a_mkind, .ref a_mwidth, .ref a_mreset, .ref a_mop, .ref a_mka, .ref a_mkb, .ref a_mkc, .ref a_mheld, .int (nI mN), .ref a_msort, .ref a_mof, .ref a_mfrom, .int (nI mMs), .ref a_mbit, .ref a_mdone, .ref a_mrests, .ref a_mxx, .ref a_myy, .ref a_mdepth, .ref a_mone, .int (nI mG), .int (nI mCk), .int mFw, .int (nI mRd), .ref a_mbefore, .ref a_mfirst, .ref a_mturned])), (a_mxx, .inl (cI, 2600, .inl (nF (upN mX mG (min X Y))))), (a_myy, .inl (cI, 2600, .inl (nF (upN mY mG (max X Y))))), (a_mdepth, .inl (cI, 2600, .inl (nF mDe)))] H := hP
                      have hD : va_D A [(a_mod, .inr (6, [.ref a_mkind, .ref a_mwidth, .ref a_mreset, .ref a_mop, .ref a_mka, .ref a_mkb, .ref a_mkc, .ref a_mheld, .int (nI mN), .ref a_msort, .ref a_mof, .ref a_mfrom, .int (nI mMs), .ref a_mbit, .ref a_mdone, .ref a_mrests, .ref a_mxx, .ref a_myy, .ref a_mdepth, .ref a_mone, .int (nI mG), .int (nI mCk), .int mFw, .int (nI mRd), .ref a_mbefore, .ref a_mfirst, .ref a_mturned])), (a_mxx, .inl (cI, 2600, .inl (nF (upN mX mG (min X Y))))), (a_myy, .inl (cI, 2600, .inl (nF (upN mY mG (max X Y))))), (a_mdepth, .inl (cI, 2600, .inl (nF mDe)))] := hD
                      refine k_i (wr := [(a_mod, .inr (6, [.ref a_mkind, .ref a_mwidth, .ref a_mreset, .ref a_mop, .ref a_mka, .ref a_mkb, .ref a_mkc, .ref a_mheld, .int (nI mN), .ref a_msort, .ref a_mof, .ref a_mfrom, .int (nI mMs), .ref a_mbit, .ref a_mdone, .ref a_mrests, .ref a_mxx, .ref a_myy, .ref a_mdepth, .ref a_mone, .int (nI mG), .int (nI mCk), .int mFw, .int (nI mRd), .ref a_mbefore, .ref a_mfirst, .ref a_mturned])), (a_mxx, .inl (cI, 2600, .inl (nF (upN mX mG (min X Y))))), (a_myy, .inl (cI, 2600, .inl (nF (upN mY mG (max X Y))))), (a_mdepth, .inl (cI, 2600, .inl (nF mDe)))]) (w2 := fun (u : Unit) => [(a_mod, .inr (6, [.ref a_mkind, .ref a_mwidth, .ref a_mreset, .ref a_mop, .ref a_mka, .ref a_mkb, .ref a_mkc, .ref a_mheld, .int (nI mN), .ref a_msort, .ref a_mof, .ref a_mfrom, .int (nI mMs), .ref a_mbit, .ref a_mdone, .ref a_mrests, .ref a_mxx, .ref a_myy, .ref a_mdepth, .ref a_mone, .int (nI mG), .int (nI mCk), .int mFw, .int (nI mRd), .ref a_mbefore, .ref a_mfirst, .ref a_mturned])), (a_mxx, .inl (cI, 2600, .inl (nF (upN mX mG (min X Y))))), (a_myy, .inl (cI, 2600, .inl (nF (upN mY mG (max X Y))))), (a_mdepth, .inl (cI, 2600, .inl (nF mDe)))]) (va_runS (As := [.int (nI (Dp ((min X Y) / 2))), .int (nI (Dp ((max X Y) / 2)))]) (rest := [.int (nI 1), .int (nI mG), .ref a_mdepth]) ⟨hx, hb, hml, hown, hts⟩ (c_Mod_more l dC dI cI cZ  tt H.size  (Dp ((min X Y) / 2)) (Dp ((max X Y) / 2)) (by omega) (by omega)) (va_cwS 2 hts (gd_S in_tl (mw 647 rfl rfl) (mw 648 rfl rfl) (mw 47 rfl rfl) (mw 649 rfl rfl)) rfl rfl rfl (by decide +kernel) ⟨Nat.le_of_ble_eq_true rfl, Nat.le_of_ble_eq_true rfl⟩) (k_preS hK hP hD hS hA hE [] (by decide) rfl) rfl rfl hl.1 rfl (lv_room (Nat.le_of_ble_eq_true rfl)) d_Mod_join_161 ⟨Nat.zero_le _, Nat.zero_le _⟩) hP hD hS hA [] [0, 1, 2, 3] [0, 1, 2, 3] rfl rfl (by decide) (by decide) (by decide) (fun _ => rfl) (fun r_7 u H locs hw hP hD hS => ?_)
                      obtain rfl : (r_7 = nI (max (Dp ((min X Y) / 2)) (Dp ((max X Y) / 2)))) := hw
                      have hP : va_P (dC, dI) classes [(a_mod, .inr (6, [.ref a_mkind, .ref a_mwidth, .ref a_mreset, .ref a_mop, .ref a_mka, .ref a_mkb, .ref a_mkc, .ref a_mheld, .int (nI mN), .ref a_msort, .ref a_mof, .ref a_mfrom, .int (nI mMs), .ref a_mbit, .ref a_mdone, .ref a_mrests, .ref a_mxx, .ref a_myy, .ref a_mdepth, .ref a_mone, .int (nI mG), .int (nI mCk), .int mFw, .int (nI mRd), .ref a_mbefore, .ref a_mfirst, .ref a_mturned])), (a_mxx, .inl (cI, 2600, .inl (nF (upN mX mG (min X Y))))), (a_myy, .inl (cI, 2600, .inl (nF (upN mY mG (max X Y))))), (a_mdepth, .inl (cI, 2600, .inl (nF mDe)))] H := hP
                      have hD : va_D A [(a_mod, .inr (6, [.ref a_mkind, .ref a_mwidth, .ref a_mreset, .ref a_mop, .ref a_mka, .ref a_mkb, .ref a_mkc, .ref a_mheld, .int (nI mN), .ref a_msort, .ref a_mof, .ref a_mfrom, .int (nI mMs), .ref a_mbit, .ref a_mdone, .ref a_mrests, .ref a_mxx, .ref a_myy, .ref a_mdepth, .ref a_mone, .int (nI mG), .int (nI mCk), .int mFw, .int (nI mRd), .ref a_mbefore, .ref a_mfirst, .ref a_mturned])), (a_mxx, .inl (cI, 2600, .inl (nF (upN mX mG (min X Y))))), (a_myy, .inl (cI, 2600, .inl (nF (upN mY mG (max X Y))))), (a_mdepth, .inl (cI, 2600, .inl (nF mDe)))] := hD
                      refine lv_iadd hx hb d_Mod_join_164 ?_
                      refine k_top (nI_add _ _) ?_
                      refine k_ist hx hb hK hP hD hS 3 0 rfl rfl (by omega) (by decide) d_Mod_join_165 (fun H locs hP hD hS => ?_)
                      have bb_8 : ∀ j, upN mDe mG (1 + (max (Dp ((min X Y) / 2)) (Dp ((max X Y) / 2)))) j < 1400 := upN_lt b_mDe (by omega)
                      have hP : va_P (dC, dI) classes [(a_mod, .inr (6, [.ref a_mkind, .ref a_mwidth, .ref a_mreset, .ref a_mop, .ref a_mka, .ref a_mkb, .ref a_mkc, .ref a_mheld, .int (nI mN), .ref a_msort, .ref a_mof, .ref a_mfrom, .int (nI mMs), .ref a_mbit, .ref a_mdone, .ref a_mrests, .ref a_mxx, .ref a_myy, .ref a_mdepth, .ref a_mone, .int (nI mG), .int (nI mCk), .int mFw, .int (nI mRd), .ref a_mbefore, .ref a_mfirst, .ref a_mturned])), (a_mxx, .inl (cI, 2600, .inl (nF (upN mX mG (min X Y))))), (a_myy, .inl (cI, 2600, .inl (nF (upN mY mG (max X Y))))), (a_mdepth, .inl (cI, 2600, .inl (nF (upN mDe mG (1 + (max (Dp ((min X Y) / 2)) (Dp ((max X Y) / 2))))))))] H := hP
                      have hD : va_D A [(a_mod, .inr (6, [.ref a_mkind, .ref a_mwidth, .ref a_mreset, .ref a_mop, .ref a_mka, .ref a_mkb, .ref a_mkc, .ref a_mheld, .int (nI mN), .ref a_msort, .ref a_mof, .ref a_mfrom, .int (nI mMs), .ref a_mbit, .ref a_mdone, .ref a_mrests, .ref a_mxx, .ref a_myy, .ref a_mdepth, .ref a_mone, .int (nI mG), .int (nI mCk), .int mFw, .int (nI mRd), .ref a_mbefore, .ref a_mfirst, .ref a_mturned])), (a_mxx, .inl (cI, 2600, .inl (nF (upN mX mG (min X Y))))), (a_myy, .inl (cI, 2600, .inl (nF (upN mY mG (max X Y))))), (a_mdepth, .inl (cI, 2600, .inl (nF (upN mDe mG (1 + (max (Dp ((min X Y) / 2)) (Dp ((max X Y) / 2))))))))] := hD
                      refine lv_aload_n hx hb d_Mod_join_166 rfl (lv_at hl 3 rfl) ?_
                      refine lv_dup hx hb d_Mod_join_167 rfl ?_
                      refine va_get (D := (dC, dI)) (ci := 6) (v := .int (nI mG)) (C := R_Mod) (T := F_Mod) (N := 27) hx hb hts (wi i_Mod) hown hK hP 0 rfl rfl 20 (by decide) (hts _ (mt 562 rfl rfl)) (fun _ h9 => h9) rfl d_Mod_join_168 ?_
                      refine lv_iconst (v := nI 1) hx hb d_Mod_join_171 rfl ?_
                      refine lv_iadd hx hb d_Mod_join_172 ?_
                      refine k_top (nI_add _ _) ?_
                      refine va_put (D := (dC, dI)) (ci := 6) (v := .int (nI (mG + 1))) (ty := .int) (C := R_Mod) (T := F_Mod) (N := 27) hx hb hts (wi i_Mod) t_Mod t_Mod_ok n_Mod hown hK hP hD hS 0 rfl rfl 20 (by decide) (hts _ (mt 562 rfl rfl)) (fun _ h9 => h9) rfl (by decide +kernel) rfl rfl (Nat.le_of_ble_eq_true rfl) d_Mod_join_173 (fun H locs hP hD hS => ?_)
                      have hP : va_P (dC, dI) classes [(a_mod, .inr (6, [.ref a_mkind, .ref a_mwidth, .ref a_mreset, .ref a_mop, .ref a_mka, .ref a_mkb, .ref a_mkc, .ref a_mheld, .int (nI mN), .ref a_msort, .ref a_mof, .ref a_mfrom, .int (nI mMs), .ref a_mbit, .ref a_mdone, .ref a_mrests, .ref a_mxx, .ref a_myy, .ref a_mdepth, .ref a_mone, .int (nI (mG + 1)), .int (nI mCk), .int mFw, .int (nI mRd), .ref a_mbefore, .ref a_mfirst, .ref a_mturned])), (a_mxx, .inl (cI, 2600, .inl (nF (upN mX mG (min X Y))))), (a_myy, .inl (cI, 2600, .inl (nF (upN mY mG (max X Y))))), (a_mdepth, .inl (cI, 2600, .inl (nF (upN mDe mG (1 + (max (Dp ((min X Y) / 2)) (Dp ((max X Y) / 2))))))))] H := hP
                      have hD : va_D A [(a_mod, .inr (6, [.ref a_mkind, .ref a_mwidth, .ref a_mreset, .ref a_mop, .ref a_mka, .ref a_mkb, .ref a_mkc, .ref a_mheld, .int (nI mN), .ref a_msort, .ref a_mof, .ref a_mfrom, .int (nI mMs), .ref a_mbit, .ref a_mdone, .ref a_mrests, .ref a_mxx, .ref a_myy, .ref a_mdepth, .ref a_mone, .int (nI (mG + 1)), .int (nI mCk), .int mFw, .int (nI mRd), .ref a_mbefore, .ref a_mfirst, .ref a_mturned])), (a_mxx, .inl (cI, 2600, .inl (nF (upN mX mG (min X Y))))), (a_myy, .inl (cI, 2600, .inl (nF (upN mY mG (max X Y))))), (a_mdepth, .inl (cI, 2600, .inl (nF (upN mDe mG (1 + (max (Dp ((min X Y) / 2)) (Dp ((max X Y) / 2))))))))] := hD
                      refine lv_iconst (v := nI 2) hx hb d_Mod_join_176 rfl ?_
                      refine lv_bipush (v := nI 113) hx hb d_Mod_join_177 rfl ?_
                      refine lv_aload_n hx hb d_Mod_join_179 rfl (lv_at hl 3 rfl) ?_
                      refine va_get (D := (dC, dI)) (ci := 6) (v := .int (nI (mG + 1))) (C := R_Mod) (T := F_Mod) (N := 27) hx hb hts (wi i_Mod) hown hK hP 0 rfl rfl 20 (by decide) (hts _ (mt 562 rfl rfl)) (fun _ h9 => h9) rfl d_Mod_join_180 ?_
                      refine lv_iadd hx hb d_Mod_join_183 ?_
                      refine k_top (nI_add _ _) ?_
                      refine lv_iconst (v := nI 1) hx hb d_Mod_join_184 rfl ?_
                      refine lv_isub hx hb d_Mod_join_185 ?_
                      refine k_top (pk_sub (by omega)) ?_
                      refine lv_imul hx hb d_Mod_join_186 ?_
                      refine k_top (pk_mul _ _) ?_
                      refine k_top (congrArg nI (show 2 * ((113 + (mG + 1)) - 1) = 2 * (113 + mG) from (by omega))) ?_
                      exact W.iret (v := nI (2 * (113 + mG))) hx hb hr (fun t ht hW => ⟨⟨nI (2 * (113 + mG)), (mG + 1, upN mX mG (min X Y), upN mY mG (max X Y), upN mDe mG (1 + (max (Dp ((min X Y) / 2)) (Dp ((max X Y) / 2)))), max gd (1 + max (Dp (min X Y / 2)) (Dp (max X Y / 2))), upN P (113 + mG) (min X Y * 4096 + max X Y), upN Dp (113 + mG) (1 + max (Dp (min X Y / 2)) (Dp (max X Y / 2))), upN Sl kf (113 + mG), upN T (113 + mG) (gN (LT T X) (LT T Y))), rfl, ⟨2 * (113 + mG), rfl, (show (mG + 1) ≤ 1280 from by omega), bb_3, bb_4, bb_8, (show NJ (mG + 1) (max gd (1 + max (Dp (min X Y / 2)) (Dp (max X Y / 2)))) (upN P (113 + mG) (min X Y * 4096 + max X Y)) (upN Dp (113 + mG) (1 + max (Dp (min X Y / 2)) (Dp (max X Y / 2)))) (upN Sl kf (113 + mG)) (upN T (113 + mG) (gN (LT T X) (LT T Y))) from hJ.1), (show MXY (mG + 1) (upN mX mG (min X Y)) (upN mY mG (max X Y)) (upN mDe mG (1 + (max (Dp ((min X Y) / 2)) (Dp ((max X Y) / 2))))) (upN P (113 + mG) (min X Y * 4096 + max X Y)) (upN Dp (113 + mG) (1 + max (Dp (min X Y / 2)) (Dp (max X Y / 2)))) from hXY2), (show ST T mG (upN T (113 + mG) (gN (LT T X) (LT T Y))) (mG + 1) (jl (LT T X) (LT T Y)) from hJ.2.1), (show (2 * (113 + mG)) < 2 * (113 + (mG + 1)) from by omega), (show LT (upN T (113 + mG) (gN (LT T X) (LT T Y))) (2 * (113 + mG)) = jn (LT T X) (LT T Y) from hJ.2.2), (show AL K (upN T (113 + mG) (gN (LT T X) (LT T Y))) (mG + 1) from AL_st hAL hJ.2.1 hin)⟩, by rw [ht]; exact hP, va_K.moved hW.alike hK, hD⟩, hS.F ht⟩) hS.2.2 d_Mod_join_187
                    · skip
                      have c115 : mG = 2600 := (nI_eq (by omega) (by omega)).mp c115
                      omega
                  · skip
                    have c68 : ¬ (mG ≤ i) := fun h => c68 ((nI_leI (by omega) (by omega)).mpr h)
                    refine lv_aload_n hx hb d_Mod_join_71 rfl (lv_at hl 3 rfl) ?_
                    refine va_get (D := (dC, dI)) (ci := 6) (v := .ref a_mxx) (C := R_Mod) (T := F_Mod) (N := 27) hx hb hts (wi i_Mod) hown hK hP 0 rfl rfl 16 (by decide) (hts _ (mt 558 rfl rfl)) (fun _ h9 => h9) rfl d_Mod_join_72 ?_
                    refine lv_iload hx hb d_Mod_join_75 (lv_at hl 0 rfl) ?_
                    refine k_ild hx hb hK hP 1 0 rfl rfl (by omega) (by decide) d_Mod_join_77 ?_
                    have hb_9 := b_mX i
                    refine lv_iload_n hx hb d_Mod_join_78 rfl (lv_at hl 2 rfl) ?_
                    refine lv_icmp_ne (tgt := 102) hx hb d_Mod_join_79 (by decide) (fun c79 => ?_) (fun c79 => ?_)
                    · skip
                      have c79 : ¬ ((mX i) = (min X Y)) := fun h => c79 ((nI_eq (by omega) (by omega)).mpr h)
                      refine lv_iinc (v := nI (i + 1)) (lv' := [(5, .int (nI (i + 1))), (4, .int (nI (max X Y))), (3, .int (nI (min X Y))), (0, .ref a_mod), (1, .int (nI X)), (2, .int (nI Y))]) hx hb d_Mod_join_102 hl (k := 0) rfl (k_inc _ 1) (by decide) rfl (fun ls hl => ?_)
                      refine lv_goto (tgt := 62) hx hb d_Mod_join_105 (by decide) ?_
                      have hI_10 : (∀ j, j < (i + 1) → ¬ (mX j = min X Y ∧ mY j = max X Y)) ∧ ((i + 1) ≤ mG) := ⟨(fun j hj => by by_cases e : j = i; (subst e; omega); exact hi j (by omega)), (by omega)⟩
                      exact ih_2 (i + 1) hI_10 (show mG - (i + 1) < mG - i from by omega) _ _ _ hP hD hS (lv_sub hl [0, 1, 2, 3, 4, 5] rfl)
                    · skip
                      have c79 : (mX i) = (min X Y) := (nI_eq (by omega) (by omega)).mp c79
                      refine lv_aload_n hx hb d_Mod_join_82 rfl (lv_at hl 3 rfl) ?_
                      refine va_get (D := (dC, dI)) (ci := 6) (v := .ref a_myy) (C := R_Mod) (T := F_Mod) (N := 27) hx hb hts (wi i_Mod) hown hK hP 0 rfl rfl 17 (by decide) (hts _ (mt 559 rfl rfl)) (fun _ h9 => h9) rfl d_Mod_join_83 ?_
                      refine lv_iload hx hb d_Mod_join_86 (lv_at hl 0 rfl) ?_
                      refine k_ild hx hb hK hP 2 0 rfl rfl (by omega) (by decide) d_Mod_join_88 ?_
                      have hb_11 := b_mY i
                      refine lv_iload hx hb d_Mod_join_89 (lv_at hl 1 rfl) ?_
                      refine lv_icmp_ne (tgt := 102) hx hb d_Mod_join_91 (by decide) (fun c91 => ?_) (fun c91 => ?_)
                      · skip
                        have c91 : ¬ ((mY i) = (max X Y)) := fun h => c91 ((nI_eq (by omega) (by omega)).mpr h)
                        refine lv_iinc (v := nI (i + 1)) (lv' := [(5, .int (nI (i + 1))), (4, .int (nI (max X Y))), (3, .int (nI (min X Y))), (0, .ref a_mod), (1, .int (nI X)), (2, .int (nI Y))]) hx hb d_Mod_join_102 hl (k := 0) rfl (k_inc _ 1) (by decide) rfl (fun ls hl => ?_)
                        refine lv_goto (tgt := 62) hx hb d_Mod_join_105 (by decide) ?_
                        have hI_12 : (∀ j, j < (i + 1) → ¬ (mX j = min X Y ∧ mY j = max X Y)) ∧ ((i + 1) ≤ mG) := ⟨(fun j hj => by by_cases e : j = i; (subst e; omega); exact hi j (by omega)), (by omega)⟩
                        exact ih_2 (i + 1) hI_12 (show mG - (i + 1) < mG - i from by omega) _ _ _ hP hD hS (lv_sub hl [0, 1, 2, 3, 4, 5] rfl)
                      · skip
                        have c91 : (mY i) = (max X Y) := (nI_eq (by omega) (by omega)).mp c91
                        refine lv_iconst (v := nI 2) hx hb d_Mod_join_94 rfl ?_
                        refine lv_bipush (v := nI 113) hx hb d_Mod_join_95 rfl ?_
                        refine lv_iload hx hb d_Mod_join_97 (lv_at hl 0 rfl) ?_
                        refine lv_iadd hx hb d_Mod_join_99 ?_
                        refine k_top (nI_add _ _) ?_
                        refine lv_imul hx hb d_Mod_join_100 ?_
                        refine k_top (pk_mul _ _) ?_
                        have hxy := hXY i (by omega)
                        have hJ := J_oldN hN.1 hX hY b_mG hne h3.2 (n := 113 + i) (by omega) (by omega) (by rw [hxy.1, c79, c91])
                        exact W.iret (v := nI (2 * (113 + i))) hx hb hr (fun t ht hW => ⟨⟨nI (2 * (113 + i)), (mG, mX, mY, mDe, gd, P, Dp, Sl, T), rfl, ⟨2 * (113 + i), rfl, (show mG ≤ 1280 from by omega), b_mX, b_mY, b_mDe, (show NJ mG gd P Dp Sl T from hN), (show MXY mG mX mY mDe P Dp from hXY), (show ST T mG T mG (jl (LT T X) (LT T Y)) from hJ.1), (show (2 * (113 + i)) < 2 * (113 + mG) from by omega), (show LT T (2 * (113 + i)) = jn (LT T X) (LT T Y) from hJ.2), (show AL K T mG from hAL)⟩, by rw [ht]; exact hP, va_K.moved hW.alike hK, hD⟩, hS.F ht⟩) hS.2.2 d_Mod_join_101
                · skip
                  have c49 : ¬ (Y ≤ X) := fun h => c49 ((nI_leI (by omega) (by omega)).mpr h)
                  refine lv_iload_n hx hb d_Mod_join_52 rfl (lv_at hl 3 rfl) ?_
                  refine lv_goto (tgt := 57) hx hb d_Mod_join_53 (by decide) ?_
                  refine k_top (congrArg nI (show Y = max X Y from (by omega))) ?_
                  refine lv_istore (lv' := [(4, .int (nI (max X Y))), (3, .int (nI (min X Y))), (0, .ref a_mod), (1, .int (nI X)), (2, .int (nI Y))]) hx hb d_Mod_join_57 hl (by decide) rfl (fun ls hl => ?_)
                  refine lv_iconst (v := nI 0) hx hb d_Mod_join_59 rfl ?_
                  refine lv_istore (lv' := [(5, .int (nI 0)), (4, .int (nI (max X Y))), (3, .int (nI (min X Y))), (0, .ref a_mod), (1, .int (nI X)), (2, .int (nI Y))]) hx hb d_Mod_join_60 hl (by decide) rfl (fun ls hl => ?_)
                  have hI_13 : (∀ j, j < 0 → ¬ (mX j = min X Y ∧ mY j = max X Y)) ∧ (0 ≤ mG) := ⟨(fun j h => absurd h (by omega)), (by omega)⟩
                  refine k_loop (σ := Nat) (D := (dC, dI)) (cl := classes) (A := A) (H0 := s.heap) (fun x => [(a_mod, .inr (6, [.ref a_mkind, .ref a_mwidth, .ref a_mreset, .ref a_mop, .ref a_mka, .ref a_mkb, .ref a_mkc, .ref a_mheld, .int (nI mN), .ref a_msort, .ref a_mof, .ref a_mfrom, .int (nI mMs), .ref a_mbit, .ref a_mdone, .ref a_mrests, .ref a_mxx, .ref a_myy, .ref a_mdepth, .ref a_mone, .int (nI mG), .int (nI mCk), .int mFw, .int (nI mRd), .ref a_mbefore, .ref a_mfirst, .ref a_mturned])), (a_mxx, .inl (cI, 2600, .inl (nF mX))), (a_myy, .inl (cI, 2600, .inl (nF mY))), (a_mdepth, .inl (cI, 2600, .inl (nF mDe)))]) (fun x => [(5, .int (nI x)), (4, .int (nI (max X Y))), (3, .int (nI (min X Y))), (0, .ref a_mod), (1, .int (nI X)), (2, .int (nI Y))]) (fun x => (∀ j, j < x → ¬ (mX j = min X Y ∧ mY j = max X Y)) ∧ (x ≤ mG)) (fun x => mG - x) ?_ (0) hI_13 hP hD hS (lv_sub hl [0, 1, 2, 3, 4, 5] rfl)
                  intro i hI ih_14 H locs ls hP hD hS hl
                  obtain ⟨hi, hig⟩ : (∀ j, j < i → ¬ (mX j = min X Y ∧ mY j = max X Y)) ∧ (i ≤ mG) := hI
                  have hP : va_P (dC, dI) classes [(a_mod, .inr (6, [.ref a_mkind, .ref a_mwidth, .ref a_mreset, .ref a_mop, .ref a_mka, .ref a_mkb, .ref a_mkc, .ref a_mheld, .int (nI mN), .ref a_msort, .ref a_mof, .ref a_mfrom, .int (nI mMs), .ref a_mbit, .ref a_mdone, .ref a_mrests, .ref a_mxx, .ref a_myy, .ref a_mdepth, .ref a_mone, .int (nI mG), .int (nI mCk), .int mFw, .int (nI mRd), .ref a_mbefore, .ref a_mfirst, .ref a_mturned])), (a_mxx, .inl (cI, 2600, .inl (nF mX))), (a_myy, .inl (cI, 2600, .inl (nF mY))), (a_mdepth, .inl (cI, 2600, .inl (nF mDe)))] H := hP
                  have hD : va_D A [(a_mod, .inr (6, [.ref a_mkind, .ref a_mwidth, .ref a_mreset, .ref a_mop, .ref a_mka, .ref a_mkb, .ref a_mkc, .ref a_mheld, .int (nI mN), .ref a_msort, .ref a_mof, .ref a_mfrom, .int (nI mMs), .ref a_mbit, .ref a_mdone, .ref a_mrests, .ref a_mxx, .ref a_myy, .ref a_mdepth, .ref a_mone, .int (nI mG), .int (nI mCk), .int mFw, .int (nI mRd), .ref a_mbefore, .ref a_mfirst, .ref a_mturned])), (a_mxx, .inl (cI, 2600, .inl (nF mX))), (a_myy, .inl (cI, 2600, .inl (nF mY))), (a_mdepth, .inl (cI, 2600, .inl (nF mDe)))] := hD
                  have hl : lv_has ls 6 [(5, .int (nI i)), (4, .int (nI (max X Y))), (3, .int (nI (min X Y))), (0, .ref a_mod), (1, .int (nI X)), (2, .int (nI Y))] := hl
                  refine lv_iload hx hb d_Mod_join_62 (lv_at hl 0 rfl) ?_
                  refine lv_aload_n hx hb d_Mod_join_64 rfl (lv_at hl 3 rfl) ?_
                  refine va_get (D := (dC, dI)) (ci := 6) (v := .int (nI mG)) (C := R_Mod) (T := F_Mod) (N := 27) hx hb hts (wi i_Mod) hown hK hP 0 rfl rfl 20 (by decide) (hts _ (mt 562 rfl rfl)) (fun _ h9 => h9) rfl d_Mod_join_65 ?_
                  refine lv_icmp_ge (tgt := 108) hx hb d_Mod_join_68 (by decide) (fun c68 => ?_) (fun c68 => ?_)
                  · skip
                    have c68 : mG ≤ i := (nI_leI (by omega) (by omega)).mp c68
                    refine lv_aload_n hx hb d_Mod_join_108 rfl (lv_at hl 3 rfl) ?_
                    refine va_get (D := (dC, dI)) (ci := 6) (v := .int (nI mG)) (C := R_Mod) (T := F_Mod) (N := 27) hx hb hts (wi i_Mod) hown hK hP 0 rfl rfl 20 (by decide) (hts _ (mt 562 rfl rfl)) (fun _ h9 => h9) rfl d_Mod_join_109 ?_
                    refine lv_sipush (v := nI 2600) hx hb d_Mod_join_112 rfl ?_
                    refine lv_icmp_ne (tgt := 120) hx hb d_Mod_join_115 (by decide) (fun c115 => ?_) (fun c115 => ?_)
                    · skip
                      have c115 : ¬ (mG = 2600) := fun h => c115 ((nI_eq (by omega) (by omega)).mpr h)
                      have hfr : ∀ n, 113 ≤ n → n < 113 + mG → P n ≠ min X Y * 4096 + max X Y := fun n n1 n2 e => by
                        have hxy := hXY (n - 113) (by omega)
                        rw [show 113 + (n - 113) = n by omega, e] at hxy
                        exact hi (n - 113) (by omega) (by omega)
                      have hnew := NI_new hN.1 (a := min X Y) (b := max X Y) (by omega) (by omega) hfr
                      rw [gN_mm] at hnew
                      have hlt : mG < 1280 := AL_lt hAL hN.1.2.2.2.1 (hin _ (by rw [h3.2.1]; exact List.mem_singleton.mpr rfl)) hnew
                      obtain ⟨kf, hkf, hff⟩ := Fnd_ex hN.1 b_mG (min X Y * 4096 + max X Y)
                      have hk0 := Fnd_new hN.1 hkf hff hfr
                      have hd1 := NI_dp hN.1 _ (min X Y / 2) (Nat.le_refl _) (by omega)
                      have hd2 := NI_dp hN.1 _ (max X Y / 2) (Nat.le_refl _) (by omega)
                      have hJ := J_new hN hX hY hne h3.1 h3.2 hkf hff hk0 rfl rfl
                      have hXY2 := MXY_add (a := min X Y) (b := max X Y) (dv := 1 + max (Dp (min X Y / 2)) (Dp (max X Y / 2))) hXY (by omega) (by omega)
                      refine lv_aload_n hx hb d_Mod_join_120 rfl (lv_at hl 3 rfl) ?_
                      refine va_get (D := (dC, dI)) (ci := 6) (v := .ref a_mxx) (C := R_Mod) (T := F_Mod) (N := 27) hx hb hts (wi i_Mod) hown hK hP 0 rfl rfl 16 (by decide) (hts _ (mt 558 rfl rfl)) (fun _ h9 => h9) rfl d_Mod_join_121 ?_
                      refine lv_aload_n hx hb d_Mod_join_124 rfl (lv_at hl 3 rfl) ?_
                      refine va_get (D := (dC, dI)) (ci := 6) (v := .int (nI mG)) (C := R_Mod) (T := F_Mod) (N := 27) hx hb hts (wi i_Mod) hown hK hP 0 rfl rfl 20 (by decide) (hts _ (mt 562 rfl rfl)) (fun _ h9 => h9) rfl d_Mod_join_125 ?_
                      refine lv_iload_n hx hb d_Mod_join_128 rfl (lv_at hl 2 rfl) ?_
                      refine k_ist hx hb hK hP hD hS 1 0 rfl rfl (by omega) (by decide) d_Mod_join_129 (fun H locs hP hD hS => ?_)
                      have bb_15 : ∀ j, upN mX mG (min X Y) j < 2786 := upN_lt b_mX (by omega)
                      have hP : va_P (dC, dI) classes [(a_mod, .inr (6, [.ref a_mkind, .ref a_mwidth, .ref a_mreset, .ref a_mop, .ref a_mka, .ref a_mkb, .ref a_mkc, .ref a_mheld, .int (nI mN), .ref a_msort, .ref a_mof, .ref a_mfrom, .int (nI mMs), .ref a_mbit, .ref a_mdone, .ref a_mrests, .ref a_mxx, .ref a_myy, .ref a_mdepth, .ref a_mone, .int (nI mG), .int (nI mCk), .int mFw, .int (nI mRd), .ref a_mbefore, .ref a_mfirst, .ref a_mturned])), (a_mxx, .inl (cI, 2600, .inl (nF (upN mX mG (min X Y))))), (a_myy, .inl (cI, 2600, .inl (nF mY))), (a_mdepth, .inl (cI, 2600, .inl (nF mDe)))] H := hP
                      have hD : va_D A [(a_mod, .inr (6, [.ref a_mkind, .ref a_mwidth, .ref a_mreset, .ref a_mop, .ref a_mka, .ref a_mkb, .ref a_mkc, .ref a_mheld, .int (nI mN), .ref a_msort, .ref a_mof, .ref a_mfrom, .int (nI mMs), .ref a_mbit, .ref a_mdone, .ref a_mrests, .ref a_mxx, .ref a_myy, .ref a_mdepth, .ref a_mone, .int (nI mG), .int (nI mCk), .int mFw, .int (nI mRd), .ref a_mbefore, .ref a_mfirst, .ref a_mturned])), (a_mxx, .inl (cI, 2600, .inl (nF (upN mX mG (min X Y))))), (a_myy, .inl (cI, 2600, .inl (nF mY))), (a_mdepth, .inl (cI, 2600, .inl (nF mDe)))] := hD
                      refine lv_aload_n hx hb d_Mod_join_130 rfl (lv_at hl 3 rfl) ?_
                      refine va_get (D := (dC, dI)) (ci := 6) (v := .ref a_myy) (C := R_Mod) (T := F_Mod) (N := 27) hx hb hts (wi i_Mod) hown hK hP 0 rfl rfl 17 (by decide) (hts _ (mt 559 rfl rfl)) (fun _ h9 => h9) rfl d_Mod_join_131 ?_
                      refine lv_aload_n hx hb d_Mod_join_134 rfl (lv_at hl 3 rfl) ?_
                      refine va_get (D := (dC, dI)) (ci := 6) (v := .int (nI mG)) (C := R_Mod) (T := F_Mod) (N := 27) hx hb hts (wi i_Mod) hown hK hP 0 rfl rfl 20 (by decide) (hts _ (mt 562 rfl rfl)) (fun _ h9 => h9) rfl d_Mod_join_135 ?_
                      refine lv_iload hx hb d_Mod_join_138 (lv_at hl 1 rfl) ?_
                      refine k_ist hx hb hK hP hD hS 2 0 rfl rfl (by omega) (by decide) d_Mod_join_140 (fun H locs hP hD hS => ?_)
                      have bb_16 : ∀ j, upN mY mG (max X Y) j < 2786 := upN_lt b_mY (by omega)
                      have hP : va_P (dC, dI) classes [(a_mod, .inr (6, [.ref a_mkind, .ref a_mwidth, .ref a_mreset, .ref a_mop, .ref a_mka, .ref a_mkb, .ref a_mkc, .ref a_mheld, .int (nI mN), .ref a_msort, .ref a_mof, .ref a_mfrom, .int (nI mMs), .ref a_mbit, .ref a_mdone, .ref a_mrests, .ref a_mxx, .ref a_myy, .ref a_mdepth, .ref a_mone, .int (nI mG), .int (nI mCk), .int mFw, .int (nI mRd), .ref a_mbefore, .ref a_mfirst, .ref a_mturned])), (a_mxx, .inl (cI, 2600, .inl (nF (upN mX mG (min X Y))))), (a_myy, .inl (cI, 2600, .inl (nF (upN mY mG (max X Y))))), (a_mdepth, .inl (cI, 2600, .inl (nF mDe)))] H := hP
                      have hD : va_D A [(a_mod, .inr (6, [.ref a_mkind, .ref a_mwidth, .ref a_mreset, .ref a_mop, .ref a_mka, .ref a_mkb, .ref a_mkc, .ref a_mheld, .int (nI mN), .ref a_msort, .ref a_mof, .ref a_mfrom, .int (nI mMs), .ref a_mbit, .ref a_mdone, .ref a_mrests, .ref a_mxx, .ref a_myy, .ref a_mdepth, .ref a_mone, .int (nI mG), .int (nI mCk), .int mFw, .int (nI mRd), .ref a_mbefore, .ref a_mfirst, .ref a_mturned])), (a_mxx, .inl (cI, 2600, .inl (nF (upN mX mG (min X Y))))), (a_myy, .inl (cI, 2600, .inl (nF (upN mY mG (max X Y))))), (a_mdepth, .inl (cI, 2600, .inl (nF mDe)))] := hD
                      refine lv_aload_n hx hb d_Mod_join_141 rfl (lv_at hl 3 rfl) ?_
                      refine va_get (D := (dC, dI)) (ci := 6) (v := .ref a_mdepth) (C := R_Mod) (T := F_Mod) (N := 27) hx hb hts (wi i_Mod) hown hK hP 0 rfl rfl 18 (by decide) (hts _ (mt 560 rfl rfl)) (fun _ h9 => h9) rfl d_Mod_join_142 ?_
                      refine lv_aload_n hx hb d_Mod_join_145 rfl (lv_at hl 3 rfl) ?_
                      refine va_get (D := (dC, dI)) (ci := 6) (v := .int (nI mG)) (C := R_Mod) (T := F_Mod) (N := 27) hx hb hts (wi i_Mod) hown hK hP 0 rfl rfl 20 (by decide) (hts _ (mt 562 rfl rfl)) (fun _ h9 => h9) rfl d_Mod_join_146 ?_
                      refine lv_iconst (v := nI 1) hx hb d_Mod_join_149 rfl ?_
                      refine lv_aload_n hx hb d_Mod_join_150 rfl (lv_at hl 3 rfl) ?_
                      refine lv_iload_n hx hb d_Mod_join_151 rfl (lv_at hl 2 rfl) ?_
                      refine k_i (wr := [(a_mxx, .inl (cI, 2600, .inl (nF (upN mX mG (min X Y))))), (a_myy, .inl (cI, 2600, .inl (nF (upN mY mG (max X Y)))))]) (w2 := fun (u : Unit) => [(a_mod, .inr (6, [.ref a_mkind, .ref a_mwidth, .ref a_mreset, .ref a_mop, .ref a_mka, .ref a_mkb, .ref a_mkc, .ref a_mheld, .int (nI mN), .ref a_msort, .ref a_mof, .ref a_mfrom, .int (nI mMs), .ref a_mbit, .ref a_mdone, .ref a_mrests, .ref a_mxx, .ref a_myy, .ref a_mdepth, .ref a_mone, .int (nI mG), .int (nI mCk), .int mFw, .int (nI mRd), .ref a_mbefore, .ref a_mfirst, .ref a_mturned])), (a_mxx, .inl (cI, 2600, .inl (nF (upN mX mG (min X Y))))), (a_myy, .inl (cI, 2600, .inl (nF (upN mY mG (max X Y))))), (a_mdepth, .inl (cI, 2600, .inl (nF mDe)))]) (va_runV (As := [.int (nI (min X Y))]) (rest := [.int (nI 1), .int (nI mG), .ref a_mdepth]) ⟨hx, hb, hml, hown, hts⟩ (c_Mod_depthOf l dC dI cI cZ a_mod a_mkind a_mwidth a_mreset a_mop a_mka a_mkb a_mkc a_mheld a_msort a_mof a_mfrom a_mbit a_mdone a_mrests a_mxx a_myy a_mdepth a_mone a_mbefore a_mfirst a_mturned tt H.size mN mMs mG mCk mFw mRd mDe gd P Dp Sl T K (min X Y) (by omega) (by omega) (by omega) (by omega) b_mDe hN (fun i h => (hXY i h).2.2.2) (by omega)) (cwV 1 hts (gd_V in_tl (mw 706 rfl rfl) (mw 708 rfl rfl) (mw 33 rfl rfl) (mw 47 rfl rfl) (mw 709 rfl rfl)) rfl rfl rfl (by decide +kernel) ⟨Nat.le_of_ble_eq_true rfl, Nat.le_of_ble_eq_true rfl⟩) (k_preV hK hP hD hS hA hE [0, 3] (by decide) rfl 6 0 rfl rfl) rfl rfl hl.1 rfl (lv_room (Nat.le_of_ble_eq_true rfl)) d_Mod_join_152 ⟨Nat.zero_le _, Nat.zero_le _⟩) hP hD hS hA [0, 3] [1, 2] [2, 0, 1, 3] rfl rfl (by decide) (by decide) (by decide) (fun _ => rfl) (fun r_17 u H locs hw hP hD hS => ?_)
                      obtain rfl : (r_17 = nI (Dp ((min X Y) / 2))) := hw
                      have hP : va_P (dC, dI) classes [(a_mod, .inr (6, [.ref a_mkind, .ref a_mwidth, .ref a_mreset, .ref a_mop, .ref a_mka, .ref a_mkb, .ref a_mkc, .ref a_mheld, .int (nI mN), .ref a_msort, .ref a_mof, .ref a_mfrom, .int (nI mMs), .ref a_mbit, .ref a_mdone, .ref a_mrests, .ref a_mxx, .ref a_myy, .ref a_mdepth, .ref a_mone, .int (nI mG), .int (nI mCk), .int mFw, .int (nI mRd), .ref a_mbefore, .ref a_mfirst, .ref a_mturned])), (a_mxx, .inl (cI, 2600, .inl (nF (upN mX mG (min X Y))))), (a_myy, .inl (cI, 2600, .inl (nF (upN mY mG (max X Y))))), (a_mdepth, .inl (cI, 2600, .inl (nF mDe)))] H := hP
                      have hD : va_D A [(a_mod, .inr (6, [.ref a_mkind, .ref a_mwidth, .ref a_mreset, .ref a_mop, .ref a_mka, .ref a_mkb, .ref a_mkc, .ref a_mheld, .int (nI mN), .ref a_msort, .ref a_mof, .ref a_mfrom, .int (nI mMs), .ref a_mbit, .ref a_mdone, .ref a_mrests, .ref a_mxx, .ref a_myy, .ref a_mdepth, .ref a_mone, .int (nI mG), .int (nI mCk), .int mFw, .int (nI mRd), .ref a_mbefore, .ref a_mfirst, .ref a_mturned])), (a_mxx, .inl (cI, 2600, .inl (nF (upN mX mG (min X Y))))), (a_myy, .inl (cI, 2600, .inl (nF (upN mY mG (max X Y))))), (a_mdepth, .inl (cI, 2600, .inl (nF mDe)))] := hD
                      refine lv_aload_n hx hb d_Mod_join_155 rfl (lv_at hl 3 rfl) ?_
                      refine lv_iload hx hb d_Mod_join_156 (lv_at hl 1 rfl) ?_
                      refine k_i (wr := [(a_mxx, .inl (cI, 2600, .inl (nF (upN mX mG (min X Y))))), (a_myy, .inl (cI, 2600, .inl (nF (upN mY mG (max X Y)))))]) (w2 := fun (u : Unit) => [(a_mod, .inr (6, [.ref a_mkind, .ref a_mwidth, .ref a_mreset, .ref a_mop, .ref a_mka, .ref a_mkb, .ref a_mkc, .ref a_mheld, .int (nI mN), .ref a_msort, .ref a_mof, .ref a_mfrom, .int (nI mMs), .ref a_mbit, .ref a_mdone, .ref a_mrests, .ref a_mxx, .ref a_myy, .ref a_mdepth, .ref a_mone, .int (nI mG), .int (nI mCk), .int mFw, .int (nI mRd), .ref a_mbefore, .ref a_mfirst, .ref a_mturned])), (a_mxx, .inl (cI, 2600, .inl (nF (upN mX mG (min X Y))))), (a_myy, .inl (cI, 2600, .inl (nF (upN mY mG (max X Y))))), (a_mdepth, .inl (cI, 2600, .inl (nF mDe)))]) (va_runV (As := [.int (nI (max X Y))]) (rest := [.int (nI (Dp ((min X Y) / 2))), .int (nI 1), .int (nI mG), .ref a_mdepth]) ⟨hx, hb, hml, hown, hts⟩ (c_Mod_depthOf l dC dI cI cZ a_mod a_mkind a_mwidth a_mreset a_mop a_mka a_mkb a_mkc a_mheld a_msort a_mof a_mfrom a_mbit a_mdone a_mrests a_mxx a_myy a_mdepth a_mone a_mbefore a_mfirst a_mturned tt H.size mN mMs mG mCk mFw mRd mDe gd P Dp Sl T K (max X Y) (by omega) (by omega) (by omega) (by omega) b_mDe hN (fun i h => (hXY i h).2.2.2) (by omega)) (cwV 1 hts (gd_V in_tl (mw 706 rfl rfl) (mw 708 rfl rfl) (mw 33 rfl rfl) (mw 47 rfl rfl) (mw 709 rfl rfl)) rfl rfl rfl (by decide +kernel) ⟨Nat.le_of_ble_eq_true rfl, Nat.le_of_ble_eq_true rfl⟩) (k_preV hK hP hD hS hA hE [0, 3] (by decide) rfl 6 0 rfl rfl) rfl rfl hl.1 rfl (lv_room (Nat.le_of_ble_eq_true rfl)) d_Mod_join_158 ⟨Nat.zero_le _, Nat.zero_le _⟩) hP hD hS hA [0, 3] [1, 2] [2, 0, 1, 3] rfl rfl (by decide) (by decide) (by decide) (fun _ => rfl) (fun r_18 u H locs hw hP hD hS => ?_)
                      obtain rfl : (r_18 = nI (Dp ((max X Y) / 2))) := hw
                      have hP : va_P (dC, dI) classes [(a_mod, .inr (6, [.ref a_mkind, .ref a_mwidth, .ref a_mreset, .ref a_mop, .ref a_mka, .ref a_mkb, .ref a_mkc, .ref a_mheld, .int (nI mN), .ref a_msort, .ref a_mof, .ref a_mfrom, .int (nI mMs), .ref a_mbit, .ref a_mdone, .ref a_mrests, .ref a_mxx, .ref a_myy, .ref a_mdepth, .ref a_mone, .int (nI mG), .int (nI mCk), .int mFw, .int (nI mRd), .ref a_mbefore, .ref a_mfirst, .ref a_mturned])), (a_mxx, .inl (cI, 2600, .inl (nF (upN mX mG (min X Y))))), (a_myy, .inl (cI, 2600, .inl (nF (upN mY mG (max X Y))))), (a_mdepth, .inl (cI, 2600, .inl (nF mDe)))] H := hP
                      have hD : va_D A [(a_mod, .inr (6, [.ref a_mkind, .ref a_mwidth, .ref a_mreset, .ref a_mop, .ref a_mka, .ref a_mkb, .ref a_mkc, .ref a_mheld, .int (nI mN), .ref a_msort, .ref a_mof, .ref a_mfrom, .int (nI mMs), .ref a_mbit, .ref a_mdone, .ref a_mrests, .ref a_mxx, .ref a_myy, .ref a_mdepth, .ref a_mone, .int (nI mG), .int (nI mCk), .int mFw, .int (nI mRd), .ref a_mbefore, .ref a_mfirst, .ref a_mturned])), (a_mxx, .inl (cI, 2600, .inl (nF (upN mX mG (min X Y))))), (a_myy, .inl (cI, 2600, .inl (nF (upN mY mG (max X Y))))), (a_mdepth, .inl (cI, 2600, .inl (nF mDe)))] := hD
                      refine k_i (wr := [(a_mod, .inr (6, [.ref a_mkind, .ref a_mwidth, .ref a_mreset, .ref a_mop, .ref a_mka, .ref a_mkb, .ref a_mkc, .ref a_mheld, .int (nI mN), .ref a_msort, .ref a_mof, .ref a_mfrom, .int (nI mMs), .ref a_mbit, .ref a_mdone, .ref a_mrests, .ref a_mxx, .ref a_myy, .ref a_mdepth, .ref a_mone, .int (nI mG), .int (nI mCk), .int mFw, .int (nI mRd), .ref a_mbefore, .ref a_mfirst, .ref a_mturned])), (a_mxx, .inl (cI, 2600, .inl (nF (upN mX mG (min X Y))))), (a_myy, .inl (cI, 2600, .inl (nF (upN mY mG (max X Y))))), (a_mdepth, .inl (cI, 2600, .inl (nF mDe)))]) (w2 := fun (u : Unit) => [(a_mod, .inr (6, [.ref a_mkind, .ref a_mwidth, .ref a_mreset, .ref a_mop, .ref a_mka, .ref a_mkb, .ref a_mkc, .ref a_mheld, .int (nI mN), .ref a_msort, .ref a_mof, .ref a_mfrom, .int (nI mMs), .ref a_mbit, .ref a_mdone, .ref a_mrests, .ref a_mxx, .ref a_myy, .ref a_mdepth, .ref a_mone, .int (nI mG), .int (nI mCk), .int mFw, .int (nI mRd), .ref a_mbefore, .ref a_mfirst, .ref a_mturned])), (a_mxx, .inl (cI, 2600, .inl (nF (upN mX mG (min X Y))))), (a_myy, .inl (cI, 2600, .inl (nF (upN mY mG (max X Y))))), (a_mdepth, .inl (cI, 2600, .inl (nF mDe)))]) (va_runS (As := [.int (nI (Dp ((min X Y) / 2))), .int (nI (Dp ((max X Y) / 2)))]) (rest := [.int (nI 1), .int (nI mG), .ref a_mdepth]) ⟨hx, hb, hml, hown, hts⟩ (c_Mod_more l dC dI cI cZ  tt H.size  (Dp ((min X Y) / 2)) (Dp ((max X Y) / 2)) (by omega) (by omega)) (va_cwS 2 hts (gd_S in_tl (mw 647 rfl rfl) (mw 648 rfl rfl) (mw 47 rfl rfl) (mw 649 rfl rfl)) rfl rfl rfl (by decide +kernel) ⟨Nat.le_of_ble_eq_true rfl, Nat.le_of_ble_eq_true rfl⟩) (k_preS hK hP hD hS hA hE [] (by decide) rfl) rfl rfl hl.1 rfl (lv_room (Nat.le_of_ble_eq_true rfl)) d_Mod_join_161 ⟨Nat.zero_le _, Nat.zero_le _⟩) hP hD hS hA [] [0, 1, 2, 3] [0, 1, 2, 3] rfl rfl (by decide) (by decide) (by decide) (fun _ => rfl) (fun r_19 u H locs hw hP hD hS => ?_)
                      obtain rfl : (r_19 = nI (max (Dp ((min X Y) / 2)) (Dp ((max X Y) / 2)))) := hw
                      have hP : va_P (dC, dI) classes [(a_mod, .inr (6, [.ref a_mkind, .ref a_mwidth, .ref a_mreset, .ref a_mop, .ref a_mka, .ref a_mkb, .ref a_mkc, .ref a_mheld, .int (nI mN), .ref a_msort, .ref a_mof, .ref a_mfrom, .int (nI mMs), .ref a_mbit, .ref a_mdone, .ref a_mrests, .ref a_mxx, .ref a_myy, .ref a_mdepth, .ref a_mone, .int (nI mG), .int (nI mCk), .int mFw, .int (nI mRd), .ref a_mbefore, .ref a_mfirst, .ref a_mturned])), (a_mxx, .inl (cI, 2600, .inl (nF (upN mX mG (min X Y))))), (a_myy, .inl (cI, 2600, .inl (nF (upN mY mG (max X Y))))), (a_mdepth, .inl (cI, 2600, .inl (nF mDe)))] H := hP
                      have hD : va_D A [(a_mod, .inr (6, [.ref a_mkind, .ref a_mwidth, .ref a_mreset, .ref a_mop, .ref a_mka, .ref a_mkb, .ref a_mkc, .ref a_mheld, .int (nI mN), .ref a_msort, .ref a_mof, .ref a_mfrom, .int (nI mMs), .ref a_mbit, .ref a_mdone, .ref a_mrests, .ref a_mxx, .ref a_myy, .ref a_mdepth, .ref a_mone, .int (nI mG), .int (nI mCk), .int mFw, .int (nI mRd), .ref a_mbefore, .ref a_mfirst, .ref a_mturned])), (a_mxx, .inl (cI, 2600, .inl (nF (upN mX mG (min X Y))))), (a_myy, .inl (cI, 2600, .inl (nF (upN mY mG (max X Y))))), (a_mdepth, .inl (cI, 2600, .inl (nF mDe)))] := hD
                      refine lv_iadd hx hb d_Mod_join_164 ?_
                      refine k_top (nI_add _ _) ?_
                      refine k_ist hx hb hK hP hD hS 3 0 rfl rfl (by omega) (by decide) d_Mod_join_165 (fun H locs hP hD hS => ?_)
                      have bb_20 : ∀ j, upN mDe mG (1 + (max (Dp ((min X Y) / 2)) (Dp ((max X Y) / 2)))) j < 1400 := upN_lt b_mDe (by omega)
                      have hP : va_P (dC, dI) classes [(a_mod, .inr (6, [.ref a_mkind, .ref a_mwidth, .ref a_mreset, .ref a_mop, .ref a_mka, .ref a_mkb, .ref a_mkc, .ref a_mheld, .int (nI mN), .ref a_msort, .ref a_mof, .ref a_mfrom, .int (nI mMs), .ref a_mbit, .ref a_mdone, .ref a_mrests, .ref a_mxx, .ref a_myy, .ref a_mdepth, .ref a_mone, .int (nI mG), .int (nI mCk), .int mFw, .int (nI mRd), .ref a_mbefore, .ref a_mfirst, .ref a_mturned])), (a_mxx, .inl (cI, 2600, .inl (nF (upN mX mG (min X Y))))), (a_myy, .inl (cI, 2600, .inl (nF (upN mY mG (max X Y))))), (a_mdepth, .inl (cI, 2600, .inl (nF (upN mDe mG (1 + (max (Dp ((min X Y) / 2)) (Dp ((max X Y) / 2))))))))] H := hP
                      have hD : va_D A [(a_mod, .inr (6, [.ref a_mkind, .ref a_mwidth, .ref a_mreset, .ref a_mop, .ref a_mka, .ref a_mkb, .ref a_mkc, .ref a_mheld, .int (nI mN), .ref a_msort, .ref a_mof, .ref a_mfrom, .int (nI mMs), .ref a_mbit, .ref a_mdone, .ref a_mrests, .ref a_mxx, .ref a_myy, .ref a_mdepth, .ref a_mone, .int (nI mG), .int (nI mCk), .int mFw, .int (nI mRd), .ref a_mbefore, .ref a_mfirst, .ref a_mturned])), (a_mxx, .inl (cI, 2600, .inl (nF (upN mX mG (min X Y))))), (a_myy, .inl (cI, 2600, .inl (nF (upN mY mG (max X Y))))), (a_mdepth, .inl (cI, 2600, .inl (nF (upN mDe mG (1 + (max (Dp ((min X Y) / 2)) (Dp ((max X Y) / 2))))))))] := hD
                      refine lv_aload_n hx hb d_Mod_join_166 rfl (lv_at hl 3 rfl) ?_
                      refine lv_dup hx hb d_Mod_join_167 rfl ?_
                      refine va_get (D := (dC, dI)) (ci := 6) (v := .int (nI mG)) (C := R_Mod) (T := F_Mod) (N := 27) hx hb hts (wi i_Mod) hown hK hP 0 rfl rfl 20 (by decide) (hts _ (mt 562 rfl rfl)) (fun _ h9 => h9) rfl d_Mod_join_168 ?_
                      refine lv_iconst (v := nI 1) hx hb d_Mod_join_171 rfl ?_
                      refine lv_iadd hx hb d_Mod_join_172 ?_
                      refine k_top (nI_add _ _) ?_
                      refine va_put (D := (dC, dI)) (ci := 6) (v := .int (nI (mG + 1))) (ty := .int) (C := R_Mod) (T := F_Mod) (N := 27) hx hb hts (wi i_Mod) t_Mod t_Mod_ok n_Mod hown hK hP hD hS 0 rfl rfl 20 (by decide) (hts _ (mt 562 rfl rfl)) (fun _ h9 => h9) rfl (by decide +kernel) rfl rfl (Nat.le_of_ble_eq_true rfl) d_Mod_join_173 (fun H locs hP hD hS => ?_)
                      have hP : va_P (dC, dI) classes [(a_mod, .inr (6, [.ref a_mkind, .ref a_mwidth, .ref a_mreset, .ref a_mop, .ref a_mka, .ref a_mkb, .ref a_mkc, .ref a_mheld, .int (nI mN), .ref a_msort, .ref a_mof, .ref a_mfrom, .int (nI mMs), .ref a_mbit, .ref a_mdone, .ref a_mrests, .ref a_mxx, .ref a_myy, .ref a_mdepth, .ref a_mone, .int (nI (mG + 1)), .int (nI mCk), .int mFw, .int (nI mRd), .ref a_mbefore, .ref a_mfirst, .ref a_mturned])), (a_mxx, .inl (cI, 2600, .inl (nF (upN mX mG (min X Y))))), (a_myy, .inl (cI, 2600, .inl (nF (upN mY mG (max X Y))))), (a_mdepth, .inl (cI, 2600, .inl (nF (upN mDe mG (1 + (max (Dp ((min X Y) / 2)) (Dp ((max X Y) / 2))))))))] H := hP
                      have hD : va_D A [(a_mod, .inr (6, [.ref a_mkind, .ref a_mwidth, .ref a_mreset, .ref a_mop, .ref a_mka, .ref a_mkb, .ref a_mkc, .ref a_mheld, .int (nI mN), .ref a_msort, .ref a_mof, .ref a_mfrom, .int (nI mMs), .ref a_mbit, .ref a_mdone, .ref a_mrests, .ref a_mxx, .ref a_myy, .ref a_mdepth, .ref a_mone, .int (nI (mG + 1)), .int (nI mCk), .int mFw, .int (nI mRd), .ref a_mbefore, .ref a_mfirst, .ref a_mturned])), (a_mxx, .inl (cI, 2600, .inl (nF (upN mX mG (min X Y))))), (a_myy, .inl (cI, 2600, .inl (nF (upN mY mG (max X Y))))), (a_mdepth, .inl (cI, 2600, .inl (nF (upN mDe mG (1 + (max (Dp ((min X Y) / 2)) (Dp ((max X Y) / 2))))))))] := hD
                      refine lv_iconst (v := nI 2) hx hb d_Mod_join_176 rfl ?_
                      refine lv_bipush (v := nI 113) hx hb d_Mod_join_177 rfl ?_
                      refine lv_aload_n hx hb d_Mod_join_179 rfl (lv_at hl 3 rfl) ?_
                      refine va_get (D := (dC, dI)) (ci := 6) (v := .int (nI (mG + 1))) (C := R_Mod) (T := F_Mod) (N := 27) hx hb hts (wi i_Mod) hown hK hP 0 rfl rfl 20 (by decide) (hts _ (mt 562 rfl rfl)) (fun _ h9 => h9) rfl d_Mod_join_180 ?_
                      refine lv_iadd hx hb d_Mod_join_183 ?_
                      refine k_top (nI_add _ _) ?_
                      refine lv_iconst (v := nI 1) hx hb d_Mod_join_184 rfl ?_
                      refine lv_isub hx hb d_Mod_join_185 ?_
                      refine k_top (pk_sub (by omega)) ?_
                      refine lv_imul hx hb d_Mod_join_186 ?_
                      refine k_top (pk_mul _ _) ?_
                      refine k_top (congrArg nI (show 2 * ((113 + (mG + 1)) - 1) = 2 * (113 + mG) from (by omega))) ?_
                      exact W.iret (v := nI (2 * (113 + mG))) hx hb hr (fun t ht hW => ⟨⟨nI (2 * (113 + mG)), (mG + 1, upN mX mG (min X Y), upN mY mG (max X Y), upN mDe mG (1 + (max (Dp ((min X Y) / 2)) (Dp ((max X Y) / 2)))), max gd (1 + max (Dp (min X Y / 2)) (Dp (max X Y / 2))), upN P (113 + mG) (min X Y * 4096 + max X Y), upN Dp (113 + mG) (1 + max (Dp (min X Y / 2)) (Dp (max X Y / 2))), upN Sl kf (113 + mG), upN T (113 + mG) (gN (LT T X) (LT T Y))), rfl, ⟨2 * (113 + mG), rfl, (show (mG + 1) ≤ 1280 from by omega), bb_15, bb_16, bb_20, (show NJ (mG + 1) (max gd (1 + max (Dp (min X Y / 2)) (Dp (max X Y / 2)))) (upN P (113 + mG) (min X Y * 4096 + max X Y)) (upN Dp (113 + mG) (1 + max (Dp (min X Y / 2)) (Dp (max X Y / 2)))) (upN Sl kf (113 + mG)) (upN T (113 + mG) (gN (LT T X) (LT T Y))) from hJ.1), (show MXY (mG + 1) (upN mX mG (min X Y)) (upN mY mG (max X Y)) (upN mDe mG (1 + (max (Dp ((min X Y) / 2)) (Dp ((max X Y) / 2))))) (upN P (113 + mG) (min X Y * 4096 + max X Y)) (upN Dp (113 + mG) (1 + max (Dp (min X Y / 2)) (Dp (max X Y / 2)))) from hXY2), (show ST T mG (upN T (113 + mG) (gN (LT T X) (LT T Y))) (mG + 1) (jl (LT T X) (LT T Y)) from hJ.2.1), (show (2 * (113 + mG)) < 2 * (113 + (mG + 1)) from by omega), (show LT (upN T (113 + mG) (gN (LT T X) (LT T Y))) (2 * (113 + mG)) = jn (LT T X) (LT T Y) from hJ.2.2), (show AL K (upN T (113 + mG) (gN (LT T X) (LT T Y))) (mG + 1) from AL_st hAL hJ.2.1 hin)⟩, by rw [ht]; exact hP, va_K.moved hW.alike hK, hD⟩, hS.F ht⟩) hS.2.2 d_Mod_join_187
                    · skip
                      have c115 : mG = 2600 := (nI_eq (by omega) (by omega)).mp c115
                      omega
                  · skip
                    have c68 : ¬ (mG ≤ i) := fun h => c68 ((nI_leI (by omega) (by omega)).mpr h)
                    refine lv_aload_n hx hb d_Mod_join_71 rfl (lv_at hl 3 rfl) ?_
                    refine va_get (D := (dC, dI)) (ci := 6) (v := .ref a_mxx) (C := R_Mod) (T := F_Mod) (N := 27) hx hb hts (wi i_Mod) hown hK hP 0 rfl rfl 16 (by decide) (hts _ (mt 558 rfl rfl)) (fun _ h9 => h9) rfl d_Mod_join_72 ?_
                    refine lv_iload hx hb d_Mod_join_75 (lv_at hl 0 rfl) ?_
                    refine k_ild hx hb hK hP 1 0 rfl rfl (by omega) (by decide) d_Mod_join_77 ?_
                    have hb_21 := b_mX i
                    refine lv_iload_n hx hb d_Mod_join_78 rfl (lv_at hl 2 rfl) ?_
                    refine lv_icmp_ne (tgt := 102) hx hb d_Mod_join_79 (by decide) (fun c79 => ?_) (fun c79 => ?_)
                    · skip
                      have c79 : ¬ ((mX i) = (min X Y)) := fun h => c79 ((nI_eq (by omega) (by omega)).mpr h)
                      refine lv_iinc (v := nI (i + 1)) (lv' := [(5, .int (nI (i + 1))), (4, .int (nI (max X Y))), (3, .int (nI (min X Y))), (0, .ref a_mod), (1, .int (nI X)), (2, .int (nI Y))]) hx hb d_Mod_join_102 hl (k := 0) rfl (k_inc _ 1) (by decide) rfl (fun ls hl => ?_)
                      refine lv_goto (tgt := 62) hx hb d_Mod_join_105 (by decide) ?_
                      have hI_22 : (∀ j, j < (i + 1) → ¬ (mX j = min X Y ∧ mY j = max X Y)) ∧ ((i + 1) ≤ mG) := ⟨(fun j hj => by by_cases e : j = i; (subst e; omega); exact hi j (by omega)), (by omega)⟩
                      exact ih_14 (i + 1) hI_22 (show mG - (i + 1) < mG - i from by omega) _ _ _ hP hD hS (lv_sub hl [0, 1, 2, 3, 4, 5] rfl)
                    · skip
                      have c79 : (mX i) = (min X Y) := (nI_eq (by omega) (by omega)).mp c79
                      refine lv_aload_n hx hb d_Mod_join_82 rfl (lv_at hl 3 rfl) ?_
                      refine va_get (D := (dC, dI)) (ci := 6) (v := .ref a_myy) (C := R_Mod) (T := F_Mod) (N := 27) hx hb hts (wi i_Mod) hown hK hP 0 rfl rfl 17 (by decide) (hts _ (mt 559 rfl rfl)) (fun _ h9 => h9) rfl d_Mod_join_83 ?_
                      refine lv_iload hx hb d_Mod_join_86 (lv_at hl 0 rfl) ?_
                      refine k_ild hx hb hK hP 2 0 rfl rfl (by omega) (by decide) d_Mod_join_88 ?_
                      have hb_23 := b_mY i
                      refine lv_iload hx hb d_Mod_join_89 (lv_at hl 1 rfl) ?_
                      refine lv_icmp_ne (tgt := 102) hx hb d_Mod_join_91 (by decide) (fun c91 => ?_) (fun c91 => ?_)
                      · skip
                        have c91 : ¬ ((mY i) = (max X Y)) := fun h => c91 ((nI_eq (by omega) (by omega)).mpr h)
                        refine lv_iinc (v := nI (i + 1)) (lv' := [(5, .int (nI (i + 1))), (4, .int (nI (max X Y))), (3, .int (nI (min X Y))), (0, .ref a_mod), (1, .int (nI X)), (2, .int (nI Y))]) hx hb d_Mod_join_102 hl (k := 0) rfl (k_inc _ 1) (by decide) rfl (fun ls hl => ?_)
                        refine lv_goto (tgt := 62) hx hb d_Mod_join_105 (by decide) ?_
                        have hI_24 : (∀ j, j < (i + 1) → ¬ (mX j = min X Y ∧ mY j = max X Y)) ∧ ((i + 1) ≤ mG) := ⟨(fun j hj => by by_cases e : j = i; (subst e; omega); exact hi j (by omega)), (by omega)⟩
                        exact ih_14 (i + 1) hI_24 (show mG - (i + 1) < mG - i from by omega) _ _ _ hP hD hS (lv_sub hl [0, 1, 2, 3, 4, 5] rfl)
                      · skip
                        have c91 : (mY i) = (max X Y) := (nI_eq (by omega) (by omega)).mp c91
                        refine lv_iconst (v := nI 2) hx hb d_Mod_join_94 rfl ?_
                        refine lv_bipush (v := nI 113) hx hb d_Mod_join_95 rfl ?_
                        refine lv_iload hx hb d_Mod_join_97 (lv_at hl 0 rfl) ?_
                        refine lv_iadd hx hb d_Mod_join_99 ?_
                        refine k_top (nI_add _ _) ?_
                        refine lv_imul hx hb d_Mod_join_100 ?_
                        refine k_top (pk_mul _ _) ?_
                        have hxy := hXY i (by omega)
                        have hJ := J_oldN hN.1 hX hY b_mG hne h3.2 (n := 113 + i) (by omega) (by omega) (by rw [hxy.1, c79, c91])
                        exact W.iret (v := nI (2 * (113 + i))) hx hb hr (fun t ht hW => ⟨⟨nI (2 * (113 + i)), (mG, mX, mY, mDe, gd, P, Dp, Sl, T), rfl, ⟨2 * (113 + i), rfl, (show mG ≤ 1280 from by omega), b_mX, b_mY, b_mDe, (show NJ mG gd P Dp Sl T from hN), (show MXY mG mX mY mDe P Dp from hXY), (show ST T mG T mG (jl (LT T X) (LT T Y)) from hJ.1), (show (2 * (113 + i)) < 2 * (113 + mG) from by omega), (show LT T (2 * (113 + i)) = jn (LT T X) (LT T Y) from hJ.2), (show AL K T mG from hAL)⟩, by rw [ht]; exact hP, va_K.moved hW.alike hK, hD⟩, hS.F ht⟩) hS.2.2 d_Mod_join_101
              · skip
                have c38 : ¬ (Y ≤ X) := fun h => c38 ((nI_leI (by omega) (by omega)).mpr h)
                refine lv_iload_n hx hb d_Mod_join_41 rfl (lv_at hl 1 rfl) ?_
                refine lv_goto (tgt := 46) hx hb d_Mod_join_42 (by decide) ?_
                refine k_top (congrArg nI (show X = min X Y from (by omega))) ?_
                refine lv_istore_n (lv' := [(3, .int (nI (min X Y))), (0, .ref a_mod), (1, .int (nI X)), (2, .int (nI Y))]) hx hb d_Mod_join_46 rfl hl (by decide) rfl (fun ls hl => ?_)
                refine lv_iload_n hx hb d_Mod_join_47 rfl (lv_at hl 2 rfl) ?_
                refine lv_iload_n hx hb d_Mod_join_48 rfl (lv_at hl 3 rfl) ?_
                refine lv_icmp_ge (tgt := 56) hx hb d_Mod_join_49 (by decide) (fun c49 => ?_) (fun c49 => ?_)
                · skip
                  have c49 : Y ≤ X := (nI_leI (by omega) (by omega)).mp c49
                  refine lv_iload_n hx hb d_Mod_join_56 rfl (lv_at hl 2 rfl) ?_
                  refine k_top (congrArg nI (show X = max X Y from (by omega))) ?_
                  refine lv_istore (lv' := [(4, .int (nI (max X Y))), (3, .int (nI (min X Y))), (0, .ref a_mod), (1, .int (nI X)), (2, .int (nI Y))]) hx hb d_Mod_join_57 hl (by decide) rfl (fun ls hl => ?_)
                  refine lv_iconst (v := nI 0) hx hb d_Mod_join_59 rfl ?_
                  refine lv_istore (lv' := [(5, .int (nI 0)), (4, .int (nI (max X Y))), (3, .int (nI (min X Y))), (0, .ref a_mod), (1, .int (nI X)), (2, .int (nI Y))]) hx hb d_Mod_join_60 hl (by decide) rfl (fun ls hl => ?_)
                  have hI_25 : (∀ j, j < 0 → ¬ (mX j = min X Y ∧ mY j = max X Y)) ∧ (0 ≤ mG) := ⟨(fun j h => absurd h (by omega)), (by omega)⟩
                  refine k_loop (σ := Nat) (D := (dC, dI)) (cl := classes) (A := A) (H0 := s.heap) (fun x => [(a_mod, .inr (6, [.ref a_mkind, .ref a_mwidth, .ref a_mreset, .ref a_mop, .ref a_mka, .ref a_mkb, .ref a_mkc, .ref a_mheld, .int (nI mN), .ref a_msort, .ref a_mof, .ref a_mfrom, .int (nI mMs), .ref a_mbit, .ref a_mdone, .ref a_mrests, .ref a_mxx, .ref a_myy, .ref a_mdepth, .ref a_mone, .int (nI mG), .int (nI mCk), .int mFw, .int (nI mRd), .ref a_mbefore, .ref a_mfirst, .ref a_mturned])), (a_mxx, .inl (cI, 2600, .inl (nF mX))), (a_myy, .inl (cI, 2600, .inl (nF mY))), (a_mdepth, .inl (cI, 2600, .inl (nF mDe)))]) (fun x => [(5, .int (nI x)), (4, .int (nI (max X Y))), (3, .int (nI (min X Y))), (0, .ref a_mod), (1, .int (nI X)), (2, .int (nI Y))]) (fun x => (∀ j, j < x → ¬ (mX j = min X Y ∧ mY j = max X Y)) ∧ (x ≤ mG)) (fun x => mG - x) ?_ (0) hI_25 hP hD hS (lv_sub hl [0, 1, 2, 3, 4, 5] rfl)
                  intro i hI ih_26 H locs ls hP hD hS hl
                  obtain ⟨hi, hig⟩ : (∀ j, j < i → ¬ (mX j = min X Y ∧ mY j = max X Y)) ∧ (i ≤ mG) := hI
                  have hP : va_P (dC, dI) classes [(a_mod, .inr (6, [.ref a_mkind, .ref a_mwidth, .ref a_mreset, .ref a_mop, .ref a_mka, .ref a_mkb, .ref a_mkc, .ref a_mheld, .int (nI mN), .ref a_msort, .ref a_mof, .ref a_mfrom, .int (nI mMs), .ref a_mbit, .ref a_mdone, .ref a_mrests, .ref a_mxx, .ref a_myy, .ref a_mdepth, .ref a_mone, .int (nI mG), .int (nI mCk), .int mFw, .int (nI mRd), .ref a_mbefore, .ref a_mfirst, .ref a_mturned])), (a_mxx, .inl (cI, 2600, .inl (nF mX))), (a_myy, .inl (cI, 2600, .inl (nF mY))), (a_mdepth, .inl (cI, 2600, .inl (nF mDe)))] H := hP
                  have hD : va_D A [(a_mod, .inr (6, [.ref a_mkind, .ref a_mwidth, .ref a_mreset, .ref a_mop, .ref a_mka, .ref a_mkb, .ref a_mkc, .ref a_mheld, .int (nI mN), .ref a_msort, .ref a_mof, .ref a_mfrom, .int (nI mMs), .ref a_mbit, .ref a_mdone, .ref a_mrests, .ref a_mxx, .ref a_myy, .ref a_mdepth, .ref a_mone, .int (nI mG), .int (nI mCk), .int mFw, .int (nI mRd), .ref a_mbefore, .ref a_mfirst, .ref a_mturned])), (a_mxx, .inl (cI, 2600, .inl (nF mX))), (a_myy, .inl (cI, 2600, .inl (nF mY))), (a_mdepth, .inl (cI, 2600, .inl (nF mDe)))] := hD
                  have hl : lv_has ls 6 [(5, .int (nI i)), (4, .int (nI (max X Y))), (3, .int (nI (min X Y))), (0, .ref a_mod), (1, .int (nI X)), (2, .int (nI Y))] := hl
                  refine lv_iload hx hb d_Mod_join_62 (lv_at hl 0 rfl) ?_
                  refine lv_aload_n hx hb d_Mod_join_64 rfl (lv_at hl 3 rfl) ?_
                  refine va_get (D := (dC, dI)) (ci := 6) (v := .int (nI mG)) (C := R_Mod) (T := F_Mod) (N := 27) hx hb hts (wi i_Mod) hown hK hP 0 rfl rfl 20 (by decide) (hts _ (mt 562 rfl rfl)) (fun _ h9 => h9) rfl d_Mod_join_65 ?_
                  refine lv_icmp_ge (tgt := 108) hx hb d_Mod_join_68 (by decide) (fun c68 => ?_) (fun c68 => ?_)
                  · skip
                    have c68 : mG ≤ i := (nI_leI (by omega) (by omega)).mp c68
                    refine lv_aload_n hx hb d_Mod_join_108 rfl (lv_at hl 3 rfl) ?_
                    refine va_get (D := (dC, dI)) (ci := 6) (v := .int (nI mG)) (C := R_Mod) (T := F_Mod) (N := 27) hx hb hts (wi i_Mod) hown hK hP 0 rfl rfl 20 (by decide) (hts _ (mt 562 rfl rfl)) (fun _ h9 => h9) rfl d_Mod_join_109 ?_
                    refine lv_sipush (v := nI 2600) hx hb d_Mod_join_112 rfl ?_
                    refine lv_icmp_ne (tgt := 120) hx hb d_Mod_join_115 (by decide) (fun c115 => ?_) (fun c115 => ?_)
                    · skip
                      have c115 : ¬ (mG = 2600) := fun h => c115 ((nI_eq (by omega) (by omega)).mpr h)
                      have hfr : ∀ n, 113 ≤ n → n < 113 + mG → P n ≠ min X Y * 4096 + max X Y := fun n n1 n2 e => by
                        have hxy := hXY (n - 113) (by omega)
                        rw [show 113 + (n - 113) = n by omega, e] at hxy
                        exact hi (n - 113) (by omega) (by omega)
                      have hnew := NI_new hN.1 (a := min X Y) (b := max X Y) (by omega) (by omega) hfr
                      rw [gN_mm] at hnew
                      have hlt : mG < 1280 := AL_lt hAL hN.1.2.2.2.1 (hin _ (by rw [h3.2.1]; exact List.mem_singleton.mpr rfl)) hnew
                      obtain ⟨kf, hkf, hff⟩ := Fnd_ex hN.1 b_mG (min X Y * 4096 + max X Y)
                      have hk0 := Fnd_new hN.1 hkf hff hfr
                      have hd1 := NI_dp hN.1 _ (min X Y / 2) (Nat.le_refl _) (by omega)
                      have hd2 := NI_dp hN.1 _ (max X Y / 2) (Nat.le_refl _) (by omega)
                      have hJ := J_new hN hX hY hne h3.1 h3.2 hkf hff hk0 rfl rfl
                      have hXY2 := MXY_add (a := min X Y) (b := max X Y) (dv := 1 + max (Dp (min X Y / 2)) (Dp (max X Y / 2))) hXY (by omega) (by omega)
                      refine lv_aload_n hx hb d_Mod_join_120 rfl (lv_at hl 3 rfl) ?_
                      refine va_get (D := (dC, dI)) (ci := 6) (v := .ref a_mxx) (C := R_Mod) (T := F_Mod) (N := 27) hx hb hts (wi i_Mod) hown hK hP 0 rfl rfl 16 (by decide) (hts _ (mt 558 rfl rfl)) (fun _ h9 => h9) rfl d_Mod_join_121 ?_
                      refine lv_aload_n hx hb d_Mod_join_124 rfl (lv_at hl 3 rfl) ?_
                      refine va_get (D := (dC, dI)) (ci := 6) (v := .int (nI mG)) (C := R_Mod) (T := F_Mod) (N := 27) hx hb hts (wi i_Mod) hown hK hP 0 rfl rfl 20 (by decide) (hts _ (mt 562 rfl rfl)) (fun _ h9 => h9) rfl d_Mod_join_125 ?_
                      refine lv_iload_n hx hb d_Mod_join_128 rfl (lv_at hl 2 rfl) ?_
                      refine k_ist hx hb hK hP hD hS 1 0 rfl rfl (by omega) (by decide) d_Mod_join_129 (fun H locs hP hD hS => ?_)
                      have bb_27 : ∀ j, upN mX mG (min X Y) j < 2786 := upN_lt b_mX (by omega)
                      have hP : va_P (dC, dI) classes [(a_mod, .inr (6, [.ref a_mkind, .ref a_mwidth, .ref a_mreset, .ref a_mop, .ref a_mka, .ref a_mkb, .ref a_mkc, .ref a_mheld, .int (nI mN), .ref a_msort, .ref a_mof, .ref a_mfrom, .int (nI mMs), .ref a_mbit, .ref a_mdone, .ref a_mrests, .ref a_mxx, .ref a_myy, .ref a_mdepth, .ref a_mone, .int (nI mG), .int (nI mCk), .int mFw, .int (nI mRd), .ref a_mbefore, .ref a_mfirst, .ref a_mturned])), (a_mxx, .inl (cI, 2600, .inl (nF (upN mX mG (min X Y))))), (a_myy, .inl (cI, 2600, .inl (nF mY))), (a_mdepth, .inl (cI, 2600, .inl (nF mDe)))] H := hP
                      have hD : va_D A [(a_mod, .inr (6, [.ref a_mkind, .ref a_mwidth, .ref a_mreset, .ref a_mop, .ref a_mka, .ref a_mkb, .ref a_mkc, .ref a_mheld, .int (nI mN), .ref a_msort, .ref a_mof, .ref a_mfrom, .int (nI mMs), .ref a_mbit, .ref a_mdone, .ref a_mrests, .ref a_mxx, .ref a_myy, .ref a_mdepth, .ref a_mone, .int (nI mG), .int (nI mCk), .int mFw, .int (nI mRd), .ref a_mbefore, .ref a_mfirst, .ref a_mturned])), (a_mxx, .inl (cI, 2600, .inl (nF (upN mX mG (min X Y))))), (a_myy, .inl (cI, 2600, .inl (nF mY))), (a_mdepth, .inl (cI, 2600, .inl (nF mDe)))] := hD
                      refine lv_aload_n hx hb d_Mod_join_130 rfl (lv_at hl 3 rfl) ?_
                      refine va_get (D := (dC, dI)) (ci := 6) (v := .ref a_myy) (C := R_Mod) (T := F_Mod) (N := 27) hx hb hts (wi i_Mod) hown hK hP 0 rfl rfl 17 (by decide) (hts _ (mt 559 rfl rfl)) (fun _ h9 => h9) rfl d_Mod_join_131 ?_
                      refine lv_aload_n hx hb d_Mod_join_134 rfl (lv_at hl 3 rfl) ?_
                      refine va_get (D := (dC, dI)) (ci := 6) (v := .int (nI mG)) (C := R_Mod) (T := F_Mod) (N := 27) hx hb hts (wi i_Mod) hown hK hP 0 rfl rfl 20 (by decide) (hts _ (mt 562 rfl rfl)) (fun _ h9 => h9) rfl d_Mod_join_135 ?_
                      refine lv_iload hx hb d_Mod_join_138 (lv_at hl 1 rfl) ?_
                      refine k_ist hx hb hK hP hD hS 2 0 rfl rfl (by omega) (by decide) d_Mod_join_140 (fun H locs hP hD hS => ?_)
                      have bb_28 : ∀ j, upN mY mG (max X Y) j < 2786 := upN_lt b_mY (by omega)
                      have hP : va_P (dC, dI) classes [(a_mod, .inr (6, [.ref a_mkind, .ref a_mwidth, .ref a_mreset, .ref a_mop, .ref a_mka, .ref a_mkb, .ref a_mkc, .ref a_mheld, .int (nI mN), .ref a_msort, .ref a_mof, .ref a_mfrom, .int (nI mMs), .ref a_mbit, .ref a_mdone, .ref a_mrests, .ref a_mxx, .ref a_myy, .ref a_mdepth, .ref a_mone, .int (nI mG), .int (nI mCk), .int mFw, .int (nI mRd), .ref a_mbefore, .ref a_mfirst, .ref a_mturned])), (a_mxx, .inl (cI, 2600, .inl (nF (upN mX mG (min X Y))))), (a_myy, .inl (cI, 2600, .inl (nF (upN mY mG (max X Y))))), (a_mdepth, .inl (cI, 2600, .inl (nF mDe)))] H := hP
                      have hD : va_D A [(a_mod, .inr (6, [.ref a_mkind, .ref a_mwidth, .ref a_mreset, .ref a_mop, .ref a_mka, .ref a_mkb, .ref a_mkc, .ref a_mheld, .int (nI mN), .ref a_msort, .ref a_mof, .ref a_mfrom, .int (nI mMs), .ref a_mbit, .ref a_mdone, .ref a_mrests, .ref a_mxx, .ref a_myy, .ref a_mdepth, .ref a_mone, .int (nI mG), .int (nI mCk), .int mFw, .int (nI mRd), .ref a_mbefore, .ref a_mfirst, .ref a_mturned])), (a_mxx, .inl (cI, 2600, .inl (nF (upN mX mG (min X Y))))), (a_myy, .inl (cI, 2600, .inl (nF (upN mY mG (max X Y))))), (a_mdepth, .inl (cI, 2600, .inl (nF mDe)))] := hD
                      refine lv_aload_n hx hb d_Mod_join_141 rfl (lv_at hl 3 rfl) ?_
                      refine va_get (D := (dC, dI)) (ci := 6) (v := .ref a_mdepth) (C := R_Mod) (T := F_Mod) (N := 27) hx hb hts (wi i_Mod) hown hK hP 0 rfl rfl 18 (by decide) (hts _ (mt 560 rfl rfl)) (fun _ h9 => h9) rfl d_Mod_join_142 ?_
                      refine lv_aload_n hx hb d_Mod_join_145 rfl (lv_at hl 3 rfl) ?_
                      refine va_get (D := (dC, dI)) (ci := 6) (v := .int (nI mG)) (C := R_Mod) (T := F_Mod) (N := 27) hx hb hts (wi i_Mod) hown hK hP 0 rfl rfl 20 (by decide) (hts _ (mt 562 rfl rfl)) (fun _ h9 => h9) rfl d_Mod_join_146 ?_
                      refine lv_iconst (v := nI 1) hx hb d_Mod_join_149 rfl ?_
                      refine lv_aload_n hx hb d_Mod_join_150 rfl (lv_at hl 3 rfl) ?_
                      refine lv_iload_n hx hb d_Mod_join_151 rfl (lv_at hl 2 rfl) ?_
                      refine k_i (wr := [(a_mxx, .inl (cI, 2600, .inl (nF (upN mX mG (min X Y))))), (a_myy, .inl (cI, 2600, .inl (nF (upN mY mG (max X Y)))))]) (w2 := fun (u : Unit) => [(a_mod, .inr (6, [.ref a_mkind, .ref a_mwidth, .ref a_mreset, .ref a_mop, .ref a_mka, .ref a_mkb, .ref a_mkc, .ref a_mheld, .int (nI mN), .ref a_msort, .ref a_mof, .ref a_mfrom, .int (nI mMs), .ref a_mbit, .ref a_mdone, .ref a_mrests, .ref a_mxx, .ref a_myy, .ref a_mdepth, .ref a_mone, .int (nI mG), .int (nI mCk), .int mFw, .int (nI mRd), .ref a_mbefore, .ref a_mfirst, .ref a_mturned])), (a_mxx, .inl (cI, 2600, .inl (nF (upN mX mG (min X Y))))), (a_myy, .inl (cI, 2600, .inl (nF (upN mY mG (max X Y))))), (a_mdepth, .inl (cI, 2600, .inl (nF mDe)))]) (va_runV (As := [.int (nI (min X Y))]) (rest := [.int (nI 1), .int (nI mG), .ref a_mdepth]) ⟨hx, hb, hml, hown, hts⟩ (c_Mod_depthOf l dC dI cI cZ a_mod a_mkind a_mwidth a_mreset a_mop a_mka a_mkb a_mkc a_mheld a_msort a_mof a_mfrom a_mbit a_mdone a_mrests a_mxx a_myy a_mdepth a_mone a_mbefore a_mfirst a_mturned tt H.size mN mMs mG mCk mFw mRd mDe gd P Dp Sl T K (min X Y) (by omega) (by omega) (by omega) (by omega) b_mDe hN (fun i h => (hXY i h).2.2.2) (by omega)) (cwV 1 hts (gd_V in_tl (mw 706 rfl rfl) (mw 708 rfl rfl) (mw 33 rfl rfl) (mw 47 rfl rfl) (mw 709 rfl rfl)) rfl rfl rfl (by decide +kernel) ⟨Nat.le_of_ble_eq_true rfl, Nat.le_of_ble_eq_true rfl⟩) (k_preV hK hP hD hS hA hE [0, 3] (by decide) rfl 6 0 rfl rfl) rfl rfl hl.1 rfl (lv_room (Nat.le_of_ble_eq_true rfl)) d_Mod_join_152 ⟨Nat.zero_le _, Nat.zero_le _⟩) hP hD hS hA [0, 3] [1, 2] [2, 0, 1, 3] rfl rfl (by decide) (by decide) (by decide) (fun _ => rfl) (fun r_29 u H locs hw hP hD hS => ?_)
                      obtain rfl : (r_29 = nI (Dp ((min X Y) / 2))) := hw
                      have hP : va_P (dC, dI) classes [(a_mod, .inr (6, [.ref a_mkind, .ref a_mwidth, .ref a_mreset, .ref a_mop, .ref a_mka, .ref a_mkb, .ref a_mkc, .ref a_mheld, .int (nI mN), .ref a_msort, .ref a_mof, .ref a_mfrom, .int (nI mMs), .ref a_mbit, .ref a_mdone, .ref a_mrests, .ref a_mxx, .ref a_myy, .ref a_mdepth, .ref a_mone, .int (nI mG), .int (nI mCk), .int mFw, .int (nI mRd), .ref a_mbefore, .ref a_mfirst, .ref a_mturned])), (a_mxx, .inl (cI, 2600, .inl (nF (upN mX mG (min X Y))))), (a_myy, .inl (cI, 2600, .inl (nF (upN mY mG (max X Y))))), (a_mdepth, .inl (cI, 2600, .inl (nF mDe)))] H := hP
                      have hD : va_D A [(a_mod, .inr (6, [.ref a_mkind, .ref a_mwidth, .ref a_mreset, .ref a_mop, .ref a_mka, .ref a_mkb, .ref a_mkc, .ref a_mheld, .int (nI mN), .ref a_msort, .ref a_mof, .ref a_mfrom, .int (nI mMs), .ref a_mbit, .ref a_mdone, .ref a_mrests, .ref a_mxx, .ref a_myy, .ref a_mdepth, .ref a_mone, .int (nI mG), .int (nI mCk), .int mFw, .int (nI mRd), .ref a_mbefore, .ref a_mfirst, .ref a_mturned])), (a_mxx, .inl (cI, 2600, .inl (nF (upN mX mG (min X Y))))), (a_myy, .inl (cI, 2600, .inl (nF (upN mY mG (max X Y))))), (a_mdepth, .inl (cI, 2600, .inl (nF mDe)))] := hD
                      refine lv_aload_n hx hb d_Mod_join_155 rfl (lv_at hl 3 rfl) ?_
                      refine lv_iload hx hb d_Mod_join_156 (lv_at hl 1 rfl) ?_
                      refine k_i (wr := [(a_mxx, .inl (cI, 2600, .inl (nF (upN mX mG (min X Y))))), (a_myy, .inl (cI, 2600, .inl (nF (upN mY mG (max X Y)))))]) (w2 := fun (u : Unit) => [(a_mod, .inr (6, [.ref a_mkind, .ref a_mwidth, .ref a_mreset, .ref a_mop, .ref a_mka, .ref a_mkb, .ref a_mkc, .ref a_mheld, .int (nI mN), .ref a_msort, .ref a_mof, .ref a_mfrom, .int (nI mMs), .ref a_mbit, .ref a_mdone, .ref a_mrests, .ref a_mxx, .ref a_myy, .ref a_mdepth, .ref a_mone, .int (nI mG), .int (nI mCk), .int mFw, .int (nI mRd), .ref a_mbefore, .ref a_mfirst, .ref a_mturned])), (a_mxx, .inl (cI, 2600, .inl (nF (upN mX mG (min X Y))))), (a_myy, .inl (cI, 2600, .inl (nF (upN mY mG (max X Y))))), (a_mdepth, .inl (cI, 2600, .inl (nF mDe)))]) (va_runV (As := [.int (nI (max X Y))]) (rest := [.int (nI (Dp ((min X Y) / 2))), .int (nI 1), .int (nI mG), .ref a_mdepth]) ⟨hx, hb, hml, hown, hts⟩ (c_Mod_depthOf l dC dI cI cZ a_mod a_mkind a_mwidth a_mreset a_mop a_mka a_mkb a_mkc a_mheld a_msort a_mof a_mfrom a_mbit a_mdone a_mrests a_mxx a_myy a_mdepth a_mone a_mbefore a_mfirst a_mturned tt H.size mN mMs mG mCk mFw mRd mDe gd P Dp Sl T K (max X Y) (by omega) (by omega) (by omega) (by omega) b_mDe hN (fun i h => (hXY i h).2.2.2) (by omega)) (cwV 1 hts (gd_V in_tl (mw 706 rfl rfl) (mw 708 rfl rfl) (mw 33 rfl rfl) (mw 47 rfl rfl) (mw 709 rfl rfl)) rfl rfl rfl (by decide +kernel) ⟨Nat.le_of_ble_eq_true rfl, Nat.le_of_ble_eq_true rfl⟩) (k_preV hK hP hD hS hA hE [0, 3] (by decide) rfl 6 0 rfl rfl) rfl rfl hl.1 rfl (lv_room (Nat.le_of_ble_eq_true rfl)) d_Mod_join_158 ⟨Nat.zero_le _, Nat.zero_le _⟩) hP hD hS hA [0, 3] [1, 2] [2, 0, 1, 3] rfl rfl (by decide) (by decide) (by decide) (fun _ => rfl) (fun r_30 u H locs hw hP hD hS => ?_)
                      obtain rfl : (r_30 = nI (Dp ((max X Y) / 2))) := hw
                      have hP : va_P (dC, dI) classes [(a_mod, .inr (6, [.ref a_mkind, .ref a_mwidth, .ref a_mreset, .ref a_mop, .ref a_mka, .ref a_mkb, .ref a_mkc, .ref a_mheld, .int (nI mN), .ref a_msort, .ref a_mof, .ref a_mfrom, .int (nI mMs), .ref a_mbit, .ref a_mdone, .ref a_mrests, .ref a_mxx, .ref a_myy, .ref a_mdepth, .ref a_mone, .int (nI mG), .int (nI mCk), .int mFw, .int (nI mRd), .ref a_mbefore, .ref a_mfirst, .ref a_mturned])), (a_mxx, .inl (cI, 2600, .inl (nF (upN mX mG (min X Y))))), (a_myy, .inl (cI, 2600, .inl (nF (upN mY mG (max X Y))))), (a_mdepth, .inl (cI, 2600, .inl (nF mDe)))] H := hP
                      have hD : va_D A [(a_mod, .inr (6, [.ref a_mkind, .ref a_mwidth, .ref a_mreset, .ref a_mop, .ref a_mka, .ref a_mkb, .ref a_mkc, .ref a_mheld, .int (nI mN), .ref a_msort, .ref a_mof, .ref a_mfrom, .int (nI mMs), .ref a_mbit, .ref a_mdone, .ref a_mrests, .ref a_mxx, .ref a_myy, .ref a_mdepth, .ref a_mone, .int (nI mG), .int (nI mCk), .int mFw, .int (nI mRd), .ref a_mbefore, .ref a_mfirst, .ref a_mturned])), (a_mxx, .inl (cI, 2600, .inl (nF (upN mX mG (min X Y))))), (a_myy, .inl (cI, 2600, .inl (nF (upN mY mG (max X Y))))), (a_mdepth, .inl (cI, 2600, .inl (nF mDe)))] := hD
                      refine k_i (wr := [(a_mod, .inr (6, [.ref a_mkind, .ref a_mwidth, .ref a_mreset, .ref a_mop, .ref a_mka, .ref a_mkb, .ref a_mkc, .ref a_mheld, .int (nI mN), .ref a_msort, .ref a_mof, .ref a_mfrom, .int (nI mMs), .ref a_mbit, .ref a_mdone, .ref a_mrests, .ref a_mxx, .ref a_myy, .ref a_mdepth, .ref a_mone, .int (nI mG), .int (nI mCk), .int mFw, .int (nI mRd), .ref a_mbefore, .ref a_mfirst, .ref a_mturned])), (a_mxx, .inl (cI, 2600, .inl (nF (upN mX mG (min X Y))))), (a_myy, .inl (cI, 2600, .inl (nF (upN mY mG (max X Y))))), (a_mdepth, .inl (cI, 2600, .inl (nF mDe)))]) (w2 := fun (u : Unit) => [(a_mod, .inr (6, [.ref a_mkind, .ref a_mwidth, .ref a_mreset, .ref a_mop, .ref a_mka, .ref a_mkb, .ref a_mkc, .ref a_mheld, .int (nI mN), .ref a_msort, .ref a_mof, .ref a_mfrom, .int (nI mMs), .ref a_mbit, .ref a_mdone, .ref a_mrests, .ref a_mxx, .ref a_myy, .ref a_mdepth, .ref a_mone, .int (nI mG), .int (nI mCk), .int mFw, .int (nI mRd), .ref a_mbefore, .ref a_mfirst, .ref a_mturned])), (a_mxx, .inl (cI, 2600, .inl (nF (upN mX mG (min X Y))))), (a_myy, .inl (cI, 2600, .inl (nF (upN mY mG (max X Y))))), (a_mdepth, .inl (cI, 2600, .inl (nF mDe)))]) (va_runS (As := [.int (nI (Dp ((min X Y) / 2))), .int (nI (Dp ((max X Y) / 2)))]) (rest := [.int (nI 1), .int (nI mG), .ref a_mdepth]) ⟨hx, hb, hml, hown, hts⟩ (c_Mod_more l dC dI cI cZ  tt H.size  (Dp ((min X Y) / 2)) (Dp ((max X Y) / 2)) (by omega) (by omega)) (va_cwS 2 hts (gd_S in_tl (mw 647 rfl rfl) (mw 648 rfl rfl) (mw 47 rfl rfl) (mw 649 rfl rfl)) rfl rfl rfl (by decide +kernel) ⟨Nat.le_of_ble_eq_true rfl, Nat.le_of_ble_eq_true rfl⟩) (k_preS hK hP hD hS hA hE [] (by decide) rfl) rfl rfl hl.1 rfl (lv_room (Nat.le_of_ble_eq_true rfl)) d_Mod_join_161 ⟨Nat.zero_le _, Nat.zero_le _⟩) hP hD hS hA [] [0, 1, 2, 3] [0, 1, 2, 3] rfl rfl (by decide) (by decide) (by decide) (fun _ => rfl) (fun r_31 u H locs hw hP hD hS => ?_)
                      obtain rfl : (r_31 = nI (max (Dp ((min X Y) / 2)) (Dp ((max X Y) / 2)))) := hw
                      have hP : va_P (dC, dI) classes [(a_mod, .inr (6, [.ref a_mkind, .ref a_mwidth, .ref a_mreset, .ref a_mop, .ref a_mka, .ref a_mkb, .ref a_mkc, .ref a_mheld, .int (nI mN), .ref a_msort, .ref a_mof, .ref a_mfrom, .int (nI mMs), .ref a_mbit, .ref a_mdone, .ref a_mrests, .ref a_mxx, .ref a_myy, .ref a_mdepth, .ref a_mone, .int (nI mG), .int (nI mCk), .int mFw, .int (nI mRd), .ref a_mbefore, .ref a_mfirst, .ref a_mturned])), (a_mxx, .inl (cI, 2600, .inl (nF (upN mX mG (min X Y))))), (a_myy, .inl (cI, 2600, .inl (nF (upN mY mG (max X Y))))), (a_mdepth, .inl (cI, 2600, .inl (nF mDe)))] H := hP
                      have hD : va_D A [(a_mod, .inr (6, [.ref a_mkind, .ref a_mwidth, .ref a_mreset, .ref a_mop, .ref a_mka, .ref a_mkb, .ref a_mkc, .ref a_mheld, .int (nI mN), .ref a_msort, .ref a_mof, .ref a_mfrom, .int (nI mMs), .ref a_mbit, .ref a_mdone, .ref a_mrests, .ref a_mxx, .ref a_myy, .ref a_mdepth, .ref a_mone, .int (nI mG), .int (nI mCk), .int mFw, .int (nI mRd), .ref a_mbefore, .ref a_mfirst, .ref a_mturned])), (a_mxx, .inl (cI, 2600, .inl (nF (upN mX mG (min X Y))))), (a_myy, .inl (cI, 2600, .inl (nF (upN mY mG (max X Y))))), (a_mdepth, .inl (cI, 2600, .inl (nF mDe)))] := hD
                      refine lv_iadd hx hb d_Mod_join_164 ?_
                      refine k_top (nI_add _ _) ?_
                      refine k_ist hx hb hK hP hD hS 3 0 rfl rfl (by omega) (by decide) d_Mod_join_165 (fun H locs hP hD hS => ?_)
                      have bb_32 : ∀ j, upN mDe mG (1 + (max (Dp ((min X Y) / 2)) (Dp ((max X Y) / 2)))) j < 1400 := upN_lt b_mDe (by omega)
                      have hP : va_P (dC, dI) classes [(a_mod, .inr (6, [.ref a_mkind, .ref a_mwidth, .ref a_mreset, .ref a_mop, .ref a_mka, .ref a_mkb, .ref a_mkc, .ref a_mheld, .int (nI mN), .ref a_msort, .ref a_mof, .ref a_mfrom, .int (nI mMs), .ref a_mbit, .ref a_mdone, .ref a_mrests, .ref a_mxx, .ref a_myy, .ref a_mdepth, .ref a_mone, .int (nI mG), .int (nI mCk), .int mFw, .int (nI mRd), .ref a_mbefore, .ref a_mfirst, .ref a_mturned])), (a_mxx, .inl (cI, 2600, .inl (nF (upN mX mG (min X Y))))), (a_myy, .inl (cI, 2600, .inl (nF (upN mY mG (max X Y))))), (a_mdepth, .inl (cI, 2600, .inl (nF (upN mDe mG (1 + (max (Dp ((min X Y) / 2)) (Dp ((max X Y) / 2))))))))] H := hP
                      have hD : va_D A [(a_mod, .inr (6, [.ref a_mkind, .ref a_mwidth, .ref a_mreset, .ref a_mop, .ref a_mka, .ref a_mkb, .ref a_mkc, .ref a_mheld, .int (nI mN), .ref a_msort, .ref a_mof, .ref a_mfrom, .int (nI mMs), .ref a_mbit, .ref a_mdone, .ref a_mrests, .ref a_mxx, .ref a_myy, .ref a_mdepth, .ref a_mone, .int (nI mG), .int (nI mCk), .int mFw, .int (nI mRd), .ref a_mbefore, .ref a_mfirst, .ref a_mturned])), (a_mxx, .inl (cI, 2600, .inl (nF (upN mX mG (min X Y))))), (a_myy, .inl (cI, 2600, .inl (nF (upN mY mG (max X Y))))), (a_mdepth, .inl (cI, 2600, .inl (nF (upN mDe mG (1 + (max (Dp ((min X Y) / 2)) (Dp ((max X Y) / 2))))))))] := hD
                      refine lv_aload_n hx hb d_Mod_join_166 rfl (lv_at hl 3 rfl) ?_
                      refine lv_dup hx hb d_Mod_join_167 rfl ?_
                      refine va_get (D := (dC, dI)) (ci := 6) (v := .int (nI mG)) (C := R_Mod) (T := F_Mod) (N := 27) hx hb hts (wi i_Mod) hown hK hP 0 rfl rfl 20 (by decide) (hts _ (mt 562 rfl rfl)) (fun _ h9 => h9) rfl d_Mod_join_168 ?_
                      refine lv_iconst (v := nI 1) hx hb d_Mod_join_171 rfl ?_
                      refine lv_iadd hx hb d_Mod_join_172 ?_
                      refine k_top (nI_add _ _) ?_
                      refine va_put (D := (dC, dI)) (ci := 6) (v := .int (nI (mG + 1))) (ty := .int) (C := R_Mod) (T := F_Mod) (N := 27) hx hb hts (wi i_Mod) t_Mod t_Mod_ok n_Mod hown hK hP hD hS 0 rfl rfl 20 (by decide) (hts _ (mt 562 rfl rfl)) (fun _ h9 => h9) rfl (by decide +kernel) rfl rfl (Nat.le_of_ble_eq_true rfl) d_Mod_join_173 (fun H locs hP hD hS => ?_)
                      have hP : va_P (dC, dI) classes [(a_mod, .inr (6, [.ref a_mkind, .ref a_mwidth, .ref a_mreset, .ref a_mop, .ref a_mka, .ref a_mkb, .ref a_mkc, .ref a_mheld, .int (nI mN), .ref a_msort, .ref a_mof, .ref a_mfrom, .int (nI mMs), .ref a_mbit, .ref a_mdone, .ref a_mrests, .ref a_mxx, .ref a_myy, .ref a_mdepth, .ref a_mone, .int (nI (mG + 1)), .int (nI mCk), .int mFw, .int (nI mRd), .ref a_mbefore, .ref a_mfirst, .ref a_mturned])), (a_mxx, .inl (cI, 2600, .inl (nF (upN mX mG (min X Y))))), (a_myy, .inl (cI, 2600, .inl (nF (upN mY mG (max X Y))))), (a_mdepth, .inl (cI, 2600, .inl (nF (upN mDe mG (1 + (max (Dp ((min X Y) / 2)) (Dp ((max X Y) / 2))))))))] H := hP
                      have hD : va_D A [(a_mod, .inr (6, [.ref a_mkind, .ref a_mwidth, .ref a_mreset, .ref a_mop, .ref a_mka, .ref a_mkb, .ref a_mkc, .ref a_mheld, .int (nI mN), .ref a_msort, .ref a_mof, .ref a_mfrom, .int (nI mMs), .ref a_mbit, .ref a_mdone, .ref a_mrests, .ref a_mxx, .ref a_myy, .ref a_mdepth, .ref a_mone, .int (nI (mG + 1)), .int (nI mCk), .int mFw, .int (nI mRd), .ref a_mbefore, .ref a_mfirst, .ref a_mturned])), (a_mxx, .inl (cI, 2600, .inl (nF (upN mX mG (min X Y))))), (a_myy, .inl (cI, 2600, .inl (nF (upN mY mG (max X Y))))), (a_mdepth, .inl (cI, 2600, .inl (nF (upN mDe mG (1 + (max (Dp ((min X Y) / 2)) (Dp ((max X Y) / 2))))))))] := hD
                      refine lv_iconst (v := nI 2) hx hb d_Mod_join_176 rfl ?_
                      refine lv_bipush (v := nI 113) hx hb d_Mod_join_177 rfl ?_
                      refine lv_aload_n hx hb d_Mod_join_179 rfl (lv_at hl 3 rfl) ?_
                      refine va_get (D := (dC, dI)) (ci := 6) (v := .int (nI (mG + 1))) (C := R_Mod) (T := F_Mod) (N := 27) hx hb hts (wi i_Mod) hown hK hP 0 rfl rfl 20 (by decide) (hts _ (mt 562 rfl rfl)) (fun _ h9 => h9) rfl d_Mod_join_180 ?_
                      refine lv_iadd hx hb d_Mod_join_183 ?_
                      refine k_top (nI_add _ _) ?_
                      refine lv_iconst (v := nI 1) hx hb d_Mod_join_184 rfl ?_
                      refine lv_isub hx hb d_Mod_join_185 ?_
                      refine k_top (pk_sub (by omega)) ?_
                      refine lv_imul hx hb d_Mod_join_186 ?_
                      refine k_top (pk_mul _ _) ?_
                      refine k_top (congrArg nI (show 2 * ((113 + (mG + 1)) - 1) = 2 * (113 + mG) from (by omega))) ?_
                      exact W.iret (v := nI (2 * (113 + mG))) hx hb hr (fun t ht hW => ⟨⟨nI (2 * (113 + mG)), (mG + 1, upN mX mG (min X Y), upN mY mG (max X Y), upN mDe mG (1 + (max (Dp ((min X Y) / 2)) (Dp ((max X Y) / 2)))), max gd (1 + max (Dp (min X Y / 2)) (Dp (max X Y / 2))), upN P (113 + mG) (min X Y * 4096 + max X Y), upN Dp (113 + mG) (1 + max (Dp (min X Y / 2)) (Dp (max X Y / 2))), upN Sl kf (113 + mG), upN T (113 + mG) (gN (LT T X) (LT T Y))), rfl, ⟨2 * (113 + mG), rfl, (show (mG + 1) ≤ 1280 from by omega), bb_27, bb_28, bb_32, (show NJ (mG + 1) (max gd (1 + max (Dp (min X Y / 2)) (Dp (max X Y / 2)))) (upN P (113 + mG) (min X Y * 4096 + max X Y)) (upN Dp (113 + mG) (1 + max (Dp (min X Y / 2)) (Dp (max X Y / 2)))) (upN Sl kf (113 + mG)) (upN T (113 + mG) (gN (LT T X) (LT T Y))) from hJ.1), (show MXY (mG + 1) (upN mX mG (min X Y)) (upN mY mG (max X Y)) (upN mDe mG (1 + (max (Dp ((min X Y) / 2)) (Dp ((max X Y) / 2))))) (upN P (113 + mG) (min X Y * 4096 + max X Y)) (upN Dp (113 + mG) (1 + max (Dp (min X Y / 2)) (Dp (max X Y / 2)))) from hXY2), (show ST T mG (upN T (113 + mG) (gN (LT T X) (LT T Y))) (mG + 1) (jl (LT T X) (LT T Y)) from hJ.2.1), (show (2 * (113 + mG)) < 2 * (113 + (mG + 1)) from by omega), (show LT (upN T (113 + mG) (gN (LT T X) (LT T Y))) (2 * (113 + mG)) = jn (LT T X) (LT T Y) from hJ.2.2), (show AL K (upN T (113 + mG) (gN (LT T X) (LT T Y))) (mG + 1) from AL_st hAL hJ.2.1 hin)⟩, by rw [ht]; exact hP, va_K.moved hW.alike hK, hD⟩, hS.F ht⟩) hS.2.2 d_Mod_join_187
                    · skip
                      have c115 : mG = 2600 := (nI_eq (by omega) (by omega)).mp c115
                      omega
                  · skip
                    have c68 : ¬ (mG ≤ i) := fun h => c68 ((nI_leI (by omega) (by omega)).mpr h)
                    refine lv_aload_n hx hb d_Mod_join_71 rfl (lv_at hl 3 rfl) ?_
                    refine va_get (D := (dC, dI)) (ci := 6) (v := .ref a_mxx) (C := R_Mod) (T := F_Mod) (N := 27) hx hb hts (wi i_Mod) hown hK hP 0 rfl rfl 16 (by decide) (hts _ (mt 558 rfl rfl)) (fun _ h9 => h9) rfl d_Mod_join_72 ?_
                    refine lv_iload hx hb d_Mod_join_75 (lv_at hl 0 rfl) ?_
                    refine k_ild hx hb hK hP 1 0 rfl rfl (by omega) (by decide) d_Mod_join_77 ?_
                    have hb_33 := b_mX i
                    refine lv_iload_n hx hb d_Mod_join_78 rfl (lv_at hl 2 rfl) ?_
                    refine lv_icmp_ne (tgt := 102) hx hb d_Mod_join_79 (by decide) (fun c79 => ?_) (fun c79 => ?_)
                    · skip
                      have c79 : ¬ ((mX i) = (min X Y)) := fun h => c79 ((nI_eq (by omega) (by omega)).mpr h)
                      refine lv_iinc (v := nI (i + 1)) (lv' := [(5, .int (nI (i + 1))), (4, .int (nI (max X Y))), (3, .int (nI (min X Y))), (0, .ref a_mod), (1, .int (nI X)), (2, .int (nI Y))]) hx hb d_Mod_join_102 hl (k := 0) rfl (k_inc _ 1) (by decide) rfl (fun ls hl => ?_)
                      refine lv_goto (tgt := 62) hx hb d_Mod_join_105 (by decide) ?_
                      have hI_34 : (∀ j, j < (i + 1) → ¬ (mX j = min X Y ∧ mY j = max X Y)) ∧ ((i + 1) ≤ mG) := ⟨(fun j hj => by by_cases e : j = i; (subst e; omega); exact hi j (by omega)), (by omega)⟩
                      exact ih_26 (i + 1) hI_34 (show mG - (i + 1) < mG - i from by omega) _ _ _ hP hD hS (lv_sub hl [0, 1, 2, 3, 4, 5] rfl)
                    · skip
                      have c79 : (mX i) = (min X Y) := (nI_eq (by omega) (by omega)).mp c79
                      refine lv_aload_n hx hb d_Mod_join_82 rfl (lv_at hl 3 rfl) ?_
                      refine va_get (D := (dC, dI)) (ci := 6) (v := .ref a_myy) (C := R_Mod) (T := F_Mod) (N := 27) hx hb hts (wi i_Mod) hown hK hP 0 rfl rfl 17 (by decide) (hts _ (mt 559 rfl rfl)) (fun _ h9 => h9) rfl d_Mod_join_83 ?_
                      refine lv_iload hx hb d_Mod_join_86 (lv_at hl 0 rfl) ?_
                      refine k_ild hx hb hK hP 2 0 rfl rfl (by omega) (by decide) d_Mod_join_88 ?_
                      have hb_35 := b_mY i
                      refine lv_iload hx hb d_Mod_join_89 (lv_at hl 1 rfl) ?_
                      refine lv_icmp_ne (tgt := 102) hx hb d_Mod_join_91 (by decide) (fun c91 => ?_) (fun c91 => ?_)
                      · skip
                        have c91 : ¬ ((mY i) = (max X Y)) := fun h => c91 ((nI_eq (by omega) (by omega)).mpr h)
                        refine lv_iinc (v := nI (i + 1)) (lv' := [(5, .int (nI (i + 1))), (4, .int (nI (max X Y))), (3, .int (nI (min X Y))), (0, .ref a_mod), (1, .int (nI X)), (2, .int (nI Y))]) hx hb d_Mod_join_102 hl (k := 0) rfl (k_inc _ 1) (by decide) rfl (fun ls hl => ?_)
                        refine lv_goto (tgt := 62) hx hb d_Mod_join_105 (by decide) ?_
                        have hI_36 : (∀ j, j < (i + 1) → ¬ (mX j = min X Y ∧ mY j = max X Y)) ∧ ((i + 1) ≤ mG) := ⟨(fun j hj => by by_cases e : j = i; (subst e; omega); exact hi j (by omega)), (by omega)⟩
                        exact ih_26 (i + 1) hI_36 (show mG - (i + 1) < mG - i from by omega) _ _ _ hP hD hS (lv_sub hl [0, 1, 2, 3, 4, 5] rfl)
                      · skip
                        have c91 : (mY i) = (max X Y) := (nI_eq (by omega) (by omega)).mp c91
                        refine lv_iconst (v := nI 2) hx hb d_Mod_join_94 rfl ?_
                        refine lv_bipush (v := nI 113) hx hb d_Mod_join_95 rfl ?_
                        refine lv_iload hx hb d_Mod_join_97 (lv_at hl 0 rfl) ?_
                        refine lv_iadd hx hb d_Mod_join_99 ?_
                        refine k_top (nI_add _ _) ?_
                        refine lv_imul hx hb d_Mod_join_100 ?_
                        refine k_top (pk_mul _ _) ?_
                        have hxy := hXY i (by omega)
                        have hJ := J_oldN hN.1 hX hY b_mG hne h3.2 (n := 113 + i) (by omega) (by omega) (by rw [hxy.1, c79, c91])
                        exact W.iret (v := nI (2 * (113 + i))) hx hb hr (fun t ht hW => ⟨⟨nI (2 * (113 + i)), (mG, mX, mY, mDe, gd, P, Dp, Sl, T), rfl, ⟨2 * (113 + i), rfl, (show mG ≤ 1280 from by omega), b_mX, b_mY, b_mDe, (show NJ mG gd P Dp Sl T from hN), (show MXY mG mX mY mDe P Dp from hXY), (show ST T mG T mG (jl (LT T X) (LT T Y)) from hJ.1), (show (2 * (113 + i)) < 2 * (113 + mG) from by omega), (show LT T (2 * (113 + i)) = jn (LT T X) (LT T Y) from hJ.2), (show AL K T mG from hAL)⟩, by rw [ht]; exact hP, va_K.moved hW.alike hK, hD⟩, hS.F ht⟩) hS.2.2 d_Mod_join_101
                · skip
                  have c49 : ¬ (Y ≤ X) := fun h => c49 ((nI_leI (by omega) (by omega)).mpr h)
                  refine lv_iload_n hx hb d_Mod_join_52 rfl (lv_at hl 3 rfl) ?_
                  refine lv_goto (tgt := 57) hx hb d_Mod_join_53 (by decide) ?_
                  refine k_top (congrArg nI (show Y = max X Y from (by omega))) ?_
                  refine lv_istore (lv' := [(4, .int (nI (max X Y))), (3, .int (nI (min X Y))), (0, .ref a_mod), (1, .int (nI X)), (2, .int (nI Y))]) hx hb d_Mod_join_57 hl (by decide) rfl (fun ls hl => ?_)
                  refine lv_iconst (v := nI 0) hx hb d_Mod_join_59 rfl ?_
                  refine lv_istore (lv' := [(5, .int (nI 0)), (4, .int (nI (max X Y))), (3, .int (nI (min X Y))), (0, .ref a_mod), (1, .int (nI X)), (2, .int (nI Y))]) hx hb d_Mod_join_60 hl (by decide) rfl (fun ls hl => ?_)
                  have hI_37 : (∀ j, j < 0 → ¬ (mX j = min X Y ∧ mY j = max X Y)) ∧ (0 ≤ mG) := ⟨(fun j h => absurd h (by omega)), (by omega)⟩
                  refine k_loop (σ := Nat) (D := (dC, dI)) (cl := classes) (A := A) (H0 := s.heap) (fun x => [(a_mod, .inr (6, [.ref a_mkind, .ref a_mwidth, .ref a_mreset, .ref a_mop, .ref a_mka, .ref a_mkb, .ref a_mkc, .ref a_mheld, .int (nI mN), .ref a_msort, .ref a_mof, .ref a_mfrom, .int (nI mMs), .ref a_mbit, .ref a_mdone, .ref a_mrests, .ref a_mxx, .ref a_myy, .ref a_mdepth, .ref a_mone, .int (nI mG), .int (nI mCk), .int mFw, .int (nI mRd), .ref a_mbefore, .ref a_mfirst, .ref a_mturned])), (a_mxx, .inl (cI, 2600, .inl (nF mX))), (a_myy, .inl (cI, 2600, .inl (nF mY))), (a_mdepth, .inl (cI, 2600, .inl (nF mDe)))]) (fun x => [(5, .int (nI x)), (4, .int (nI (max X Y))), (3, .int (nI (min X Y))), (0, .ref a_mod), (1, .int (nI X)), (2, .int (nI Y))]) (fun x => (∀ j, j < x → ¬ (mX j = min X Y ∧ mY j = max X Y)) ∧ (x ≤ mG)) (fun x => mG - x) ?_ (0) hI_37 hP hD hS (lv_sub hl [0, 1, 2, 3, 4, 5] rfl)
                  intro i hI ih_38 H locs ls hP hD hS hl
                  obtain ⟨hi, hig⟩ : (∀ j, j < i → ¬ (mX j = min X Y ∧ mY j = max X Y)) ∧ (i ≤ mG) := hI
                  have hP : va_P (dC, dI) classes [(a_mod, .inr (6, [.ref a_mkind, .ref a_mwidth, .ref a_mreset, .ref a_mop, .ref a_mka, .ref a_mkb, .ref a_mkc, .ref a_mheld, .int (nI mN), .ref a_msort, .ref a_mof, .ref a_mfrom, .int (nI mMs), .ref a_mbit, .ref a_mdone, .ref a_mrests, .ref a_mxx, .ref a_myy, .ref a_mdepth, .ref a_mone, .int (nI mG), .int (nI mCk), .int mFw, .int (nI mRd), .ref a_mbefore, .ref a_mfirst, .ref a_mturned])), (a_mxx, .inl (cI, 2600, .inl (nF mX))), (a_myy, .inl (cI, 2600, .inl (nF mY))), (a_mdepth, .inl (cI, 2600, .inl (nF mDe)))] H := hP
                  have hD : va_D A [(a_mod, .inr (6, [.ref a_mkind, .ref a_mwidth, .ref a_mreset, .ref a_mop, .ref a_mka, .ref a_mkb, .ref a_mkc, .ref a_mheld, .int (nI mN), .ref a_msort, .ref a_mof, .ref a_mfrom, .int (nI mMs), .ref a_mbit, .ref a_mdone, .ref a_mrests, .ref a_mxx, .ref a_myy, .ref a_mdepth, .ref a_mone, .int (nI mG), .int (nI mCk), .int mFw, .int (nI mRd), .ref a_mbefore, .ref a_mfirst, .ref a_mturned])), (a_mxx, .inl (cI, 2600, .inl (nF mX))), (a_myy, .inl (cI, 2600, .inl (nF mY))), (a_mdepth, .inl (cI, 2600, .inl (nF mDe)))] := hD
                  have hl : lv_has ls 6 [(5, .int (nI i)), (4, .int (nI (max X Y))), (3, .int (nI (min X Y))), (0, .ref a_mod), (1, .int (nI X)), (2, .int (nI Y))] := hl
                  refine lv_iload hx hb d_Mod_join_62 (lv_at hl 0 rfl) ?_
                  refine lv_aload_n hx hb d_Mod_join_64 rfl (lv_at hl 3 rfl) ?_
                  refine va_get (D := (dC, dI)) (ci := 6) (v := .int (nI mG)) (C := R_Mod) (T := F_Mod) (N := 27) hx hb hts (wi i_Mod) hown hK hP 0 rfl rfl 20 (by decide) (hts _ (mt 562 rfl rfl)) (fun _ h9 => h9) rfl d_Mod_join_65 ?_
                  refine lv_icmp_ge (tgt := 108) hx hb d_Mod_join_68 (by decide) (fun c68 => ?_) (fun c68 => ?_)
                  · skip
                    have c68 : mG ≤ i := (nI_leI (by omega) (by omega)).mp c68
                    refine lv_aload_n hx hb d_Mod_join_108 rfl (lv_at hl 3 rfl) ?_
                    refine va_get (D := (dC, dI)) (ci := 6) (v := .int (nI mG)) (C := R_Mod) (T := F_Mod) (N := 27) hx hb hts (wi i_Mod) hown hK hP 0 rfl rfl 20 (by decide) (hts _ (mt 562 rfl rfl)) (fun _ h9 => h9) rfl d_Mod_join_109 ?_
                    refine lv_sipush (v := nI 2600) hx hb d_Mod_join_112 rfl ?_
                    refine lv_icmp_ne (tgt := 120) hx hb d_Mod_join_115 (by decide) (fun c115 => ?_) (fun c115 => ?_)
                    · skip
                      have c115 : ¬ (mG = 2600) := fun h => c115 ((nI_eq (by omega) (by omega)).mpr h)
                      have hfr : ∀ n, 113 ≤ n → n < 113 + mG → P n ≠ min X Y * 4096 + max X Y := fun n n1 n2 e => by
                        have hxy := hXY (n - 113) (by omega)
                        rw [show 113 + (n - 113) = n by omega, e] at hxy
                        exact hi (n - 113) (by omega) (by omega)
                      have hnew := NI_new hN.1 (a := min X Y) (b := max X Y) (by omega) (by omega) hfr
                      rw [gN_mm] at hnew
                      have hlt : mG < 1280 := AL_lt hAL hN.1.2.2.2.1 (hin _ (by rw [h3.2.1]; exact List.mem_singleton.mpr rfl)) hnew
                      obtain ⟨kf, hkf, hff⟩ := Fnd_ex hN.1 b_mG (min X Y * 4096 + max X Y)
                      have hk0 := Fnd_new hN.1 hkf hff hfr
                      have hd1 := NI_dp hN.1 _ (min X Y / 2) (Nat.le_refl _) (by omega)
                      have hd2 := NI_dp hN.1 _ (max X Y / 2) (Nat.le_refl _) (by omega)
                      have hJ := J_new hN hX hY hne h3.1 h3.2 hkf hff hk0 rfl rfl
                      have hXY2 := MXY_add (a := min X Y) (b := max X Y) (dv := 1 + max (Dp (min X Y / 2)) (Dp (max X Y / 2))) hXY (by omega) (by omega)
                      refine lv_aload_n hx hb d_Mod_join_120 rfl (lv_at hl 3 rfl) ?_
                      refine va_get (D := (dC, dI)) (ci := 6) (v := .ref a_mxx) (C := R_Mod) (T := F_Mod) (N := 27) hx hb hts (wi i_Mod) hown hK hP 0 rfl rfl 16 (by decide) (hts _ (mt 558 rfl rfl)) (fun _ h9 => h9) rfl d_Mod_join_121 ?_
                      refine lv_aload_n hx hb d_Mod_join_124 rfl (lv_at hl 3 rfl) ?_
                      refine va_get (D := (dC, dI)) (ci := 6) (v := .int (nI mG)) (C := R_Mod) (T := F_Mod) (N := 27) hx hb hts (wi i_Mod) hown hK hP 0 rfl rfl 20 (by decide) (hts _ (mt 562 rfl rfl)) (fun _ h9 => h9) rfl d_Mod_join_125 ?_
                      refine lv_iload_n hx hb d_Mod_join_128 rfl (lv_at hl 2 rfl) ?_
                      refine k_ist hx hb hK hP hD hS 1 0 rfl rfl (by omega) (by decide) d_Mod_join_129 (fun H locs hP hD hS => ?_)
                      have bb_39 : ∀ j, upN mX mG (min X Y) j < 2786 := upN_lt b_mX (by omega)
                      have hP : va_P (dC, dI) classes [(a_mod, .inr (6, [.ref a_mkind, .ref a_mwidth, .ref a_mreset, .ref a_mop, .ref a_mka, .ref a_mkb, .ref a_mkc, .ref a_mheld, .int (nI mN), .ref a_msort, .ref a_mof, .ref a_mfrom, .int (nI mMs), .ref a_mbit, .ref a_mdone, .ref a_mrests, .ref a_mxx, .ref a_myy, .ref a_mdepth, .ref a_mone, .int (nI mG), .int (nI mCk), .int mFw, .int (nI mRd), .ref a_mbefore, .ref a_mfirst, .ref a_mturned])), (a_mxx, .inl (cI, 2600, .inl (nF (upN mX mG (min X Y))))), (a_myy, .inl (cI, 2600, .inl (nF mY))), (a_mdepth, .inl (cI, 2600, .inl (nF mDe)))] H := hP
                      have hD : va_D A [(a_mod, .inr (6, [.ref a_mkind, .ref a_mwidth, .ref a_mreset, .ref a_mop, .ref a_mka, .ref a_mkb, .ref a_mkc, .ref a_mheld, .int (nI mN), .ref a_msort, .ref a_mof, .ref a_mfrom, .int (nI mMs), .ref a_mbit, .ref a_mdone, .ref a_mrests, .ref a_mxx, .ref a_myy, .ref a_mdepth, .ref a_mone, .int (nI mG), .int (nI mCk), .int mFw, .int (nI mRd), .ref a_mbefore, .ref a_mfirst, .ref a_mturned])), (a_mxx, .inl (cI, 2600, .inl (nF (upN mX mG (min X Y))))), (a_myy, .inl (cI, 2600, .inl (nF mY))), (a_mdepth, .inl (cI, 2600, .inl (nF mDe)))] := hD
                      refine lv_aload_n hx hb d_Mod_join_130 rfl (lv_at hl 3 rfl) ?_
                      refine va_get (D := (dC, dI)) (ci := 6) (v := .ref a_myy) (C := R_Mod) (T := F_Mod) (N := 27) hx hb hts (wi i_Mod) hown hK hP 0 rfl rfl 17 (by decide) (hts _ (mt 559 rfl rfl)) (fun _ h9 => h9) rfl d_Mod_join_131 ?_
                      refine lv_aload_n hx hb d_Mod_join_134 rfl (lv_at hl 3 rfl) ?_
                      refine va_get (D := (dC, dI)) (ci := 6) (v := .int (nI mG)) (C := R_Mod) (T := F_Mod) (N := 27) hx hb hts (wi i_Mod) hown hK hP 0 rfl rfl 20 (by decide) (hts _ (mt 562 rfl rfl)) (fun _ h9 => h9) rfl d_Mod_join_135 ?_
                      refine lv_iload hx hb d_Mod_join_138 (lv_at hl 1 rfl) ?_
                      refine k_ist hx hb hK hP hD hS 2 0 rfl rfl (by omega) (by decide) d_Mod_join_140 (fun H locs hP hD hS => ?_)
                      have bb_40 : ∀ j, upN mY mG (max X Y) j < 2786 := upN_lt b_mY (by omega)
                      have hP : va_P (dC, dI) classes [(a_mod, .inr (6, [.ref a_mkind, .ref a_mwidth, .ref a_mreset, .ref a_mop, .ref a_mka, .ref a_mkb, .ref a_mkc, .ref a_mheld, .int (nI mN), .ref a_msort, .ref a_mof, .ref a_mfrom, .int (nI mMs), .ref a_mbit, .ref a_mdone, .ref a_mrests, .ref a_mxx, .ref a_myy, .ref a_mdepth, .ref a_mone, .int (nI mG), .int (nI mCk), .int mFw, .int (nI mRd), .ref a_mbefore, .ref a_mfirst, .ref a_mturned])), (a_mxx, .inl (cI, 2600, .inl (nF (upN mX mG (min X Y))))), (a_myy, .inl (cI, 2600, .inl (nF (upN mY mG (max X Y))))), (a_mdepth, .inl (cI, 2600, .inl (nF mDe)))] H := hP
                      have hD : va_D A [(a_mod, .inr (6, [.ref a_mkind, .ref a_mwidth, .ref a_mreset, .ref a_mop, .ref a_mka, .ref a_mkb, .ref a_mkc, .ref a_mheld, .int (nI mN), .ref a_msort, .ref a_mof, .ref a_mfrom, .int (nI mMs), .ref a_mbit, .ref a_mdone, .ref a_mrests, .ref a_mxx, .ref a_myy, .ref a_mdepth, .ref a_mone, .int (nI mG), .int (nI mCk), .int mFw, .int (nI mRd), .ref a_mbefore, .ref a_mfirst, .ref a_mturned])), (a_mxx, .inl (cI, 2600, .inl (nF (upN mX mG (min X Y))))), (a_myy, .inl (cI, 2600, .inl (nF (upN mY mG (max X Y))))), (a_mdepth, .inl (cI, 2600, .inl (nF mDe)))] := hD
                      refine lv_aload_n hx hb d_Mod_join_141 rfl (lv_at hl 3 rfl) ?_
                      refine va_get (D := (dC, dI)) (ci := 6) (v := .ref a_mdepth) (C := R_Mod) (T := F_Mod) (N := 27) hx hb hts (wi i_Mod) hown hK hP 0 rfl rfl 18 (by decide) (hts _ (mt 560 rfl rfl)) (fun _ h9 => h9) rfl d_Mod_join_142 ?_
                      refine lv_aload_n hx hb d_Mod_join_145 rfl (lv_at hl 3 rfl) ?_
                      refine va_get (D := (dC, dI)) (ci := 6) (v := .int (nI mG)) (C := R_Mod) (T := F_Mod) (N := 27) hx hb hts (wi i_Mod) hown hK hP 0 rfl rfl 20 (by decide) (hts _ (mt 562 rfl rfl)) (fun _ h9 => h9) rfl d_Mod_join_146 ?_
                      refine lv_iconst (v := nI 1) hx hb d_Mod_join_149 rfl ?_
                      refine lv_aload_n hx hb d_Mod_join_150 rfl (lv_at hl 3 rfl) ?_
                      refine lv_iload_n hx hb d_Mod_join_151 rfl (lv_at hl 2 rfl) ?_
                      refine k_i (wr := [(a_mxx, .inl (cI, 2600, .inl (nF (upN mX mG (min X Y))))), (a_myy, .inl (cI, 2600, .inl (nF (upN mY mG (max X Y)))))]) (w2 := fun (u : Unit) => [(a_mod, .inr (6, [.ref a_mkind, .ref a_mwidth, .ref a_mreset, .ref a_mop, .ref a_mka, .ref a_mkb, .ref a_mkc, .ref a_mheld, .int (nI mN), .ref a_msort, .ref a_mof, .ref a_mfrom, .int (nI mMs), .ref a_mbit, .ref a_mdone, .ref a_mrests, .ref a_mxx, .ref a_myy, .ref a_mdepth, .ref a_mone, .int (nI mG), .int (nI mCk), .int mFw, .int (nI mRd), .ref a_mbefore, .ref a_mfirst, .ref a_mturned])), (a_mxx, .inl (cI, 2600, .inl (nF (upN mX mG (min X Y))))), (a_myy, .inl (cI, 2600, .inl (nF (upN mY mG (max X Y))))), (a_mdepth, .inl (cI, 2600, .inl (nF mDe)))]) (va_runV (As := [.int (nI (min X Y))]) (rest := [.int (nI 1), .int (nI mG), .ref a_mdepth]) ⟨hx, hb, hml, hown, hts⟩ (c_Mod_depthOf l dC dI cI cZ a_mod a_mkind a_mwidth a_mreset a_mop a_mka a_mkb a_mkc a_mheld a_msort a_mof a_mfrom a_mbit a_mdone a_mrests a_mxx a_myy a_mdepth a_mone a_mbefore a_mfirst a_mturned tt H.size mN mMs mG mCk mFw mRd mDe gd P Dp Sl T K (min X Y) (by omega) (by omega) (by omega) (by omega) b_mDe hN (fun i h => (hXY i h).2.2.2) (by omega)) (cwV 1 hts (gd_V in_tl (mw 706 rfl rfl) (mw 708 rfl rfl) (mw 33 rfl rfl) (mw 47 rfl rfl) (mw 709 rfl rfl)) rfl rfl rfl (by decide +kernel) ⟨Nat.le_of_ble_eq_true rfl, Nat.le_of_ble_eq_true rfl⟩) (k_preV hK hP hD hS hA hE [0, 3] (by decide) rfl 6 0 rfl rfl) rfl rfl hl.1 rfl (lv_room (Nat.le_of_ble_eq_true rfl)) d_Mod_join_152 ⟨Nat.zero_le _, Nat.zero_le _⟩) hP hD hS hA [0, 3] [1, 2] [2, 0, 1, 3] rfl rfl (by decide) (by decide) (by decide) (fun _ => rfl) (fun r_41 u H locs hw hP hD hS => ?_)
                      obtain rfl : (r_41 = nI (Dp ((min X Y) / 2))) := hw
                      have hP : va_P (dC, dI) classes [(a_mod, .inr (6, [.ref a_mkind, .ref a_mwidth, .ref a_mreset, .ref a_mop, .ref a_mka, .ref a_mkb, .ref a_mkc, .ref a_mheld, .int (nI mN), .ref a_msort, .ref a_mof, .ref a_mfrom, .int (nI mMs), .ref a_mbit, .ref a_mdone, .ref a_mrests, .ref a_mxx, .ref a_myy, .ref a_mdepth, .ref a_mone, .int (nI mG), .int (nI mCk), .int mFw, .int (nI mRd), .ref a_mbefore, .ref a_mfirst, .ref a_mturned])), (a_mxx, .inl (cI, 2600, .inl (nF (upN mX mG (min X Y))))), (a_myy, .inl (cI, 2600, .inl (nF (upN mY mG (max X Y))))), (a_mdepth, .inl (cI, 2600, .inl (nF mDe)))] H := hP
                      have hD : va_D A [(a_mod, .inr (6, [.ref a_mkind, .ref a_mwidth, .ref a_mreset, .ref a_mop, .ref a_mka, .ref a_mkb, .ref a_mkc, .ref a_mheld, .int (nI mN), .ref a_msort, .ref a_mof, .ref a_mfrom, .int (nI mMs), .ref a_mbit, .ref a_mdone, .ref a_mrests, .ref a_mxx, .ref a_myy, .ref a_mdepth, .ref a_mone, .int (nI mG), .int (nI mCk), .int mFw, .int (nI mRd), .ref a_mbefore, .ref a_mfirst, .ref a_mturned])), (a_mxx, .inl (cI, 2600, .inl (nF (upN mX mG (min X Y))))), (a_myy, .inl (cI, 2600, .inl (nF (upN mY mG (max X Y))))), (a_mdepth, .inl (cI, 2600, .inl (nF mDe)))] := hD
                      refine lv_aload_n hx hb d_Mod_join_155 rfl (lv_at hl 3 rfl) ?_
                      refine lv_iload hx hb d_Mod_join_156 (lv_at hl 1 rfl) ?_
                      refine k_i (wr := [(a_mxx, .inl (cI, 2600, .inl (nF (upN mX mG (min X Y))))), (a_myy, .inl (cI, 2600, .inl (nF (upN mY mG (max X Y)))))]) (w2 := fun (u : Unit) => [(a_mod, .inr (6, [.ref a_mkind, .ref a_mwidth, .ref a_mreset, .ref a_mop, .ref a_mka, .ref a_mkb, .ref a_mkc, .ref a_mheld, .int (nI mN), .ref a_msort, .ref a_mof, .ref a_mfrom, .int (nI mMs), .ref a_mbit, .ref a_mdone, .ref a_mrests, .ref a_mxx, .ref a_myy, .ref a_mdepth, .ref a_mone, .int (nI mG), .int (nI mCk), .int mFw, .int (nI mRd), .ref a_mbefore, .ref a_mfirst, .ref a_mturned])), (a_mxx, .inl (cI, 2600, .inl (nF (upN mX mG (min X Y))))), (a_myy, .inl (cI, 2600, .inl (nF (upN mY mG (max X Y))))), (a_mdepth, .inl (cI, 2600, .inl (nF mDe)))]) (va_runV (As := [.int (nI (max X Y))]) (rest := [.int (nI (Dp ((min X Y) / 2))), .int (nI 1), .int (nI mG), .ref a_mdepth]) ⟨hx, hb, hml, hown, hts⟩ (c_Mod_depthOf l dC dI cI cZ a_mod a_mkind a_mwidth a_mreset a_mop a_mka a_mkb a_mkc a_mheld a_msort a_mof a_mfrom a_mbit a_mdone a_mrests a_mxx a_myy a_mdepth a_mone a_mbefore a_mfirst a_mturned tt H.size mN mMs mG mCk mFw mRd mDe gd P Dp Sl T K (max X Y) (by omega) (by omega) (by omega) (by omega) b_mDe hN (fun i h => (hXY i h).2.2.2) (by omega)) (cwV 1 hts (gd_V in_tl (mw 706 rfl rfl) (mw 708 rfl rfl) (mw 33 rfl rfl) (mw 47 rfl rfl) (mw 709 rfl rfl)) rfl rfl rfl (by decide +kernel) ⟨Nat.le_of_ble_eq_true rfl, Nat.le_of_ble_eq_true rfl⟩) (k_preV hK hP hD hS hA hE [0, 3] (by decide) rfl 6 0 rfl rfl) rfl rfl hl.1 rfl (lv_room (Nat.le_of_ble_eq_true rfl)) d_Mod_join_158 ⟨Nat.zero_le _, Nat.zero_le _⟩) hP hD hS hA [0, 3] [1, 2] [2, 0, 1, 3] rfl rfl (by decide) (by decide) (by decide) (fun _ => rfl) (fun r_42 u H locs hw hP hD hS => ?_)
                      obtain rfl : (r_42 = nI (Dp ((max X Y) / 2))) := hw
                      have hP : va_P (dC, dI) classes [(a_mod, .inr (6, [.ref a_mkind, .ref a_mwidth, .ref a_mreset, .ref a_mop, .ref a_mka, .ref a_mkb, .ref a_mkc, .ref a_mheld, .int (nI mN), .ref a_msort, .ref a_mof, .ref a_mfrom, .int (nI mMs), .ref a_mbit, .ref a_mdone, .ref a_mrests, .ref a_mxx, .ref a_myy, .ref a_mdepth, .ref a_mone, .int (nI mG), .int (nI mCk), .int mFw, .int (nI mRd), .ref a_mbefore, .ref a_mfirst, .ref a_mturned])), (a_mxx, .inl (cI, 2600, .inl (nF (upN mX mG (min X Y))))), (a_myy, .inl (cI, 2600, .inl (nF (upN mY mG (max X Y))))), (a_mdepth, .inl (cI, 2600, .inl (nF mDe)))] H := hP
                      have hD : va_D A [(a_mod, .inr (6, [.ref a_mkind, .ref a_mwidth, .ref a_mreset, .ref a_mop, .ref a_mka, .ref a_mkb, .ref a_mkc, .ref a_mheld, .int (nI mN), .ref a_msort, .ref a_mof, .ref a_mfrom, .int (nI mMs), .ref a_mbit, .ref a_mdone, .ref a_mrests, .ref a_mxx, .ref a_myy, .ref a_mdepth, .ref a_mone, .int (nI mG), .int (nI mCk), .int mFw, .int (nI mRd), .ref a_mbefore, .ref a_mfirst, .ref a_mturned])), (a_mxx, .inl (cI, 2600, .inl (nF (upN mX mG (min X Y))))), (a_myy, .inl (cI, 2600, .inl (nF (upN mY mG (max X Y))))), (a_mdepth, .inl (cI, 2600, .inl (nF mDe)))] := hD
                      refine k_i (wr := [(a_mod, .inr (6, [.ref a_mkind, .ref a_mwidth, .ref a_mreset, .ref a_mop, .ref a_mka, .ref a_mkb, .ref a_mkc, .ref a_mheld, .int (nI mN), .ref a_msort, .ref a_mof, .ref a_mfrom, .int (nI mMs), .ref a_mbit, .ref a_mdone, .ref a_mrests, .ref a_mxx, .ref a_myy, .ref a_mdepth, .ref a_mone, .int (nI mG), .int (nI mCk), .int mFw, .int (nI mRd), .ref a_mbefore, .ref a_mfirst, .ref a_mturned])), (a_mxx, .inl (cI, 2600, .inl (nF (upN mX mG (min X Y))))), (a_myy, .inl (cI, 2600, .inl (nF (upN mY mG (max X Y))))), (a_mdepth, .inl (cI, 2600, .inl (nF mDe)))]) (w2 := fun (u : Unit) => [(a_mod, .inr (6, [.ref a_mkind, .ref a_mwidth, .ref a_mreset, .ref a_mop, .ref a_mka, .ref a_mkb, .ref a_mkc, .ref a_mheld, .int (nI mN), .ref a_msort, .ref a_mof, .ref a_mfrom, .int (nI mMs), .ref a_mbit, .ref a_mdone, .ref a_mrests, .ref a_mxx, .ref a_myy, .ref a_mdepth, .ref a_mone, .int (nI mG), .int (nI mCk), .int mFw, .int (nI mRd), .ref a_mbefore, .ref a_mfirst, .ref a_mturned])), (a_mxx, .inl (cI, 2600, .inl (nF (upN mX mG (min X Y))))), (a_myy, .inl (cI, 2600, .inl (nF (upN mY mG (max X Y))))), (a_mdepth, .inl (cI, 2600, .inl (nF mDe)))]) (va_runS (As := [.int (nI (Dp ((min X Y) / 2))), .int (nI (Dp ((max X Y) / 2)))]) (rest := [.int (nI 1), .int (nI mG), .ref a_mdepth]) ⟨hx, hb, hml, hown, hts⟩ (c_Mod_more l dC dI cI cZ  tt H.size  (Dp ((min X Y) / 2)) (Dp ((max X Y) / 2)) (by omega) (by omega)) (va_cwS 2 hts (gd_S in_tl (mw 647 rfl rfl) (mw 648 rfl rfl) (mw 47 rfl rfl) (mw 649 rfl rfl)) rfl rfl rfl (by decide +kernel) ⟨Nat.le_of_ble_eq_true rfl, Nat.le_of_ble_eq_true rfl⟩) (k_preS hK hP hD hS hA hE [] (by decide) rfl) rfl rfl hl.1 rfl (lv_room (Nat.le_of_ble_eq_true rfl)) d_Mod_join_161 ⟨Nat.zero_le _, Nat.zero_le _⟩) hP hD hS hA [] [0, 1, 2, 3] [0, 1, 2, 3] rfl rfl (by decide) (by decide) (by decide) (fun _ => rfl) (fun r_43 u H locs hw hP hD hS => ?_)
                      obtain rfl : (r_43 = nI (max (Dp ((min X Y) / 2)) (Dp ((max X Y) / 2)))) := hw
                      have hP : va_P (dC, dI) classes [(a_mod, .inr (6, [.ref a_mkind, .ref a_mwidth, .ref a_mreset, .ref a_mop, .ref a_mka, .ref a_mkb, .ref a_mkc, .ref a_mheld, .int (nI mN), .ref a_msort, .ref a_mof, .ref a_mfrom, .int (nI mMs), .ref a_mbit, .ref a_mdone, .ref a_mrests, .ref a_mxx, .ref a_myy, .ref a_mdepth, .ref a_mone, .int (nI mG), .int (nI mCk), .int mFw, .int (nI mRd), .ref a_mbefore, .ref a_mfirst, .ref a_mturned])), (a_mxx, .inl (cI, 2600, .inl (nF (upN mX mG (min X Y))))), (a_myy, .inl (cI, 2600, .inl (nF (upN mY mG (max X Y))))), (a_mdepth, .inl (cI, 2600, .inl (nF mDe)))] H := hP
                      have hD : va_D A [(a_mod, .inr (6, [.ref a_mkind, .ref a_mwidth, .ref a_mreset, .ref a_mop, .ref a_mka, .ref a_mkb, .ref a_mkc, .ref a_mheld, .int (nI mN), .ref a_msort, .ref a_mof, .ref a_mfrom, .int (nI mMs), .ref a_mbit, .ref a_mdone, .ref a_mrests, .ref a_mxx, .ref a_myy, .ref a_mdepth, .ref a_mone, .int (nI mG), .int (nI mCk), .int mFw, .int (nI mRd), .ref a_mbefore, .ref a_mfirst, .ref a_mturned])), (a_mxx, .inl (cI, 2600, .inl (nF (upN mX mG (min X Y))))), (a_myy, .inl (cI, 2600, .inl (nF (upN mY mG (max X Y))))), (a_mdepth, .inl (cI, 2600, .inl (nF mDe)))] := hD
                      refine lv_iadd hx hb d_Mod_join_164 ?_
                      refine k_top (nI_add _ _) ?_
                      refine k_ist hx hb hK hP hD hS 3 0 rfl rfl (by omega) (by decide) d_Mod_join_165 (fun H locs hP hD hS => ?_)
                      have bb_44 : ∀ j, upN mDe mG (1 + (max (Dp ((min X Y) / 2)) (Dp ((max X Y) / 2)))) j < 1400 := upN_lt b_mDe (by omega)
                      have hP : va_P (dC, dI) classes [(a_mod, .inr (6, [.ref a_mkind, .ref a_mwidth, .ref a_mreset, .ref a_mop, .ref a_mka, .ref a_mkb, .ref a_mkc, .ref a_mheld, .int (nI mN), .ref a_msort, .ref a_mof, .ref a_mfrom, .int (nI mMs), .ref a_mbit, .ref a_mdone, .ref a_mrests, .ref a_mxx, .ref a_myy, .ref a_mdepth, .ref a_mone, .int (nI mG), .int (nI mCk), .int mFw, .int (nI mRd), .ref a_mbefore, .ref a_mfirst, .ref a_mturned])), (a_mxx, .inl (cI, 2600, .inl (nF (upN mX mG (min X Y))))), (a_myy, .inl (cI, 2600, .inl (nF (upN mY mG (max X Y))))), (a_mdepth, .inl (cI, 2600, .inl (nF (upN mDe mG (1 + (max (Dp ((min X Y) / 2)) (Dp ((max X Y) / 2))))))))] H := hP
                      have hD : va_D A [(a_mod, .inr (6, [.ref a_mkind, .ref a_mwidth, .ref a_mreset, .ref a_mop, .ref a_mka, .ref a_mkb, .ref a_mkc, .ref a_mheld, .int (nI mN), .ref a_msort, .ref a_mof, .ref a_mfrom, .int (nI mMs), .ref a_mbit, .ref a_mdone, .ref a_mrests, .ref a_mxx, .ref a_myy, .ref a_mdepth, .ref a_mone, .int (nI mG), .int (nI mCk), .int mFw, .int (nI mRd), .ref a_mbefore, .ref a_mfirst, .ref a_mturned])), (a_mxx, .inl (cI, 2600, .inl (nF (upN mX mG (min X Y))))), (a_myy, .inl (cI, 2600, .inl (nF (upN mY mG (max X Y))))), (a_mdepth, .inl (cI, 2600, .inl (nF (upN mDe mG (1 + (max (Dp ((min X Y) / 2)) (Dp ((max X Y) / 2))))))))] := hD
                      refine lv_aload_n hx hb d_Mod_join_166 rfl (lv_at hl 3 rfl) ?_
                      refine lv_dup hx hb d_Mod_join_167 rfl ?_
                      refine va_get (D := (dC, dI)) (ci := 6) (v := .int (nI mG)) (C := R_Mod) (T := F_Mod) (N := 27) hx hb hts (wi i_Mod) hown hK hP 0 rfl rfl 20 (by decide) (hts _ (mt 562 rfl rfl)) (fun _ h9 => h9) rfl d_Mod_join_168 ?_
                      refine lv_iconst (v := nI 1) hx hb d_Mod_join_171 rfl ?_
                      refine lv_iadd hx hb d_Mod_join_172 ?_
                      refine k_top (nI_add _ _) ?_
                      refine va_put (D := (dC, dI)) (ci := 6) (v := .int (nI (mG + 1))) (ty := .int) (C := R_Mod) (T := F_Mod) (N := 27) hx hb hts (wi i_Mod) t_Mod t_Mod_ok n_Mod hown hK hP hD hS 0 rfl rfl 20 (by decide) (hts _ (mt 562 rfl rfl)) (fun _ h9 => h9) rfl (by decide +kernel) rfl rfl (Nat.le_of_ble_eq_true rfl) d_Mod_join_173 (fun H locs hP hD hS => ?_)
                      have hP : va_P (dC, dI) classes [(a_mod, .inr (6, [.ref a_mkind, .ref a_mwidth, .ref a_mreset, .ref a_mop, .ref a_mka, .ref a_mkb, .ref a_mkc, .ref a_mheld, .int (nI mN), .ref a_msort, .ref a_mof, .ref a_mfrom, .int (nI mMs), .ref a_mbit, .ref a_mdone, .ref a_mrests, .ref a_mxx, .ref a_myy, .ref a_mdepth, .ref a_mone, .int (nI (mG + 1)), .int (nI mCk), .int mFw, .int (nI mRd), .ref a_mbefore, .ref a_mfirst, .ref a_mturned])), (a_mxx, .inl (cI, 2600, .inl (nF (upN mX mG (min X Y))))), (a_myy, .inl (cI, 2600, .inl (nF (upN mY mG (max X Y))))), (a_mdepth, .inl (cI, 2600, .inl (nF (upN mDe mG (1 + (max (Dp ((min X Y) / 2)) (Dp ((max X Y) / 2))))))))] H := hP
                      have hD : va_D A [(a_mod, .inr (6, [.ref a_mkind, .ref a_mwidth, .ref a_mreset, .ref a_mop, .ref a_mka, .ref a_mkb, .ref a_mkc, .ref a_mheld, .int (nI mN), .ref a_msort, .ref a_mof, .ref a_mfrom, .int (nI mMs), .ref a_mbit, .ref a_mdone, .ref a_mrests, .ref a_mxx, .ref a_myy, .ref a_mdepth, .ref a_mone, .int (nI (mG + 1)), .int (nI mCk), .int mFw, .int (nI mRd), .ref a_mbefore, .ref a_mfirst, .ref a_mturned])), (a_mxx, .inl (cI, 2600, .inl (nF (upN mX mG (min X Y))))), (a_myy, .inl (cI, 2600, .inl (nF (upN mY mG (max X Y))))), (a_mdepth, .inl (cI, 2600, .inl (nF (upN mDe mG (1 + (max (Dp ((min X Y) / 2)) (Dp ((max X Y) / 2))))))))] := hD
                      refine lv_iconst (v := nI 2) hx hb d_Mod_join_176 rfl ?_
                      refine lv_bipush (v := nI 113) hx hb d_Mod_join_177 rfl ?_
                      refine lv_aload_n hx hb d_Mod_join_179 rfl (lv_at hl 3 rfl) ?_
                      refine va_get (D := (dC, dI)) (ci := 6) (v := .int (nI (mG + 1))) (C := R_Mod) (T := F_Mod) (N := 27) hx hb hts (wi i_Mod) hown hK hP 0 rfl rfl 20 (by decide) (hts _ (mt 562 rfl rfl)) (fun _ h9 => h9) rfl d_Mod_join_180 ?_
                      refine lv_iadd hx hb d_Mod_join_183 ?_
                      refine k_top (nI_add _ _) ?_
                      refine lv_iconst (v := nI 1) hx hb d_Mod_join_184 rfl ?_
                      refine lv_isub hx hb d_Mod_join_185 ?_
                      refine k_top (pk_sub (by omega)) ?_
                      refine lv_imul hx hb d_Mod_join_186 ?_
                      refine k_top (pk_mul _ _) ?_
                      refine k_top (congrArg nI (show 2 * ((113 + (mG + 1)) - 1) = 2 * (113 + mG) from (by omega))) ?_
                      exact W.iret (v := nI (2 * (113 + mG))) hx hb hr (fun t ht hW => ⟨⟨nI (2 * (113 + mG)), (mG + 1, upN mX mG (min X Y), upN mY mG (max X Y), upN mDe mG (1 + (max (Dp ((min X Y) / 2)) (Dp ((max X Y) / 2)))), max gd (1 + max (Dp (min X Y / 2)) (Dp (max X Y / 2))), upN P (113 + mG) (min X Y * 4096 + max X Y), upN Dp (113 + mG) (1 + max (Dp (min X Y / 2)) (Dp (max X Y / 2))), upN Sl kf (113 + mG), upN T (113 + mG) (gN (LT T X) (LT T Y))), rfl, ⟨2 * (113 + mG), rfl, (show (mG + 1) ≤ 1280 from by omega), bb_39, bb_40, bb_44, (show NJ (mG + 1) (max gd (1 + max (Dp (min X Y / 2)) (Dp (max X Y / 2)))) (upN P (113 + mG) (min X Y * 4096 + max X Y)) (upN Dp (113 + mG) (1 + max (Dp (min X Y / 2)) (Dp (max X Y / 2)))) (upN Sl kf (113 + mG)) (upN T (113 + mG) (gN (LT T X) (LT T Y))) from hJ.1), (show MXY (mG + 1) (upN mX mG (min X Y)) (upN mY mG (max X Y)) (upN mDe mG (1 + (max (Dp ((min X Y) / 2)) (Dp ((max X Y) / 2))))) (upN P (113 + mG) (min X Y * 4096 + max X Y)) (upN Dp (113 + mG) (1 + max (Dp (min X Y / 2)) (Dp (max X Y / 2)))) from hXY2), (show ST T mG (upN T (113 + mG) (gN (LT T X) (LT T Y))) (mG + 1) (jl (LT T X) (LT T Y)) from hJ.2.1), (show (2 * (113 + mG)) < 2 * (113 + (mG + 1)) from by omega), (show LT (upN T (113 + mG) (gN (LT T X) (LT T Y))) (2 * (113 + mG)) = jn (LT T X) (LT T Y) from hJ.2.2), (show AL K (upN T (113 + mG) (gN (LT T X) (LT T Y))) (mG + 1) from AL_st hAL hJ.2.1 hin)⟩, by rw [ht]; exact hP, va_K.moved hW.alike hK, hD⟩, hS.F ht⟩) hS.2.2 d_Mod_join_187
                    · skip
                      have c115 : mG = 2600 := (nI_eq (by omega) (by omega)).mp c115
                      omega
                  · skip
                    have c68 : ¬ (mG ≤ i) := fun h => c68 ((nI_leI (by omega) (by omega)).mpr h)
                    refine lv_aload_n hx hb d_Mod_join_71 rfl (lv_at hl 3 rfl) ?_
                    refine va_get (D := (dC, dI)) (ci := 6) (v := .ref a_mxx) (C := R_Mod) (T := F_Mod) (N := 27) hx hb hts (wi i_Mod) hown hK hP 0 rfl rfl 16 (by decide) (hts _ (mt 558 rfl rfl)) (fun _ h9 => h9) rfl d_Mod_join_72 ?_
                    refine lv_iload hx hb d_Mod_join_75 (lv_at hl 0 rfl) ?_
                    refine k_ild hx hb hK hP 1 0 rfl rfl (by omega) (by decide) d_Mod_join_77 ?_
                    have hb_45 := b_mX i
                    refine lv_iload_n hx hb d_Mod_join_78 rfl (lv_at hl 2 rfl) ?_
                    refine lv_icmp_ne (tgt := 102) hx hb d_Mod_join_79 (by decide) (fun c79 => ?_) (fun c79 => ?_)
                    · skip
                      have c79 : ¬ ((mX i) = (min X Y)) := fun h => c79 ((nI_eq (by omega) (by omega)).mpr h)
                      refine lv_iinc (v := nI (i + 1)) (lv' := [(5, .int (nI (i + 1))), (4, .int (nI (max X Y))), (3, .int (nI (min X Y))), (0, .ref a_mod), (1, .int (nI X)), (2, .int (nI Y))]) hx hb d_Mod_join_102 hl (k := 0) rfl (k_inc _ 1) (by decide) rfl (fun ls hl => ?_)
                      refine lv_goto (tgt := 62) hx hb d_Mod_join_105 (by decide) ?_
                      have hI_46 : (∀ j, j < (i + 1) → ¬ (mX j = min X Y ∧ mY j = max X Y)) ∧ ((i + 1) ≤ mG) := ⟨(fun j hj => by by_cases e : j = i; (subst e; omega); exact hi j (by omega)), (by omega)⟩
                      exact ih_38 (i + 1) hI_46 (show mG - (i + 1) < mG - i from by omega) _ _ _ hP hD hS (lv_sub hl [0, 1, 2, 3, 4, 5] rfl)
                    · skip
                      have c79 : (mX i) = (min X Y) := (nI_eq (by omega) (by omega)).mp c79
                      refine lv_aload_n hx hb d_Mod_join_82 rfl (lv_at hl 3 rfl) ?_
                      refine va_get (D := (dC, dI)) (ci := 6) (v := .ref a_myy) (C := R_Mod) (T := F_Mod) (N := 27) hx hb hts (wi i_Mod) hown hK hP 0 rfl rfl 17 (by decide) (hts _ (mt 559 rfl rfl)) (fun _ h9 => h9) rfl d_Mod_join_83 ?_
                      refine lv_iload hx hb d_Mod_join_86 (lv_at hl 0 rfl) ?_
                      refine k_ild hx hb hK hP 2 0 rfl rfl (by omega) (by decide) d_Mod_join_88 ?_
                      have hb_47 := b_mY i
                      refine lv_iload hx hb d_Mod_join_89 (lv_at hl 1 rfl) ?_
                      refine lv_icmp_ne (tgt := 102) hx hb d_Mod_join_91 (by decide) (fun c91 => ?_) (fun c91 => ?_)
                      · skip
                        have c91 : ¬ ((mY i) = (max X Y)) := fun h => c91 ((nI_eq (by omega) (by omega)).mpr h)
                        refine lv_iinc (v := nI (i + 1)) (lv' := [(5, .int (nI (i + 1))), (4, .int (nI (max X Y))), (3, .int (nI (min X Y))), (0, .ref a_mod), (1, .int (nI X)), (2, .int (nI Y))]) hx hb d_Mod_join_102 hl (k := 0) rfl (k_inc _ 1) (by decide) rfl (fun ls hl => ?_)
                        refine lv_goto (tgt := 62) hx hb d_Mod_join_105 (by decide) ?_
                        have hI_48 : (∀ j, j < (i + 1) → ¬ (mX j = min X Y ∧ mY j = max X Y)) ∧ ((i + 1) ≤ mG) := ⟨(fun j hj => by by_cases e : j = i; (subst e; omega); exact hi j (by omega)), (by omega)⟩
                        exact ih_38 (i + 1) hI_48 (show mG - (i + 1) < mG - i from by omega) _ _ _ hP hD hS (lv_sub hl [0, 1, 2, 3, 4, 5] rfl)
                      · skip
                        have c91 : (mY i) = (max X Y) := (nI_eq (by omega) (by omega)).mp c91
                        refine lv_iconst (v := nI 2) hx hb d_Mod_join_94 rfl ?_
                        refine lv_bipush (v := nI 113) hx hb d_Mod_join_95 rfl ?_
                        refine lv_iload hx hb d_Mod_join_97 (lv_at hl 0 rfl) ?_
                        refine lv_iadd hx hb d_Mod_join_99 ?_
                        refine k_top (nI_add _ _) ?_
                        refine lv_imul hx hb d_Mod_join_100 ?_
                        refine k_top (pk_mul _ _) ?_
                        have hxy := hXY i (by omega)
                        have hJ := J_oldN hN.1 hX hY b_mG hne h3.2 (n := 113 + i) (by omega) (by omega) (by rw [hxy.1, c79, c91])
                        exact W.iret (v := nI (2 * (113 + i))) hx hb hr (fun t ht hW => ⟨⟨nI (2 * (113 + i)), (mG, mX, mY, mDe, gd, P, Dp, Sl, T), rfl, ⟨2 * (113 + i), rfl, (show mG ≤ 1280 from by omega), b_mX, b_mY, b_mDe, (show NJ mG gd P Dp Sl T from hN), (show MXY mG mX mY mDe P Dp from hXY), (show ST T mG T mG (jl (LT T X) (LT T Y)) from hJ.1), (show (2 * (113 + i)) < 2 * (113 + mG) from by omega), (show LT T (2 * (113 + i)) = jn (LT T X) (LT T Y) from hJ.2), (show AL K T mG from hAL)⟩, by rw [ht]; exact hP, va_K.moved hW.alike hK, hD⟩, hS.F ht⟩) hS.2.2 d_Mod_join_101
            · skip
              have c31 : X = Y := (nI_eq (by omega) (by omega)).mp c31
              have h2 : Y = 1 ∨ X = Y := by omega
              refine lv_iload_n hx hb d_Mod_join_34 rfl (lv_at hl 1 rfl) ?_
              exact W.iret (v := nI X) hx hb hr (fun t ht hW => ⟨⟨nI X, (mG, mX, mY, mDe, gd, P, Dp, Sl, T), rfl, ⟨X, rfl, (show mG ≤ 1280 from by omega), b_mX, b_mY, b_mDe, (show NJ mG gd P Dp Sl T from hN), (show MXY mG mX mY mDe P Dp from hXY), (show ST T mG T mG (jl (LT T X) (LT T Y)) from ST_rf (J_2 hN.1 hX hY hz c19 h2).1), (show X < 2 * (113 + mG) from by omega), (show LT T X = jn (LT T X) (LT T Y) from (J_2 hN.1 hX hY hz c19 h2).2), (show AL K T mG from hAL)⟩, by rw [ht]; exact hP, va_K.moved hW.alike hK, hD⟩, hS.F ht⟩) hS.2.2 d_Mod_join_35
        · skip
          have c19 : X = 1 := (nI_eq (by omega) (by omega)).mp c19
          refine lv_iload_n hx hb d_Mod_join_22 rfl (lv_at hl 2 rfl) ?_
          exact W.iret (v := nI Y) hx hb hr (fun t ht hW => ⟨⟨nI Y, (mG, mX, mY, mDe, gd, P, Dp, Sl, T), rfl, ⟨Y, rfl, (show mG ≤ 1280 from by omega), b_mX, b_mY, b_mDe, (show NJ mG gd P Dp Sl T from hN), (show MXY mG mX mY mDe P Dp from hXY), (show ST T mG T mG (jl (LT T X) (LT T Y)) from ST_rf (J_1 hN.1 hX hY hz c19).1), (show Y < 2 * (113 + mG) from by omega), (show LT T Y = jn (LT T X) (LT T Y) from (J_1 hN.1 hX hY hz c19).2), (show AL K T mG from hAL)⟩, by rw [ht]; exact hP, va_K.moved hW.alike hK, hD⟩, hS.F ht⟩) hS.2.2 d_Mod_join_23
      · skip
        have c12 : X = (op1 Y) := (nI_eq (by omega) (by omega)).mp c12
        have hz : X = 0 ∨ Y = 0 ∨ X = op1 Y := by omega
        refine lv_iconst (v := nI 0) hx hb d_Mod_join_15 rfl ?_
        exact W.iret (v := nI 0) hx hb hr (fun t ht hW => ⟨⟨nI 0, (mG, mX, mY, mDe, gd, P, Dp, Sl, T), rfl, ⟨0, rfl, (show mG ≤ 1280 from by omega), b_mX, b_mY, b_mDe, (show NJ mG gd P Dp Sl T from hN), (show MXY mG mX mY mDe P Dp from hXY), (show ST T mG T mG (jl (LT T X) (LT T Y)) from ST_rf (J_0 hN.1 hX hY hz).1), (show 0 < 2 * (113 + mG) from by omega), (show LT T 0 = jn (LT T X) (LT T Y) from (J_0 hN.1 hX hY hz).2), (show AL K T mG from hAL)⟩, by rw [ht]; exact hP, va_K.moved hW.alike hK, hD⟩, hS.F ht⟩) hS.2.2 d_Mod_join_16
