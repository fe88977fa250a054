abbrev b_Chk_sureSinks : ByteArray := prog_2_method_3_code
def y_Chk_sureSinks : MethodName := ⟨"CircuitDesk$Checks", "sureSinks", "()I"⟩
def w_Chk_sureSinks : List Cond := .code y_Chk_sureSinks b_Chk_sureSinks 4 (some .int) :: lw_gw
theorem d_Chk_sureSinks_0 : decode b_Chk_sureSinks 0 = .ok (.iconst 0, 1) := by decide +kernel
theorem d_Chk_sureSinks_1 : decode b_Chk_sureSinks 1 = .ok (.istore_n 1, 1) := by decide +kernel
theorem d_Chk_sureSinks_2 : decode b_Chk_sureSinks 2 = .ok (.aload_n 0, 1) := by decide +kernel
theorem d_Chk_sureSinks_3 : decode b_Chk_sureSinks 3 = .ok (.getfield 21, 3) := by decide +kernel
theorem d_Chk_sureSinks_6 : decode b_Chk_sureSinks 6 = .ok (.iconst 0, 1) := by decide +kernel
theorem d_Chk_sureSinks_7 : decode b_Chk_sureSinks 7 = .ok (.iconst 0, 1) := by decide +kernel
theorem d_Chk_sureSinks_8 : decode b_Chk_sureSinks 8 = .ok (.iastore, 1) := by decide +kernel
theorem d_Chk_sureSinks_9 : decode b_Chk_sureSinks 9 = .ok (.iconst 0, 1) := by decide +kernel
theorem d_Chk_sureSinks_10 : decode b_Chk_sureSinks 10 = .ok (.istore_n 2, 1) := by decide +kernel
theorem d_Chk_sureSinks_11 : decode b_Chk_sureSinks 11 = .ok (.iload_n 2, 1) := by decide +kernel
theorem d_Chk_sureSinks_12 : decode b_Chk_sureSinks 12 = .ok (.aload_n 0, 1) := by decide +kernel
theorem d_Chk_sureSinks_13 : decode b_Chk_sureSinks 13 = .ok (.getfield 31, 3) := by decide +kernel
theorem d_Chk_sureSinks_16 : decode b_Chk_sureSinks 16 = .ok (.getfield 48, 3) := by decide +kernel
theorem d_Chk_sureSinks_19 : decode b_Chk_sureSinks 19 = .ok (.if_icmp .ge 127, 3) := by decide +kernel
theorem d_Chk_sureSinks_22 : decode b_Chk_sureSinks 22 = .ok (.aload_n 0, 1) := by decide +kernel
theorem d_Chk_sureSinks_23 : decode b_Chk_sureSinks 23 = .ok (.getfield 31, 3) := by decide +kernel
theorem d_Chk_sureSinks_26 : decode b_Chk_sureSinks 26 = .ok (.getfield 51, 3) := by decide +kernel
theorem d_Chk_sureSinks_29 : decode b_Chk_sureSinks 29 = .ok (.iload_n 2, 1) := by decide +kernel
theorem d_Chk_sureSinks_30 : decode b_Chk_sureSinks 30 = .ok (.iaload, 1) := by decide +kernel
theorem d_Chk_sureSinks_31 : decode b_Chk_sureSinks 31 = .ok (.istore_n 3, 1) := by decide +kernel
theorem d_Chk_sureSinks_32 : decode b_Chk_sureSinks 32 = .ok (.iload_n 3, 1) := by decide +kernel
theorem d_Chk_sureSinks_33 : decode b_Chk_sureSinks 33 = .ok (.ifCond .ne 26, 3) := by decide +kernel
theorem d_Chk_sureSinks_36 : decode b_Chk_sureSinks 36 = .ok (.aload_n 0, 1) := by decide +kernel
theorem d_Chk_sureSinks_37 : decode b_Chk_sureSinks 37 = .ok (.getfield 21, 3) := by decide +kernel
theorem d_Chk_sureSinks_40 : decode b_Chk_sureSinks 40 = .ok (.iload_n 1, 1) := by decide +kernel
theorem d_Chk_sureSinks_41 : decode b_Chk_sureSinks 41 = .ok (.dup2, 1) := by decide +kernel
theorem d_Chk_sureSinks_42 : decode b_Chk_sureSinks 42 = .ok (.iaload, 1) := by decide +kernel
theorem d_Chk_sureSinks_43 : decode b_Chk_sureSinks 43 = .ok (.iconst 1, 1) := by decide +kernel
theorem d_Chk_sureSinks_44 : decode b_Chk_sureSinks 44 = .ok (.aload_n 0, 1) := by decide +kernel
theorem d_Chk_sureSinks_45 : decode b_Chk_sureSinks 45 = .ok (.getfield 31, 3) := by decide +kernel
theorem d_Chk_sureSinks_48 : decode b_Chk_sureSinks 48 = .ok (.getfield 54, 3) := by decide +kernel
theorem d_Chk_sureSinks_51 : decode b_Chk_sureSinks 51 = .ok (.iload_n 2, 1) := by decide +kernel
theorem d_Chk_sureSinks_52 : decode b_Chk_sureSinks 52 = .ok (.iaload, 1) := by decide +kernel
theorem d_Chk_sureSinks_53 : decode b_Chk_sureSinks 53 = .ok (.ishl, 1) := by decide +kernel
theorem d_Chk_sureSinks_54 : decode b_Chk_sureSinks 54 = .ok (.ior, 1) := by decide +kernel
theorem d_Chk_sureSinks_55 : decode b_Chk_sureSinks 55 = .ok (.iastore, 1) := by decide +kernel
theorem d_Chk_sureSinks_56 : decode b_Chk_sureSinks 56 = .ok (.goto 84, 3) := by decide +kernel
theorem d_Chk_sureSinks_59 : decode b_Chk_sureSinks 59 = .ok (.iload_n 3, 1) := by decide +kernel
theorem d_Chk_sureSinks_60 : decode b_Chk_sureSinks 60 = .ok (.iconst 1, 1) := by decide +kernel
theorem d_Chk_sureSinks_61 : decode b_Chk_sureSinks 61 = .ok (.if_icmp .ne 23, 3) := by decide +kernel
theorem d_Chk_sureSinks_64 : decode b_Chk_sureSinks 64 = .ok (.iinc 1 1, 3) := by decide +kernel
theorem d_Chk_sureSinks_67 : decode b_Chk_sureSinks 67 = .ok (.aload_n 0, 1) := by decide +kernel
theorem d_Chk_sureSinks_68 : decode b_Chk_sureSinks 68 = .ok (.getfield 21, 3) := by decide +kernel
theorem d_Chk_sureSinks_71 : decode b_Chk_sureSinks 71 = .ok (.iload_n 1, 1) := by decide +kernel
theorem d_Chk_sureSinks_72 : decode b_Chk_sureSinks 72 = .ok (.iconst 0, 1) := by decide +kernel
theorem d_Chk_sureSinks_73 : decode b_Chk_sureSinks 73 = .ok (.iastore, 1) := by decide +kernel
theorem d_Chk_sureSinks_74 : decode b_Chk_sureSinks 74 = .ok (.aload_n 0, 1) := by decide +kernel
theorem d_Chk_sureSinks_75 : decode b_Chk_sureSinks 75 = .ok (.getfield 24, 3) := by decide +kernel
theorem d_Chk_sureSinks_78 : decode b_Chk_sureSinks 78 = .ok (.iload_n 1, 1) := by decide +kernel
theorem d_Chk_sureSinks_79 : decode b_Chk_sureSinks 79 = .ok (.iconst 0, 1) := by decide +kernel
theorem d_Chk_sureSinks_80 : decode b_Chk_sureSinks 80 = .ok (.iastore, 1) := by decide +kernel
theorem d_Chk_sureSinks_81 : decode b_Chk_sureSinks 81 = .ok (.goto 59, 3) := by decide +kernel
theorem d_Chk_sureSinks_84 : decode b_Chk_sureSinks 84 = .ok (.iload_n 3, 1) := by decide +kernel
theorem d_Chk_sureSinks_85 : decode b_Chk_sureSinks 85 = .ok (.iconst 2, 1) := by decide +kernel
theorem d_Chk_sureSinks_86 : decode b_Chk_sureSinks 86 = .ok (.if_icmp .ne 25, 3) := by decide +kernel
theorem d_Chk_sureSinks_89 : decode b_Chk_sureSinks 89 = .ok (.aload_n 0, 1) := by decide +kernel
theorem d_Chk_sureSinks_90 : decode b_Chk_sureSinks 90 = .ok (.getfield 24, 3) := by decide +kernel
theorem d_Chk_sureSinks_93 : decode b_Chk_sureSinks 93 = .ok (.iload_n 1, 1) := by decide +kernel
theorem d_Chk_sureSinks_94 : decode b_Chk_sureSinks 94 = .ok (.aload_n 0, 1) := by decide +kernel
theorem d_Chk_sureSinks_95 : decode b_Chk_sureSinks 95 = .ok (.getfield 21, 3) := by decide +kernel
theorem d_Chk_sureSinks_98 : decode b_Chk_sureSinks 98 = .ok (.iload_n 1, 1) := by decide +kernel
theorem d_Chk_sureSinks_99 : decode b_Chk_sureSinks 99 = .ok (.iaload, 1) := by decide +kernel
theorem d_Chk_sureSinks_100 : decode b_Chk_sureSinks 100 = .ok (.iastore, 1) := by decide +kernel
theorem d_Chk_sureSinks_101 : decode b_Chk_sureSinks 101 = .ok (.aload_n 0, 1) := by decide +kernel
theorem d_Chk_sureSinks_102 : decode b_Chk_sureSinks 102 = .ok (.getfield 21, 3) := by decide +kernel
theorem d_Chk_sureSinks_105 : decode b_Chk_sureSinks 105 = .ok (.iload_n 1, 1) := by decide +kernel
theorem d_Chk_sureSinks_106 : decode b_Chk_sureSinks 106 = .ok (.iconst 0, 1) := by decide +kernel
theorem d_Chk_sureSinks_107 : decode b_Chk_sureSinks 107 = .ok (.iastore, 1) := by decide +kernel
theorem d_Chk_sureSinks_108 : decode b_Chk_sureSinks 108 = .ok (.goto 32, 3) := by decide +kernel
theorem d_Chk_sureSinks_111 : decode b_Chk_sureSinks 111 = .ok (.iinc 1 (-1), 3) := by decide +kernel
theorem d_Chk_sureSinks_114 : decode b_Chk_sureSinks 114 = .ok (.aload_n 0, 1) := by decide +kernel
theorem d_Chk_sureSinks_115 : decode b_Chk_sureSinks 115 = .ok (.getfield 21, 3) := by decide +kernel
theorem d_Chk_sureSinks_118 : decode b_Chk_sureSinks 118 = .ok (.iload_n 1, 1) := by decide +kernel
theorem d_Chk_sureSinks_119 : decode b_Chk_sureSinks 119 = .ok (.dup2, 1) := by decide +kernel
theorem d_Chk_sureSinks_120 : decode b_Chk_sureSinks 120 = .ok (.iaload, 1) := by decide +kernel
theorem d_Chk_sureSinks_121 : decode b_Chk_sureSinks 121 = .ok (.aload_n 0, 1) := by decide +kernel
theorem d_Chk_sureSinks_122 : decode b_Chk_sureSinks 122 = .ok (.getfield 24, 3) := by decide +kernel
theorem d_Chk_sureSinks_125 : decode b_Chk_sureSinks 125 = .ok (.iload_n 1, 1) := by decide +kernel
theorem d_Chk_sureSinks_126 : decode b_Chk_sureSinks 126 = .ok (.iconst 1, 1) := by decide +kernel
theorem d_Chk_sureSinks_127 : decode b_Chk_sureSinks 127 = .ok (.iadd, 1) := by decide +kernel
theorem d_Chk_sureSinks_128 : decode b_Chk_sureSinks 128 = .ok (.iaload, 1) := by decide +kernel
theorem d_Chk_sureSinks_129 : decode b_Chk_sureSinks 129 = .ok (.aload_n 0, 1) := by decide +kernel
theorem d_Chk_sureSinks_130 : decode b_Chk_sureSinks 130 = .ok (.getfield 21, 3) := by decide +kernel
theorem d_Chk_sureSinks_133 : decode b_Chk_sureSinks 133 = .ok (.iload_n 1, 1) := by decide +kernel
theorem d_Chk_sureSinks_134 : decode b_Chk_sureSinks 134 = .ok (.iconst 1, 1) := by decide +kernel
theorem d_Chk_sureSinks_135 : decode b_Chk_sureSinks 135 = .ok (.iadd, 1) := by decide +kernel
theorem d_Chk_sureSinks_136 : decode b_Chk_sureSinks 136 = .ok (.iaload, 1) := by decide +kernel
theorem d_Chk_sureSinks_137 : decode b_Chk_sureSinks 137 = .ok (.iand, 1) := by decide +kernel
theorem d_Chk_sureSinks_138 : decode b_Chk_sureSinks 138 = .ok (.ior, 1) := by decide +kernel
theorem d_Chk_sureSinks_139 : decode b_Chk_sureSinks 139 = .ok (.iastore, 1) := by decide +kernel
theorem d_Chk_sureSinks_140 : decode b_Chk_sureSinks 140 = .ok (.iinc 2 1, 3) := by decide +kernel
theorem d_Chk_sureSinks_143 : decode b_Chk_sureSinks 143 = .ok (.goto (-132), 3) := by decide +kernel
theorem d_Chk_sureSinks_146 : decode b_Chk_sureSinks 146 = .ok (.aload_n 0, 1) := by decide +kernel
theorem d_Chk_sureSinks_147 : decode b_Chk_sureSinks 147 = .ok (.getfield 21, 3) := by decide +kernel
theorem d_Chk_sureSinks_150 : decode b_Chk_sureSinks 150 = .ok (.iconst 0, 1) := by decide +kernel
theorem d_Chk_sureSinks_151 : decode b_Chk_sureSinks 151 = .ok (.iaload, 1) := by decide +kernel
theorem d_Chk_sureSinks_152 : decode b_Chk_sureSinks 152 = .ok (.ireturn, 1) := by decide +kernel
set_option maxHeartbeats 4000000 in
set_option maxRecDepth 100000 in
theorem c_Chk_sureSinks (l : Launch) (dC : Nat → ClassId) (dI : Nat → Nat → Nat) (cI cZ : ClassId) (a_chk a_rao a_sig a_stm a_ron a_aro a_sip a_sif a_sort a_subject a_source a_elseSeen : Nat) (tt sz : Nat) (ms : Nat) (ow : Nat) (So : Nat → Nat) (Su : Nat → Nat) (SPt : Nat → Nat) (SFt : Nat → Nat) (b_ms : ms ≤ 20) (b_ow : ow ≤ 4) (b_So : ∀ j, So j < 4) (b_Su : ∀ j, Su j < 14) (b_SPt : ∀ j, SPt j < 16384) (b_SFt : ∀ j, SFt j < 16384) (hLG : LG So ms) (hd0 : dp So ms = 0) : Met l y_Chk_sureSinks w_Chk_sureSinks ({ frames := 0, cells := 0, slots := 0, locals := 0 }) (va_Pc [.ref a_chk] (PW (dC, dI) classes [(cI, .int), (cZ, .boolean)] tt [(a_chk, .inr (3, [.ref a_rao, .ref a_sig, .ref a_stm, .ref a_ron, .ref a_aro, .ref a_sip, .ref a_sif])), (a_stm, .inr (2, [.ref a_sort, .ref a_subject, .ref a_source, .int (nI ms), .int (nI ow), .ref a_elseSeen])), (a_sort, .inl (cI, 20, .inl (nF So))), (a_subject, .inl (cI, 20, .inl (nF Su))), (a_sip, .inl (cI, 5, .inl (nF SPt))), (a_sif, .inl (cI, 5, .inl (nF SFt)))] sz)) (va_Qi (fun (r : Int32) (u : (Nat → Nat) × (Nat → Nat)) => ∃ rv : Nat, r = nI rv ∧ (∀ j, u.1 j < 16384) ∧ (∀ j, u.2 j < 16384) ∧ (rv = (mPF So Su ms 0).1) ∧ (rv < 16384)) (AT (dC, dI) classes [(cI, .int), (cZ, .boolean)] (va_A [(a_chk, .inr (3, [.ref a_rao, .ref a_sig, .ref a_stm, .ref a_ron, .ref a_aro, .ref a_sip, .ref a_sif])), (a_stm, .inr (2, [.ref a_sort, .ref a_subject, .ref a_source, .int (nI ms), .int (nI ow), .ref a_elseSeen])), (a_sort, .inl (cI, 20, .inl (nF So))), (a_subject, .inl (cI, 20, .inl (nF Su))), (a_sip, .inl (cI, 5, .inl (nF SPt))), (a_sif, .inl (cI, 5, .inl (nF SFt)))] sz) (fun (u : (Nat → Nat) × (Nat → Nat)) => [(a_chk, .inr (3, [.ref a_rao, .ref a_sig, .ref a_stm, .ref a_ron, .ref a_aro, .ref a_sip, .ref a_sif])), (a_stm, .inr (2, [.ref a_sort, .ref a_subject, .ref a_source, .int (nI ms), .int (nI ow), .ref a_elseSeen])), (a_sort, .inl (cI, 20, .inl (nF So))), (a_subject, .inl (cI, 20, .inl (nF Su))), (a_sip, .inl (cI, 5, .inl (nF u.1))), (a_sif, .inl (cI, 5, .inl (nF u.2)))])) (va_A [(a_chk, .inr (3, [.ref a_rao, .ref a_sig, .ref a_stm, .ref a_ron, .ref a_aro, .ref a_sip, .ref a_sif])), (a_stm, .inr (2, [.ref a_sort, .ref a_subject, .ref a_source, .int (nI ms), .int (nI ow), .ref a_elseSeen])), (a_sort, .inl (cI, 20, .inl (nF So))), (a_subject, .inl (cI, 20, .inl (nF Su))), (a_sip, .inl (cI, 5, .inl (nF SPt))), (a_sif, .inl (cI, 5, .inl (nF SFt)))] sz)) 0 0 (va_A [(a_chk, .inr (3, [.ref a_rao, .ref a_sig, .ref a_stm, .ref a_ron, .ref a_aro, .ref a_sip, .ref a_sif])), (a_stm, .inr (2, [.ref a_sort, .ref a_subject, .ref a_source, .int (nI ms), .int (nI ow), .ref a_elseSeen])), (a_sort, .inl (cI, 20, .inl (nF So))), (a_subject, .inl (cI, 20, .inl (nF Su))), (a_sip, .inl (cI, 5, .inl (nF SPt))), (a_sif, .inl (cI, 5, .inl (nF SFt)))] sz) := by
  refine Met.ofW (cc := b_Chk_sureSinks) (maxL := 4) (ret := (some .int)) (by decide) rfl ?_
  intro p e s m args below meth c s₁ B hml hv
  obtain ⟨rfl, hsz, hP, hK, hD0, hE⟩ := hv
  have hx := B.exec
  have hb := B.bytes
  have hr := B.returns
  have hts := atoms_spec (ws := w_Chk_sureSinks) B.pre
  have hown : s.vm.findClass R_Chk = some m.cls := findClass_of_methodNamed B.named
  have hlocks := B.notSynchronized
  subst hsz
  have hD := hD0.self (sz := s.heap.size)
  generalize hAe : va_A [(a_chk, .inr (3, [.ref a_rao, .ref a_sig, .ref a_stm, .ref a_ron, .ref a_aro, .ref a_sip, .ref a_sif])), (a_stm, .inr (2, [.ref a_sort, .ref a_subject, .ref a_source, .int (nI ms), .int (nI ow), .ref a_elseSeen])), (a_sort, .inl (cI, 20, .inl (nF So))), (a_subject, .inl (cI, 20, .inl (nF Su))), (a_sip, .inl (cI, 5, .inl (nF SPt))), (a_sif, .inl (cI, 5, .inl (nF SFt)))] s.heap.size = A at hD hE ⊢
  have hA : ∀ q : Nat, s.heap.size ≤ q → A q := fun q h => by rw [← hAe]; exact Or.inr h
  have hS : va_S A s.heap s.heap [] := va_S.rf
  have hP : va_P (dC, dI) classes [(a_chk, .inr (3, [.ref a_rao, .ref a_sig, .ref a_stm, .ref a_ron, .ref a_aro, .ref a_sip, .ref a_sif])), (a_stm, .inr (2, [.ref a_sort, .ref a_subject, .ref a_source, .int (nI ms), .int (nI ow), .ref a_elseSeen])), (a_sort, .inl (cI, 20, .inl (nF So))), (a_subject, .inl (cI, 20, .inl (nF Su))), (a_sip, .inl (cI, 5, .inl (nF SPt))), (a_sif, .inl (cI, 5, .inl (nF SFt)))] s.heap := hP
  have hl := lv_entry ([.ref a_chk]) (n := 4) (Nat.le_of_ble_eq_true rfl)
  rw [lg_entry_eq]
  generalize (lg_sl ([.ref a_chk]) ++ List.replicate (4 - (lg_sl ([.ref a_chk])).length) Slot.unset).toArray = ls at hl ⊢
  have hl : lv_has ls 4 [(0, .ref a_chk)] := hl
  refine lv_iconst (v := nI 0) hx hb d_Chk_sureSinks_0 rfl ?_
  refine lv_istore_n (lv' := [(1, .int (nI 0)), (0, .ref a_chk)]) hx hb d_Chk_sureSinks_1 rfl hl (by decide) rfl (fun ls hl => ?_)
  refine lv_aload_n hx hb d_Chk_sureSinks_2 rfl (lv_at hl 1 rfl) ?_
  refine va_get (D := (dC, dI)) (ci := 3) (v := .ref a_sip) (C := R_Chk) (T := F_Chk) (N := 7) hx hb hts (wi i_Chk) hown hK hP 0 rfl rfl 5 (by decide) (hts _ (mt 153 rfl rfl)) (fun _ h9 => h9) rfl d_Chk_sureSinks_3 ?_
  refine lv_iconst (v := nI 0) hx hb d_Chk_sureSinks_6 rfl ?_
  refine lv_iconst (v := nI 0) hx hb d_Chk_sureSinks_7 rfl ?_
  refine k_ist hx hb hK hP hD hS 4 0 rfl rfl (by omega) (by decide) d_Chk_sureSinks_8 (fun H locs hP hD hS => ?_)
  have bb_1 : ∀ j, upN SPt 0 0 j < 16384 := upN_lt b_SPt (by omega)
  have hP : va_P (dC, dI) classes [(a_chk, .inr (3, [.ref a_rao, .ref a_sig, .ref a_stm, .ref a_ron, .ref a_aro, .ref a_sip, .ref a_sif])), (a_stm, .inr (2, [.ref a_sort, .ref a_subject, .ref a_source, .int (nI ms), .int (nI ow), .ref a_elseSeen])), (a_sort, .inl (cI, 20, .inl (nF So))), (a_subject, .inl (cI, 20, .inl (nF Su))), (a_sip, .inl (cI, 5, .inl (nF (upN SPt 0 0)))), (a_sif, .inl (cI, 5, .inl (nF SFt)))] H := hP
  have hD : va_D A [(a_chk, .inr (3, [.ref a_rao, .ref a_sig, .ref a_stm, .ref a_ron, .ref a_aro, .ref a_sip, .ref a_sif])), (a_stm, .inr (2, [.ref a_sort, .ref a_subject, .ref a_source, .int (nI ms), .int (nI ow), .ref a_elseSeen])), (a_sort, .inl (cI, 20, .inl (nF So))), (a_subject, .inl (cI, 20, .inl (nF Su))), (a_sip, .inl (cI, 5, .inl (nF (upN SPt 0 0)))), (a_sif, .inl (cI, 5, .inl (nF SFt)))] := hD
  refine lv_iconst (v := nI 0) hx hb d_Chk_sureSinks_9 rfl ?_
  refine lv_istore_n (lv' := [(2, .int (nI 0)), (1, .int (nI 0)), (0, .ref a_chk)]) hx hb d_Chk_sureSinks_10 rfl hl (by decide) rfl (fun ls hl => ?_)
  have hI_2 : (∀ j, (upN SPt 0 0) j < 16384) ∧ (∀ j, SFt j < 16384) ∧ (0 = dp So 0) ∧ (∀ z, z ≤ dp So 0 → (upN SPt 0 0) z = (mPF So Su 0 z).1 ∧ (0 < z → SFt z = (mPF So Su 0 z).2)) ∧ (0 ≤ ms) := ⟨bb_1, b_SFt, rfl, (fun z hz => by
    have hz : z ≤ 0 := hz
    obtain rfl : z = 0 := by omega
    exact ⟨upN_self _ _ _, fun h => absurd h (by omega)⟩), (by omega)⟩
  refine k_loop (σ := Nat × Nat × (Nat → Nat) × (Nat → Nat)) (D := (dC, dI)) (cl := classes) (A := A) (H0 := s.heap) (fun x => [(a_chk, .inr (3, [.ref a_rao, .ref a_sig, .ref a_stm, .ref a_ron, .ref a_aro, .ref a_sip, .ref a_sif])), (a_stm, .inr (2, [.ref a_sort, .ref a_subject, .ref a_source, .int (nI ms), .int (nI ow), .ref a_elseSeen])), (a_sort, .inl (cI, 20, .inl (nF So))), (a_subject, .inl (cI, 20, .inl (nF Su))), (a_sip, .inl (cI, 5, .inl (nF x.2.2.1))), (a_sif, .inl (cI, 5, .inl (nF x.2.2.2)))]) (fun x => [(2, .int (nI x.2.1)), (1, .int (nI x.1)), (0, .ref a_chk)]) (fun x => (∀ j, x.2.2.1 j < 16384) ∧ (∀ j, x.2.2.2 j < 16384) ∧ (x.1 = dp So x.2.1) ∧ (∀ z, z ≤ dp So x.2.1 → x.2.2.1 z = (mPF So Su x.2.1 z).1 ∧ (0 < z → x.2.2.2 z = (mPF So Su x.2.1 z).2)) ∧ (x.2.1 ≤ ms)) (fun x => ms - x.2.1) ?_ (0, 0, upN SPt 0 0, SFt) hI_2 hP hD hS (lv_sub hl [0, 1, 2] rfl)
  rintro ⟨d, k, S1, F1⟩ hI ih_3 H locs ls hP hD hS hl
  obtain ⟨b_S1, b_F1, hd, hs, hk⟩ : (∀ j, S1 j < 16384) ∧ (∀ j, F1 j < 16384) ∧ (d = dp So k) ∧ (∀ z, z ≤ dp So k → S1 z = (mPF So Su k z).1 ∧ (0 < z → F1 z = (mPF So Su k z).2)) ∧ (k ≤ ms) := hI
  have hP : va_P (dC, dI) classes [(a_chk, .inr (3, [.ref a_rao, .ref a_sig, .ref a_stm, .ref a_ron, .ref a_aro, .ref a_sip, .ref a_sif])), (a_stm, .inr (2, [.ref a_sort, .ref a_subject, .ref a_source, .int (nI ms), .int (nI ow), .ref a_elseSeen])), (a_sort, .inl (cI, 20, .inl (nF So))), (a_subject, .inl (cI, 20, .inl (nF Su))), (a_sip, .inl (cI, 5, .inl (nF S1))), (a_sif, .inl (cI, 5, .inl (nF F1)))] H := hP
  have hD : va_D A [(a_chk, .inr (3, [.ref a_rao, .ref a_sig, .ref a_stm, .ref a_ron, .ref a_aro, .ref a_sip, .ref a_sif])), (a_stm, .inr (2, [.ref a_sort, .ref a_subject, .ref a_source, .int (nI ms), .int (nI ow), .ref a_elseSeen])), (a_sort, .inl (cI, 20, .inl (nF So))), (a_subject, .inl (cI, 20, .inl (nF Su))), (a_sip, .inl (cI, 5, .inl (nF S1))), (a_sif, .inl (cI, 5, .inl (nF F1)))] := hD
  have hl : lv_has ls 4 [(2, .int (nI k)), (1, .int (nI d)), (0, .ref a_chk)] := hl
  refine lv_iload_n hx hb d_Chk_sureSinks_11 rfl (lv_at hl 0 rfl) ?_
  refine lv_aload_n hx hb d_Chk_sureSinks_12 rfl (lv_at hl 2 rfl) ?_
  refine va_get (D := (dC, dI)) (ci := 3) (v := .ref a_stm) (C := R_Chk) (T := F_Chk) (N := 7) hx hb hts (wi i_Chk) hown hK hP 0 rfl rfl 2 (by decide) (hts _ (mt 150 rfl rfl)) (fun _ h9 => h9) rfl d_Chk_sureSinks_13 ?_
  refine va_get (D := (dC, dI)) (ci := 2) (v := .int (nI ms)) (C := R_Stm) (T := F_Stm) (N := 6) hx hb hts (wi i_Stm) hown hK hP 1 rfl rfl 3 (by decide) (hts _ (mt 120 rfl rfl)) (fun _ h9 => h9) rfl d_Chk_sureSinks_16 ?_
  refine lv_icmp_ge (tgt := 146) hx hb d_Chk_sureSinks_19 (by decide) (fun c19 => ?_) (fun c19 => ?_)
  · skip
    have c19 : ms ≤ k := (nI_leI (by omega) (by omega)).mp c19
    refine lv_aload_n hx hb d_Chk_sureSinks_146 rfl (lv_at hl 2 rfl) ?_
    refine va_get (D := (dC, dI)) (ci := 3) (v := .ref a_sip) (C := R_Chk) (T := F_Chk) (N := 7) hx hb hts (wi i_Chk) hown hK hP 0 rfl rfl 5 (by decide) (hts _ (mt 153 rfl rfl)) (fun _ h9 => h9) rfl d_Chk_sureSinks_147 ?_
    refine lv_iconst (v := nI 0) hx hb d_Chk_sureSinks_150 rfl ?_
    refine k_ild hx hb hK hP 4 0 rfl rfl (by omega) (by decide) d_Chk_sureSinks_151 ?_
    have hb_4 := b_S1 0
    exact W.iret (v := nI (S1 0)) hx hb hr (fun t ht hW => ⟨⟨nI (S1 0), (S1, F1), rfl, ⟨S1 0, rfl, b_S1, b_F1, (show (S1 0) = (mPF So Su ms 0).1 from (by rw [show ms = k by omega]; exact (hs 0 (Nat.zero_le _)).1)), (show (S1 0) < 16384 from (b_S1 0))⟩, by rw [ht]; exact hP, va_K.moved hW.alike hK, hD⟩, hS.F ht⟩) hS.2.2 d_Chk_sureSinks_152
  · skip
    have c19 : ¬ (ms ≤ k) := fun h => c19 ((nI_leI (by omega) (by omega)).mpr h)
    refine lv_aload_n hx hb d_Chk_sureSinks_22 rfl (lv_at hl 2 rfl) ?_
    refine va_get (D := (dC, dI)) (ci := 3) (v := .ref a_stm) (C := R_Chk) (T := F_Chk) (N := 7) hx hb hts (wi i_Chk) hown hK hP 0 rfl rfl 2 (by decide) (hts _ (mt 150 rfl rfl)) (fun _ h9 => h9) rfl d_Chk_sureSinks_23 ?_
    refine va_get (D := (dC, dI)) (ci := 2) (v := .ref a_sort) (C := R_Stm) (T := F_Stm) (N := 6) hx hb hts (wi i_Stm) hown hK hP 1 rfl rfl 0 (by decide) (hts _ (mt 112 rfl rfl)) (fun _ h9 => h9) rfl d_Chk_sureSinks_26 ?_
    refine lv_iload_n hx hb d_Chk_sureSinks_29 rfl (lv_at hl 0 rfl) ?_
    refine k_ild hx hb hK hP 2 0 rfl rfl (by omega) (by decide) d_Chk_sureSinks_30 ?_
    have hb_5 := b_So k
    have g1 := hLG k (by omega)
    have g4 := dp_le hLG k (by omega)
    refine lv_istore_n (lv' := [(3, .int (nI (So k))), (2, .int (nI k)), (1, .int (nI d)), (0, .ref a_chk)]) hx hb d_Chk_sureSinks_31 rfl hl (by decide) rfl (fun ls hl => ?_)
    refine lv_iload_n hx hb d_Chk_sureSinks_32 rfl (lv_at hl 0 rfl) ?_
    refine lv_if_ne (tgt := 59) hx hb d_Chk_sureSinks_33 (by decide) (fun c33 => ?_) (fun c33 => ?_)
    · skip
      have c33 : ¬ ((So k) = 0) := fun h => c33 ((nI_eq0 (by omega)).mpr h)
      refine lv_iload_n hx hb d_Chk_sureSinks_59 rfl (lv_at hl 0 rfl) ?_
      refine lv_iconst (v := nI 1) hx hb d_Chk_sureSinks_60 rfl ?_
      refine lv_icmp_ne (tgt := 84) hx hb d_Chk_sureSinks_61 (by decide) (fun c61 => ?_) (fun c61 => ?_)
      · skip
        have c61 : ¬ ((So k) = 1) := fun h => c61 ((nI_eq (by omega) (by omega)).mpr h)
        refine lv_iload_n hx hb d_Chk_sureSinks_84 rfl (lv_at hl 0 rfl) ?_
        refine lv_iconst (v := nI 2) hx hb d_Chk_sureSinks_85 rfl ?_
        refine lv_icmp_ne (tgt := 111) hx hb d_Chk_sureSinks_86 (by decide) (fun c86 => ?_) (fun c86 => ?_)
        · skip
          have c86 : ¬ ((So k) = 2) := fun h => c86 ((nI_eq (by omega) (by omega)).mpr h)
          have g3 := g1.2.1 (by omega)
          refine lv_iinc (v := nI (d - 1)) (lv' := [(1, .int (nI (d - 1))), (3, .int (nI (So k))), (2, .int (nI k)), (0, .ref a_chk)]) hx hb d_Chk_sureSinks_111 hl (k := 2) rfl (k_dec (by omega)) (by decide) rfl (fun ls hl => ?_)
          refine lv_aload_n hx hb d_Chk_sureSinks_114 rfl (lv_at hl 3 rfl) ?_
          refine va_get (D := (dC, dI)) (ci := 3) (v := .ref a_sip) (C := R_Chk) (T := F_Chk) (N := 7) hx hb hts (wi i_Chk) hown hK hP 0 rfl rfl 5 (by decide) (hts _ (mt 153 rfl rfl)) (fun _ h9 => h9) rfl d_Chk_sureSinks_115 ?_
          refine lv_iload_n hx hb d_Chk_sureSinks_118 rfl (lv_at hl 0 rfl) ?_
          refine lv_dup2_11 hx hb d_Chk_sureSinks_119 rfl rfl ?_
          refine k_ild hx hb hK hP 4 0 rfl rfl (by omega) (by decide) d_Chk_sureSinks_120 ?_
          have hb_6 := b_S1 (d - 1)
          refine lv_aload_n hx hb d_Chk_sureSinks_121 rfl (lv_at hl 3 rfl) ?_
          refine va_get (D := (dC, dI)) (ci := 3) (v := .ref a_sif) (C := R_Chk) (T := F_Chk) (N := 7) hx hb hts (wi i_Chk) hown hK hP 0 rfl rfl 6 (by decide) (hts _ (mt 154 rfl rfl)) (fun _ h9 => h9) rfl d_Chk_sureSinks_122 ?_
          refine lv_iload_n hx hb d_Chk_sureSinks_125 rfl (lv_at hl 0 rfl) ?_
          refine lv_iconst (v := nI 1) hx hb d_Chk_sureSinks_126 rfl ?_
          refine lv_iadd hx hb d_Chk_sureSinks_127 ?_
          refine k_top (nI_add _ _) ?_
          refine k_ild hx hb hK hP 5 0 rfl rfl (by omega) (by decide) d_Chk_sureSinks_128 ?_
          have hb_7 := b_F1 ((d - 1) + 1)
          refine lv_aload_n hx hb d_Chk_sureSinks_129 rfl (lv_at hl 3 rfl) ?_
          refine va_get (D := (dC, dI)) (ci := 3) (v := .ref a_sip) (C := R_Chk) (T := F_Chk) (N := 7) hx hb hts (wi i_Chk) hown hK hP 0 rfl rfl 5 (by decide) (hts _ (mt 153 rfl rfl)) (fun _ h9 => h9) rfl d_Chk_sureSinks_130 ?_
          refine lv_iload_n hx hb d_Chk_sureSinks_133 rfl (lv_at hl 0 rfl) ?_
          refine lv_iconst (v := nI 1) hx hb d_Chk_sureSinks_134 rfl ?_
          refine lv_iadd hx hb d_Chk_sureSinks_135 ?_
          refine k_top (nI_add _ _) ?_
          refine k_ild hx hb hK hP 4 0 rfl rfl (by omega) (by decide) d_Chk_sureSinks_136 ?_
          have hb_8 := b_S1 ((d - 1) + 1)
          refine lv_iand hx hb d_Chk_sureSinks_137 ?_
          refine k_top (nI_and _ _) ?_
          refine lv_ior hx hb d_Chk_sureSinks_138 ?_
          refine k_top (nI_or _ _) ?_
          refine k_ist hx hb hK hP hD hS 4 0 rfl rfl (by omega) (by decide) d_Chk_sureSinks_139 (fun H locs hP hD hS => ?_)
          have bb_9 : ∀ j, upN S1 (d - 1) ((S1 (d - 1)) ||| ((F1 ((d - 1) + 1)) &&& (S1 ((d - 1) + 1)))) j < 16384 := upN_lt b_S1 (or14 (b_S1 _) (an14 _ (b_F1 _)))
          have hP : va_P (dC, dI) classes [(a_chk, .inr (3, [.ref a_rao, .ref a_sig, .ref a_stm, .ref a_ron, .ref a_aro, .ref a_sip, .ref a_sif])), (a_stm, .inr (2, [.ref a_sort, .ref a_subject, .ref a_source, .int (nI ms), .int (nI ow), .ref a_elseSeen])), (a_sort, .inl (cI, 20, .inl (nF So))), (a_subject, .inl (cI, 20, .inl (nF Su))), (a_sip, .inl (cI, 5, .inl (nF (upN S1 (d - 1) ((S1 (d - 1)) ||| ((F1 ((d - 1) + 1)) &&& (S1 ((d - 1) + 1)))))))), (a_sif, .inl (cI, 5, .inl (nF F1)))] H := hP
          have hD : va_D A [(a_chk, .inr (3, [.ref a_rao, .ref a_sig, .ref a_stm, .ref a_ron, .ref a_aro, .ref a_sip, .ref a_sif])), (a_stm, .inr (2, [.ref a_sort, .ref a_subject, .ref a_source, .int (nI ms), .int (nI ow), .ref a_elseSeen])), (a_sort, .inl (cI, 20, .inl (nF So))), (a_subject, .inl (cI, 20, .inl (nF Su))), (a_sip, .inl (cI, 5, .inl (nF (upN S1 (d - 1) ((S1 (d - 1)) ||| ((F1 ((d - 1) + 1)) &&& (S1 ((d - 1) + 1)))))))), (a_sif, .inl (cI, 5, .inl (nF F1)))] := hD
          refine lv_iinc (v := nI (k + 1)) (lv' := [(2, .int (nI (k + 1))), (1, .int (nI (d - 1))), (3, .int (nI (So k))), (0, .ref a_chk)]) hx hb d_Chk_sureSinks_140 hl (k := 2) rfl (k_inc _ 1) (by decide) rfl (fun ls hl => ?_)
          refine lv_goto (tgt := 11) hx hb d_Chk_sureSinks_143 (by decide) ?_
          have hI_10 : (∀ j, (upN S1 (d - 1) ((S1 (d - 1)) ||| ((F1 ((d - 1) + 1)) &&& (S1 ((d - 1) + 1))))) j < 16384) ∧ (∀ j, F1 j < 16384) ∧ ((d - 1) = dp So (k + 1)) ∧ (∀ z, z ≤ dp So (k + 1) → (upN S1 (d - 1) ((S1 (d - 1)) ||| ((F1 ((d - 1) + 1)) &&& (S1 ((d - 1) + 1))))) z = (mPF So Su (k + 1) z).1 ∧ (0 < z → F1 z = (mPF So Su (k + 1) z).2)) ∧ ((k + 1) ≤ ms) := ⟨bb_9, b_F1, (by rw [hd]; exact (dp_e (by omega)).symm), (mS_3 hs hd (by omega) (g1.2.1 (by omega))), (by omega)⟩
          exact ih_3 (d - 1, k + 1, upN S1 (d - 1) ((S1 (d - 1)) ||| ((F1 ((d - 1) + 1)) &&& (S1 ((d - 1) + 1)))), F1) hI_10 (show ms - (k + 1) < ms - k from by omega) _ _ _ hP hD hS (lv_sub hl [0, 1, 3] rfl)
        · skip
          have c86 : (So k) = 2 := (nI_eq (by omega) (by omega)).mp c86
          refine lv_aload_n hx hb d_Chk_sureSinks_89 rfl (lv_at hl 3 rfl) ?_
          refine va_get (D := (dC, dI)) (ci := 3) (v := .ref a_sif) (C := R_Chk) (T := F_Chk) (N := 7) hx hb hts (wi i_Chk) hown hK hP 0 rfl rfl 6 (by decide) (hts _ (mt 154 rfl rfl)) (fun _ h9 => h9) rfl d_Chk_sureSinks_90 ?_
          refine lv_iload_n hx hb d_Chk_sureSinks_93 rfl (lv_at hl 2 rfl) ?_
          refine lv_aload_n hx hb d_Chk_sureSinks_94 rfl (lv_at hl 3 rfl) ?_
          refine va_get (D := (dC, dI)) (ci := 3) (v := .ref a_sip) (C := R_Chk) (T := F_Chk) (N := 7) hx hb hts (wi i_Chk) hown hK hP 0 rfl rfl 5 (by decide) (hts _ (mt 153 rfl rfl)) (fun _ h9 => h9) rfl d_Chk_sureSinks_95 ?_
          refine lv_iload_n hx hb d_Chk_sureSinks_98 rfl (lv_at hl 2 rfl) ?_
          refine k_ild hx hb hK hP 4 0 rfl rfl (by omega) (by decide) d_Chk_sureSinks_99 ?_
          have hb_11 := b_S1 d
          refine k_ist hx hb hK hP hD hS 5 0 rfl rfl (by omega) (by decide) d_Chk_sureSinks_100 (fun H locs hP hD hS => ?_)
          have bb_12 : ∀ j, upN F1 d (S1 d) j < 16384 := upN_lt b_F1 (by omega)
          have hP : va_P (dC, dI) classes [(a_chk, .inr (3, [.ref a_rao, .ref a_sig, .ref a_stm, .ref a_ron, .ref a_aro, .ref a_sip, .ref a_sif])), (a_stm, .inr (2, [.ref a_sort, .ref a_subject, .ref a_source, .int (nI ms), .int (nI ow), .ref a_elseSeen])), (a_sort, .inl (cI, 20, .inl (nF So))), (a_subject, .inl (cI, 20, .inl (nF Su))), (a_sip, .inl (cI, 5, .inl (nF S1))), (a_sif, .inl (cI, 5, .inl (nF (upN F1 d (S1 d)))))] H := hP
          have hD : va_D A [(a_chk, .inr (3, [.ref a_rao, .ref a_sig, .ref a_stm, .ref a_ron, .ref a_aro, .ref a_sip, .ref a_sif])), (a_stm, .inr (2, [.ref a_sort, .ref a_subject, .ref a_source, .int (nI ms), .int (nI ow), .ref a_elseSeen])), (a_sort, .inl (cI, 20, .inl (nF So))), (a_subject, .inl (cI, 20, .inl (nF Su))), (a_sip, .inl (cI, 5, .inl (nF S1))), (a_sif, .inl (cI, 5, .inl (nF (upN F1 d (S1 d)))))] := hD
          refine lv_aload_n hx hb d_Chk_sureSinks_101 rfl (lv_at hl 3 rfl) ?_
          refine va_get (D := (dC, dI)) (ci := 3) (v := .ref a_sip) (C := R_Chk) (T := F_Chk) (N := 7) hx hb hts (wi i_Chk) hown hK hP 0 rfl rfl 5 (by decide) (hts _ (mt 153 rfl rfl)) (fun _ h9 => h9) rfl d_Chk_sureSinks_102 ?_
          refine lv_iload_n hx hb d_Chk_sureSinks_105 rfl (lv_at hl 2 rfl) ?_
          refine lv_iconst (v := nI 0) hx hb d_Chk_sureSinks_106 rfl ?_
          refine k_ist hx hb hK hP hD hS 4 0 rfl rfl (by omega) (by decide) d_Chk_sureSinks_107 (fun H locs hP hD hS => ?_)
          have bb_13 : ∀ j, upN S1 d 0 j < 16384 := upN_lt b_S1 (by omega)
          have hP : va_P (dC, dI) classes [(a_chk, .inr (3, [.ref a_rao, .ref a_sig, .ref a_stm, .ref a_ron, .ref a_aro, .ref a_sip, .ref a_sif])), (a_stm, .inr (2, [.ref a_sort, .ref a_subject, .ref a_source, .int (nI ms), .int (nI ow), .ref a_elseSeen])), (a_sort, .inl (cI, 20, .inl (nF So))), (a_subject, .inl (cI, 20, .inl (nF Su))), (a_sip, .inl (cI, 5, .inl (nF (upN S1 d 0)))), (a_sif, .inl (cI, 5, .inl (nF (upN F1 d (S1 d)))))] H := hP
          have hD : va_D A [(a_chk, .inr (3, [.ref a_rao, .ref a_sig, .ref a_stm, .ref a_ron, .ref a_aro, .ref a_sip, .ref a_sif])), (a_stm, .inr (2, [.ref a_sort, .ref a_subject, .ref a_source, .int (nI ms), .int (nI ow), .ref a_elseSeen])), (a_sort, .inl (cI, 20, .inl (nF So))), (a_subject, .inl (cI, 20, .inl (nF Su))), (a_sip, .inl (cI, 5, .inl (nF (upN S1 d 0)))), (a_sif, .inl (cI, 5, .inl (nF (upN F1 d (S1 d)))))] := hD
          refine lv_goto (tgt := 140) hx hb d_Chk_sureSinks_108 (by decide) ?_
          refine lv_iinc (v := nI (k + 1)) (lv' := [(2, .int (nI (k + 1))), (3, .int (nI (So k))), (1, .int (nI d)), (0, .ref a_chk)]) hx hb d_Chk_sureSinks_140 hl (k := 1) rfl (k_inc _ 1) (by decide) rfl (fun ls hl => ?_)
          refine lv_goto (tgt := 11) hx hb d_Chk_sureSinks_143 (by decide) ?_
          have hI_14 : (∀ j, (upN S1 d 0) j < 16384) ∧ (∀ j, (upN F1 d (S1 d)) j < 16384) ∧ (d = dp So (k + 1)) ∧ (∀ z, z ≤ dp So (k + 1) → (upN S1 d 0) z = (mPF So Su (k + 1) z).1 ∧ (0 < z → (upN F1 d (S1 d)) z = (mPF So Su (k + 1) z).2)) ∧ ((k + 1) ≤ ms) := ⟨bb_13, bb_12, (by rw [hd]; exact (dp_o (by omega) (by omega)).symm), (mS_2 hs hd c86), (by omega)⟩
          exact ih_3 (d, k + 1, upN S1 d 0, upN F1 d (S1 d)) hI_14 (show ms - (k + 1) < ms - k from by omega) _ _ _ hP hD hS (lv_sub hl [0, 2, 3] rfl)
      · skip
        have c61 : (So k) = 1 := (nI_eq (by omega) (by omega)).mp c61
        have g2 := g1.1 c61
        refine lv_iinc (v := nI (d + 1)) (lv' := [(1, .int (nI (d + 1))), (3, .int (nI (So k))), (2, .int (nI k)), (0, .ref a_chk)]) hx hb d_Chk_sureSinks_64 hl (k := 2) rfl (k_inc _ 1) (by decide) rfl (fun ls hl => ?_)
        refine lv_aload_n hx hb d_Chk_sureSinks_67 rfl (lv_at hl 3 rfl) ?_
        refine va_get (D := (dC, dI)) (ci := 3) (v := .ref a_sip) (C := R_Chk) (T := F_Chk) (N := 7) hx hb hts (wi i_Chk) hown hK hP 0 rfl rfl 5 (by decide) (hts _ (mt 153 rfl rfl)) (fun _ h9 => h9) rfl d_Chk_sureSinks_68 ?_
        refine lv_iload_n hx hb d_Chk_sureSinks_71 rfl (lv_at hl 0 rfl) ?_
        refine lv_iconst (v := nI 0) hx hb d_Chk_sureSinks_72 rfl ?_
        refine k_ist hx hb hK hP hD hS 4 0 rfl rfl (by omega) (by decide) d_Chk_sureSinks_73 (fun H locs hP hD hS => ?_)
        have bb_15 : ∀ j, upN S1 (d + 1) 0 j < 16384 := upN_lt b_S1 (by omega)
        have hP : va_P (dC, dI) classes [(a_chk, .inr (3, [.ref a_rao, .ref a_sig, .ref a_stm, .ref a_ron, .ref a_aro, .ref a_sip, .ref a_sif])), (a_stm, .inr (2, [.ref a_sort, .ref a_subject, .ref a_source, .int (nI ms), .int (nI ow), .ref a_elseSeen])), (a_sort, .inl (cI, 20, .inl (nF So))), (a_subject, .inl (cI, 20, .inl (nF Su))), (a_sip, .inl (cI, 5, .inl (nF (upN S1 (d + 1) 0)))), (a_sif, .inl (cI, 5, .inl (nF F1)))] H := hP
        have hD : va_D A [(a_chk, .inr (3, [.ref a_rao, .ref a_sig, .ref a_stm, .ref a_ron, .ref a_aro, .ref a_sip, .ref a_sif])), (a_stm, .inr (2, [.ref a_sort, .ref a_subject, .ref a_source, .int (nI ms), .int (nI ow), .ref a_elseSeen])), (a_sort, .inl (cI, 20, .inl (nF So))), (a_subject, .inl (cI, 20, .inl (nF Su))), (a_sip, .inl (cI, 5, .inl (nF (upN S1 (d + 1) 0)))), (a_sif, .inl (cI, 5, .inl (nF F1)))] := hD
        refine lv_aload_n hx hb d_Chk_sureSinks_74 rfl (lv_at hl 3 rfl) ?_
        refine va_get (D := (dC, dI)) (ci := 3) (v := .ref a_sif) (C := R_Chk) (T := F_Chk) (N := 7) hx hb hts (wi i_Chk) hown hK hP 0 rfl rfl 6 (by decide) (hts _ (mt 154 rfl rfl)) (fun _ h9 => h9) rfl d_Chk_sureSinks_75 ?_
        refine lv_iload_n hx hb d_Chk_sureSinks_78 rfl (lv_at hl 0 rfl) ?_
        refine lv_iconst (v := nI 0) hx hb d_Chk_sureSinks_79 rfl ?_
        refine k_ist hx hb hK hP hD hS 5 0 rfl rfl (by omega) (by decide) d_Chk_sureSinks_80 (fun H locs hP hD hS => ?_)
        have bb_16 : ∀ j, upN F1 (d + 1) 0 j < 16384 := upN_lt b_F1 (by omega)
        have hP : va_P (dC, dI) classes [(a_chk, .inr (3, [.ref a_rao, .ref a_sig, .ref a_stm, .ref a_ron, .ref a_aro, .ref a_sip, .ref a_sif])), (a_stm, .inr (2, [.ref a_sort, .ref a_subject, .ref a_source, .int (nI ms), .int (nI ow), .ref a_elseSeen])), (a_sort, .inl (cI, 20, .inl (nF So))), (a_subject, .inl (cI, 20, .inl (nF Su))), (a_sip, .inl (cI, 5, .inl (nF (upN S1 (d + 1) 0)))), (a_sif, .inl (cI, 5, .inl (nF (upN F1 (d + 1) 0))))] H := hP
        have hD : va_D A [(a_chk, .inr (3, [.ref a_rao, .ref a_sig, .ref a_stm, .ref a_ron, .ref a_aro, .ref a_sip, .ref a_sif])), (a_stm, .inr (2, [.ref a_sort, .ref a_subject, .ref a_source, .int (nI ms), .int (nI ow), .ref a_elseSeen])), (a_sort, .inl (cI, 20, .inl (nF So))), (a_subject, .inl (cI, 20, .inl (nF Su))), (a_sip, .inl (cI, 5, .inl (nF (upN S1 (d + 1) 0)))), (a_sif, .inl (cI, 5, .inl (nF (upN F1 (d + 1) 0))))] := hD
        refine lv_goto (tgt := 140) hx hb d_Chk_sureSinks_81 (by decide) ?_
        refine lv_iinc (v := nI (k + 1)) (lv' := [(2, .int (nI (k + 1))), (1, .int (nI (d + 1))), (3, .int (nI (So k))), (0, .ref a_chk)]) hx hb d_Chk_sureSinks_140 hl (k := 2) rfl (k_inc _ 1) (by decide) rfl (fun ls hl => ?_)
        refine lv_goto (tgt := 11) hx hb d_Chk_sureSinks_143 (by decide) ?_
        have hI_17 : (∀ j, (upN S1 (d + 1) 0) j < 16384) ∧ (∀ j, (upN F1 (d + 1) 0) j < 16384) ∧ ((d + 1) = dp So (k + 1)) ∧ (∀ z, z ≤ dp So (k + 1) → (upN S1 (d + 1) 0) z = (mPF So Su (k + 1) z).1 ∧ (0 < z → (upN F1 (d + 1) 0) z = (mPF So Su (k + 1) z).2)) ∧ ((k + 1) ≤ ms) := ⟨bb_15, bb_16, (by rw [hd]; exact (dp_w c61).symm), (mS_1 hs hd c61), (by omega)⟩
        exact ih_3 (d + 1, k + 1, upN S1 (d + 1) 0, upN F1 (d + 1) 0) hI_17 (show ms - (k + 1) < ms - k from by omega) _ _ _ hP hD hS (lv_sub hl [0, 1, 3] rfl)
    · skip
      have c33 : (So k) = 0 := (nI_eq0 (by omega)).mp c33
      refine lv_aload_n hx hb d_Chk_sureSinks_36 rfl (lv_at hl 3 rfl) ?_
      refine va_get (D := (dC, dI)) (ci := 3) (v := .ref a_sip) (C := R_Chk) (T := F_Chk) (N := 7) hx hb hts (wi i_Chk) hown hK hP 0 rfl rfl 5 (by decide) (hts _ (mt 153 rfl rfl)) (fun _ h9 => h9) rfl d_Chk_sureSinks_37 ?_
      refine lv_iload_n hx hb d_Chk_sureSinks_40 rfl (lv_at hl 2 rfl) ?_
      refine lv_dup2_11 hx hb d_Chk_sureSinks_41 rfl rfl ?_
      refine k_ild hx hb hK hP 4 0 rfl rfl (by omega) (by decide) d_Chk_sureSinks_42 ?_
      have hb_18 := b_S1 d
      refine lv_iconst (v := nI 1) hx hb d_Chk_sureSinks_43 rfl ?_
      refine lv_aload_n hx hb d_Chk_sureSinks_44 rfl (lv_at hl 3 rfl) ?_
      refine va_get (D := (dC, dI)) (ci := 3) (v := .ref a_stm) (C := R_Chk) (T := F_Chk) (N := 7) hx hb hts (wi i_Chk) hown hK hP 0 rfl rfl 2 (by decide) (hts _ (mt 150 rfl rfl)) (fun _ h9 => h9) rfl d_Chk_sureSinks_45 ?_
      refine va_get (D := (dC, dI)) (ci := 2) (v := .ref a_subject) (C := R_Stm) (T := F_Stm) (N := 6) hx hb hts (wi i_Stm) hown hK hP 1 rfl rfl 1 (by decide) (hts _ (mt 115 rfl rfl)) (fun _ h9 => h9) rfl d_Chk_sureSinks_48 ?_
      refine lv_iload_n hx hb d_Chk_sureSinks_51 rfl (lv_at hl 1 rfl) ?_
      refine k_ild hx hb hK hP 3 0 rfl rfl (by omega) (by decide) d_Chk_sureSinks_52 ?_
      have hb_19 := b_Su k
      refine lv_ishl hx hb d_Chk_sureSinks_53 ?_
      refine k_top (nI_shl _ (by omega)) ?_
      refine lv_ior hx hb d_Chk_sureSinks_54 ?_
      refine k_top (nI_or _ _) ?_
      refine k_ist hx hb hK hP hD hS 4 0 rfl rfl (by omega) (by decide) d_Chk_sureSinks_55 (fun H locs hP hD hS => ?_)
      have bb_20 : ∀ j, upN S1 d ((S1 d) ||| (1 * 2 ^ (Su k))) j < 16384 := upN_lt b_S1 (or14 (b_S1 _) (p14' (b_Su _)))
      have hP : va_P (dC, dI) classes [(a_chk, .inr (3, [.ref a_rao, .ref a_sig, .ref a_stm, .ref a_ron, .ref a_aro, .ref a_sip, .ref a_sif])), (a_stm, .inr (2, [.ref a_sort, .ref a_subject, .ref a_source, .int (nI ms), .int (nI ow), .ref a_elseSeen])), (a_sort, .inl (cI, 20, .inl (nF So))), (a_subject, .inl (cI, 20, .inl (nF Su))), (a_sip, .inl (cI, 5, .inl (nF (upN S1 d ((S1 d) ||| (1 * 2 ^ (Su k))))))), (a_sif, .inl (cI, 5, .inl (nF F1)))] H := hP
      have hD : va_D A [(a_chk, .inr (3, [.ref a_rao, .ref a_sig, .ref a_stm, .ref a_ron, .ref a_aro, .ref a_sip, .ref a_sif])), (a_stm, .inr (2, [.ref a_sort, .ref a_subject, .ref a_source, .int (nI ms), .int (nI ow), .ref a_elseSeen])), (a_sort, .inl (cI, 20, .inl (nF So))), (a_subject, .inl (cI, 20, .inl (nF Su))), (a_sip, .inl (cI, 5, .inl (nF (upN S1 d ((S1 d) ||| (1 * 2 ^ (Su k))))))), (a_sif, .inl (cI, 5, .inl (nF F1)))] := hD
      refine lv_goto (tgt := 140) hx hb d_Chk_sureSinks_56 (by decide) ?_
      refine lv_iinc (v := nI (k + 1)) (lv' := [(2, .int (nI (k + 1))), (3, .int (nI (So k))), (1, .int (nI d)), (0, .ref a_chk)]) hx hb d_Chk_sureSinks_140 hl (k := 1) rfl (k_inc _ 1) (by decide) rfl (fun ls hl => ?_)
      refine lv_goto (tgt := 11) hx hb d_Chk_sureSinks_143 (by decide) ?_
      have hI_21 : (∀ j, (upN S1 d ((S1 d) ||| (1 * 2 ^ (Su k)))) j < 16384) ∧ (∀ j, F1 j < 16384) ∧ (d = dp So (k + 1)) ∧ (∀ z, z ≤ dp So (k + 1) → (upN S1 d ((S1 d) ||| (1 * 2 ^ (Su k)))) z = (mPF So Su (k + 1) z).1 ∧ (0 < z → F1 z = (mPF So Su (k + 1) z).2)) ∧ ((k + 1) ≤ ms) := ⟨bb_20, b_F1, (by rw [hd]; exact (dp_o (by omega) (by omega)).symm), (mS_0 hs hd c33), (by omega)⟩
      exact ih_3 (d, k + 1, upN S1 d ((S1 d) ||| (1 * 2 ^ (Su k))), F1) hI_21 (show ms - (k + 1) < ms - k from by omega) _ _ _ hP hD hS (lv_sub hl [0, 2, 3] rfl)
