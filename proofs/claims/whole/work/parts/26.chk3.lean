abbrev b_Chk_leastInLoop : ByteArray := prog_2_method_4_code
def y_Chk_leastInLoop : MethodName := ⟨"CircuitDesk$Checks", "leastInLoop", "()I"⟩
def w_Chk_leastInLoop : List Cond := .code y_Chk_leastInLoop b_Chk_leastInLoop 3 (some .int) :: lw_gw
theorem d_Chk_leastInLoop_0 : decode b_Chk_leastInLoop 0 = .ok (.aload_n 0, 1) := by decide +kernel
theorem d_Chk_leastInLoop_1 : decode b_Chk_leastInLoop 1 = .ok (.invokevirtual 57, 3) := by decide +kernel
theorem d_Chk_leastInLoop_4 : decode b_Chk_leastInLoop 4 = .ok (.aload_n 0, 1) := by decide +kernel
theorem d_Chk_leastInLoop_5 : decode b_Chk_leastInLoop 5 = .ok (.getfield 9, 3) := by decide +kernel
theorem d_Chk_leastInLoop_8 : decode b_Chk_leastInLoop 8 = .ok (.iconst 0, 1) := by decide +kernel
theorem d_Chk_leastInLoop_9 : decode b_Chk_leastInLoop 9 = .ok (.aload_n 0, 1) := by decide +kernel
theorem d_Chk_leastInLoop_10 : decode b_Chk_leastInLoop 10 = .ok (.getfield 15, 3) := by decide +kernel
theorem d_Chk_leastInLoop_13 : decode b_Chk_leastInLoop 13 = .ok (.iconst 0, 1) := by decide +kernel
theorem d_Chk_leastInLoop_14 : decode b_Chk_leastInLoop 14 = .ok (.aload_n 0, 1) := by decide +kernel
theorem d_Chk_leastInLoop_15 : decode b_Chk_leastInLoop 15 = .ok (.getfield 27, 3) := by decide +kernel
theorem d_Chk_leastInLoop_18 : decode b_Chk_leastInLoop 18 = .ok (.getfield 39, 3) := by decide +kernel
theorem d_Chk_leastInLoop_21 : decode b_Chk_leastInLoop 21 = .ok (.invokestatic 60, 3) := by decide +kernel
theorem d_Chk_leastInLoop_24 : decode b_Chk_leastInLoop 24 = .ok (.iconst 0, 1) := by decide +kernel
theorem d_Chk_leastInLoop_25 : decode b_Chk_leastInLoop 25 = .ok (.istore_n 1, 1) := by decide +kernel
theorem d_Chk_leastInLoop_26 : decode b_Chk_leastInLoop 26 = .ok (.iload_n 1, 1) := by decide +kernel
theorem d_Chk_leastInLoop_27 : decode b_Chk_leastInLoop 27 = .ok (.aload_n 0, 1) := by decide +kernel
theorem d_Chk_leastInLoop_28 : decode b_Chk_leastInLoop 28 = .ok (.getfield 27, 3) := by decide +kernel
theorem d_Chk_leastInLoop_31 : decode b_Chk_leastInLoop 31 = .ok (.getfield 39, 3) := by decide +kernel
theorem d_Chk_leastInLoop_34 : decode b_Chk_leastInLoop 34 = .ok (.if_icmp .ge 57, 3) := by decide +kernel
theorem d_Chk_leastInLoop_37 : decode b_Chk_leastInLoop 37 = .ok (.iconst 0, 1) := by decide +kernel
theorem d_Chk_leastInLoop_38 : decode b_Chk_leastInLoop 38 = .ok (.istore_n 2, 1) := by decide +kernel
theorem d_Chk_leastInLoop_39 : decode b_Chk_leastInLoop 39 = .ok (.iload_n 2, 1) := by decide +kernel
theorem d_Chk_leastInLoop_40 : decode b_Chk_leastInLoop 40 = .ok (.aload_n 0, 1) := by decide +kernel
theorem d_Chk_leastInLoop_41 : decode b_Chk_leastInLoop 41 = .ok (.getfield 27, 3) := by decide +kernel
theorem d_Chk_leastInLoop_44 : decode b_Chk_leastInLoop 44 = .ok (.getfield 39, 3) := by decide +kernel
theorem d_Chk_leastInLoop_47 : decode b_Chk_leastInLoop 47 = .ok (.if_icmp .ge 38, 3) := by decide +kernel
theorem d_Chk_leastInLoop_50 : decode b_Chk_leastInLoop 50 = .ok (.aload_n 0, 1) := by decide +kernel
theorem d_Chk_leastInLoop_51 : decode b_Chk_leastInLoop 51 = .ok (.getfield 15, 3) := by decide +kernel
theorem d_Chk_leastInLoop_54 : decode b_Chk_leastInLoop 54 = .ok (.iload_n 2, 1) := by decide +kernel
theorem d_Chk_leastInLoop_55 : decode b_Chk_leastInLoop 55 = .ok (.iaload, 1) := by decide +kernel
theorem d_Chk_leastInLoop_56 : decode b_Chk_leastInLoop 56 = .ok (.iload_n 1, 1) := by decide +kernel
theorem d_Chk_leastInLoop_57 : decode b_Chk_leastInLoop 57 = .ok (.ishr, 1) := by decide +kernel
theorem d_Chk_leastInLoop_58 : decode b_Chk_leastInLoop 58 = .ok (.iconst 1, 1) := by decide +kernel
theorem d_Chk_leastInLoop_59 : decode b_Chk_leastInLoop 59 = .ok (.iand, 1) := by decide +kernel
theorem d_Chk_leastInLoop_60 : decode b_Chk_leastInLoop 60 = .ok (.iconst 1, 1) := by decide +kernel
theorem d_Chk_leastInLoop_61 : decode b_Chk_leastInLoop 61 = .ok (.if_icmp .ne 18, 3) := by decide +kernel
theorem d_Chk_leastInLoop_64 : decode b_Chk_leastInLoop 64 = .ok (.aload_n 0, 1) := by decide +kernel
theorem d_Chk_leastInLoop_65 : decode b_Chk_leastInLoop 65 = .ok (.getfield 15, 3) := by decide +kernel
theorem d_Chk_leastInLoop_68 : decode b_Chk_leastInLoop 68 = .ok (.iload_n 2, 1) := by decide +kernel
theorem d_Chk_leastInLoop_69 : decode b_Chk_leastInLoop 69 = .ok (.dup2, 1) := by decide +kernel
theorem d_Chk_leastInLoop_70 : decode b_Chk_leastInLoop 70 = .ok (.iaload, 1) := by decide +kernel
theorem d_Chk_leastInLoop_71 : decode b_Chk_leastInLoop 71 = .ok (.aload_n 0, 1) := by decide +kernel
theorem d_Chk_leastInLoop_72 : decode b_Chk_leastInLoop 72 = .ok (.getfield 15, 3) := by decide +kernel
theorem d_Chk_leastInLoop_75 : decode b_Chk_leastInLoop 75 = .ok (.iload_n 1, 1) := by decide +kernel
theorem d_Chk_leastInLoop_76 : decode b_Chk_leastInLoop 76 = .ok (.iaload, 1) := by decide +kernel
theorem d_Chk_leastInLoop_77 : decode b_Chk_leastInLoop 77 = .ok (.ior, 1) := by decide +kernel
theorem d_Chk_leastInLoop_78 : decode b_Chk_leastInLoop 78 = .ok (.iastore, 1) := by decide +kernel
theorem d_Chk_leastInLoop_79 : decode b_Chk_leastInLoop 79 = .ok (.iinc 2 1, 3) := by decide +kernel
theorem d_Chk_leastInLoop_82 : decode b_Chk_leastInLoop 82 = .ok (.goto (-43), 3) := by decide +kernel
theorem d_Chk_leastInLoop_85 : decode b_Chk_leastInLoop 85 = .ok (.iinc 1 1, 3) := by decide +kernel
theorem d_Chk_leastInLoop_88 : decode b_Chk_leastInLoop 88 = .ok (.goto (-62), 3) := by decide +kernel
theorem d_Chk_leastInLoop_91 : decode b_Chk_leastInLoop 91 = .ok (.iconst 0, 1) := by decide +kernel
theorem d_Chk_leastInLoop_92 : decode b_Chk_leastInLoop 92 = .ok (.istore_n 1, 1) := by decide +kernel
theorem d_Chk_leastInLoop_93 : decode b_Chk_leastInLoop 93 = .ok (.iload_n 1, 1) := by decide +kernel
theorem d_Chk_leastInLoop_94 : decode b_Chk_leastInLoop 94 = .ok (.aload_n 0, 1) := by decide +kernel
theorem d_Chk_leastInLoop_95 : decode b_Chk_leastInLoop 95 = .ok (.getfield 27, 3) := by decide +kernel
theorem d_Chk_leastInLoop_98 : decode b_Chk_leastInLoop 98 = .ok (.getfield 39, 3) := by decide +kernel
theorem d_Chk_leastInLoop_101 : decode b_Chk_leastInLoop 101 = .ok (.if_icmp .ge 25, 3) := by decide +kernel
theorem d_Chk_leastInLoop_104 : decode b_Chk_leastInLoop 104 = .ok (.aload_n 0, 1) := by decide +kernel
theorem d_Chk_leastInLoop_105 : decode b_Chk_leastInLoop 105 = .ok (.getfield 15, 3) := by decide +kernel
theorem d_Chk_leastInLoop_108 : decode b_Chk_leastInLoop 108 = .ok (.iload_n 1, 1) := by decide +kernel
theorem d_Chk_leastInLoop_109 : decode b_Chk_leastInLoop 109 = .ok (.iaload, 1) := by decide +kernel
theorem d_Chk_leastInLoop_110 : decode b_Chk_leastInLoop 110 = .ok (.iload_n 1, 1) := by decide +kernel
theorem d_Chk_leastInLoop_111 : decode b_Chk_leastInLoop 111 = .ok (.ishr, 1) := by decide +kernel
theorem d_Chk_leastInLoop_112 : decode b_Chk_leastInLoop 112 = .ok (.iconst 1, 1) := by decide +kernel
theorem d_Chk_leastInLoop_113 : decode b_Chk_leastInLoop 113 = .ok (.iand, 1) := by decide +kernel
theorem d_Chk_leastInLoop_114 : decode b_Chk_leastInLoop 114 = .ok (.iconst 1, 1) := by decide +kernel
theorem d_Chk_leastInLoop_115 : decode b_Chk_leastInLoop 115 = .ok (.if_icmp .ne 5, 3) := by decide +kernel
theorem d_Chk_leastInLoop_118 : decode b_Chk_leastInLoop 118 = .ok (.iload_n 1, 1) := by decide +kernel
theorem d_Chk_leastInLoop_119 : decode b_Chk_leastInLoop 119 = .ok (.ireturn, 1) := by decide +kernel
theorem d_Chk_leastInLoop_120 : decode b_Chk_leastInLoop 120 = .ok (.iinc 1 1, 3) := by decide +kernel
theorem d_Chk_leastInLoop_123 : decode b_Chk_leastInLoop 123 = .ok (.goto (-30), 3) := by decide +kernel
theorem d_Chk_leastInLoop_126 : decode b_Chk_leastInLoop 126 = .ok (.bipush (-2), 2) := by decide +kernel
theorem d_Chk_leastInLoop_128 : decode b_Chk_leastInLoop 128 = .ok (.ireturn, 1) := by decide +kernel
set_option maxHeartbeats 4000000 in
set_option maxRecDepth 100000 in
theorem c_Chk_leastInLoop (l : Launch) (dC : Nat → ClassId) (dI : Nat → Nat → Nat) (cI cZ : ClassId) (a_chk a_rao a_sig a_stm a_ron a_aro a_sip a_sif a_kind a_width a_rword a_sop a_sa a_sb a_sc a_sort a_subject a_source a_elseSeen : Nat) (tt sz : Nat) (n : Nat) (Kd : Nat → Nat) (Op : Nat → Nat) (Aa : Nat → Int32) (Ab : Nat → Int32) (Ac : Nat → Int32) (ms : Nat) (ow : Nat) (So : Nat → Nat) (Su : Nat → Nat) (Sr : Nat → Nat) (RA : Nat → Nat) (RO : Nat → Nat) (AR : Nat → Nat) (b_n : n ≤ 14) (b_Kd : ∀ j, Kd j < 4) (b_Op : ∀ j, Op j < 12) (b_ms : ms ≤ 20) (b_ow : ow ≤ 4) (b_So : ∀ j, So j < 4) (b_Su : ∀ j, Su j < 14) (b_Sr : ∀ j, Sr j < 14) (b_RA : ∀ j, RA j < 16384) (b_RO : ∀ j, RO j < 16384) (b_AR : ∀ j, AR j < 16384) (hLG : LG So ms) (ha1 : ∀ z, z < n → Kd z = 3 → (1 ≤ tab (Op z) → ∃ X, X < 14 ∧ Aa z = nI X) ∧ (2 ≤ tab (Op z) → ∃ X, X < 14 ∧ Ab z = nI X) ∧ (3 ≤ tab (Op z) → ∃ X, X < 14 ∧ Ac z = nI X)) : Met l y_Chk_leastInLoop w_Chk_leastInLoop ({ frames := 2, cells := 0, slots := 0, locals := 60 }) (va_Pc [.ref a_chk] (PW (dC, dI) classes [(cI, .int), (cZ, .boolean)] tt [(a_chk, .inr (3, [.ref a_rao, .ref a_sig, .ref a_stm, .ref a_ron, .ref a_aro, .ref a_sip, .ref a_sif])), (a_sig, .inr (1, [.ref a_kind, .ref a_width, .ref a_rword, .ref a_sop, .ref a_sa, .ref a_sb, .ref a_sc, .int (nI n)])), (a_kind, .inl (cI, 14, .inl (nF Kd))), (a_sop, .inl (cI, 14, .inl (nF Op))), (a_sa, .inl (cI, 14, .inl Aa)), (a_sb, .inl (cI, 14, .inl Ab)), (a_sc, .inl (cI, 14, .inl Ac)), (a_stm, .inr (2, [.ref a_sort, .ref a_subject, .ref a_source, .int (nI ms), .int (nI ow), .ref a_elseSeen])), (a_sort, .inl (cI, 20, .inl (nF So))), (a_subject, .inl (cI, 20, .inl (nF Su))), (a_source, .inl (cI, 20, .inl (nF Sr))), (a_rao, .inl (cI, 14, .inl (nF RA))), (a_ron, .inl (cI, 14, .inl (nF RO))), (a_aro, .inl (cI, 5, .inl (nF AR)))] sz)) (va_Qi (fun (r : Int32) (u : (Nat → Nat) × (Nat → Nat) × (Nat → Nat)) => (∀ j, u.1 j < 16384) ∧ (∀ j, u.2.1 j < 16384) ∧ (∀ j, u.2.2 j < 16384) ∧ (∀ z, z < n → u.1 z = raM (raB Kd Op Aa Ab Ac) Kd So Su Sr ms z) ∧ (∃ Bz, (∀ z, z < n → Bz z = u.1 z) ∧ Lst (fun z => wO n Bz n z / 2 ^ z % 2 = 1) n r)) (AT (dC, dI) classes [(cI, .int), (cZ, .boolean)] (va_A [(a_chk, .inr (3, [.ref a_rao, .ref a_sig, .ref a_stm, .ref a_ron, .ref a_aro, .ref a_sip, .ref a_sif])), (a_sig, .inr (1, [.ref a_kind, .ref a_width, .ref a_rword, .ref a_sop, .ref a_sa, .ref a_sb, .ref a_sc, .int (nI n)])), (a_kind, .inl (cI, 14, .inl (nF Kd))), (a_sop, .inl (cI, 14, .inl (nF Op))), (a_sa, .inl (cI, 14, .inl Aa)), (a_sb, .inl (cI, 14, .inl Ab)), (a_sc, .inl (cI, 14, .inl Ac)), (a_stm, .inr (2, [.ref a_sort, .ref a_subject, .ref a_source, .int (nI ms), .int (nI ow), .ref a_elseSeen])), (a_sort, .inl (cI, 20, .inl (nF So))), (a_subject, .inl (cI, 20, .inl (nF Su))), (a_source, .inl (cI, 20, .inl (nF Sr))), (a_rao, .inl (cI, 14, .inl (nF RA))), (a_ron, .inl (cI, 14, .inl (nF RO))), (a_aro, .inl (cI, 5, .inl (nF AR)))] sz) (fun (u : (Nat → Nat) × (Nat → Nat) × (Nat → Nat)) => [(a_chk, .inr (3, [.ref a_rao, .ref a_sig, .ref a_stm, .ref a_ron, .ref a_aro, .ref a_sip, .ref a_sif])), (a_sig, .inr (1, [.ref a_kind, .ref a_width, .ref a_rword, .ref a_sop, .ref a_sa, .ref a_sb, .ref a_sc, .int (nI n)])), (a_kind, .inl (cI, 14, .inl (nF Kd))), (a_sop, .inl (cI, 14, .inl (nF Op))), (a_sa, .inl (cI, 14, .inl Aa)), (a_sb, .inl (cI, 14, .inl Ab)), (a_sc, .inl (cI, 14, .inl Ac)), (a_stm, .inr (2, [.ref a_sort, .ref a_subject, .ref a_source, .int (nI ms), .int (nI ow), .ref a_elseSeen])), (a_sort, .inl (cI, 20, .inl (nF So))), (a_subject, .inl (cI, 20, .inl (nF Su))), (a_source, .inl (cI, 20, .inl (nF Sr))), (a_rao, .inl (cI, 14, .inl (nF u.1))), (a_ron, .inl (cI, 14, .inl (nF u.2.1))), (a_aro, .inl (cI, 5, .inl (nF u.2.2)))])) (va_A [(a_chk, .inr (3, [.ref a_rao, .ref a_sig, .ref a_stm, .ref a_ron, .ref a_aro, .ref a_sip, .ref a_sif])), (a_sig, .inr (1, [.ref a_kind, .ref a_width, .ref a_rword, .ref a_sop, .ref a_sa, .ref a_sb, .ref a_sc, .int (nI n)])), (a_kind, .inl (cI, 14, .inl (nF Kd))), (a_sop, .inl (cI, 14, .inl (nF Op))), (a_sa, .inl (cI, 14, .inl Aa)), (a_sb, .inl (cI, 14, .inl Ab)), (a_sc, .inl (cI, 14, .inl Ac)), (a_stm, .inr (2, [.ref a_sort, .ref a_subject, .ref a_source, .int (nI ms), .int (nI ow), .ref a_elseSeen])), (a_sort, .inl (cI, 20, .inl (nF So))), (a_subject, .inl (cI, 20, .inl (nF Su))), (a_source, .inl (cI, 20, .inl (nF Sr))), (a_rao, .inl (cI, 14, .inl (nF RA))), (a_ron, .inl (cI, 14, .inl (nF RO))), (a_aro, .inl (cI, 5, .inl (nF AR)))] sz)) 0 0 (va_A [(a_chk, .inr (3, [.ref a_rao, .ref a_sig, .ref a_stm, .ref a_ron, .ref a_aro, .ref a_sip, .ref a_sif])), (a_sig, .inr (1, [.ref a_kind, .ref a_width, .ref a_rword, .ref a_sop, .ref a_sa, .ref a_sb, .ref a_sc, .int (nI n)])), (a_kind, .inl (cI, 14, .inl (nF Kd))), (a_sop, .inl (cI, 14, .inl (nF Op))), (a_sa, .inl (cI, 14, .inl Aa)), (a_sb, .inl (cI, 14, .inl Ab)), (a_sc, .inl (cI, 14, .inl Ac)), (a_stm, .inr (2, [.ref a_sort, .ref a_subject, .ref a_source, .int (nI ms), .int (nI ow), .ref a_elseSeen])), (a_sort, .inl (cI, 20, .inl (nF So))), (a_subject, .inl (cI, 20, .inl (nF Su))), (a_source, .inl (cI, 20, .inl (nF Sr))), (a_rao, .inl (cI, 14, .inl (nF RA))), (a_ron, .inl (cI, 14, .inl (nF RO))), (a_aro, .inl (cI, 5, .inl (nF AR)))] sz) := by
  refine Met.ofW (cc := b_Chk_leastInLoop) (maxL := 3) (ret := (some .int)) (by decide) rfl ?_
  intro p e s m args below meth c s₁ B hml hv
  obtain ⟨rfl, hsz, hP, hK, hD0, hE⟩ := hv
  have hx := B.exec
  have hb := B.bytes
  have hr := B.returns
  have hts := atoms_spec (ws := w_Chk_leastInLoop) B.pre
  have hown : s.vm.findClass R_Chk = some m.cls := findClass_of_methodNamed B.named
  have hlocks := B.notSynchronized
  subst hsz
  have hD := hD0.self (sz := s.heap.size)
  generalize hAe : va_A [(a_chk, .inr (3, [.ref a_rao, .ref a_sig, .ref a_stm, .ref a_ron, .ref a_aro, .ref a_sip, .ref a_sif])), (a_sig, .inr (1, [.ref a_kind, .ref a_width, .ref a_rword, .ref a_sop, .ref a_sa, .ref a_sb, .ref a_sc, .int (nI n)])), (a_kind, .inl (cI, 14, .inl (nF Kd))), (a_sop, .inl (cI, 14, .inl (nF Op))), (a_sa, .inl (cI, 14, .inl Aa)), (a_sb, .inl (cI, 14, .inl Ab)), (a_sc, .inl (cI, 14, .inl Ac)), (a_stm, .inr (2, [.ref a_sort, .ref a_subject, .ref a_source, .int (nI ms), .int (nI ow), .ref a_elseSeen])), (a_sort, .inl (cI, 20, .inl (nF So))), (a_subject, .inl (cI, 20, .inl (nF Su))), (a_source, .inl (cI, 20, .inl (nF Sr))), (a_rao, .inl (cI, 14, .inl (nF RA))), (a_ron, .inl (cI, 14, .inl (nF RO))), (a_aro, .inl (cI, 5, .inl (nF AR)))] s.heap.size = A at hD hE ⊢
  have hA : ∀ q : Nat, s.heap.size ≤ q → A q := fun q h => by rw [← hAe]; exact Or.inr h
  have hS : va_S A s.heap s.heap [] := va_S.rf
  have hP : va_P (dC, dI) classes [(a_chk, .inr (3, [.ref a_rao, .ref a_sig, .ref a_stm, .ref a_ron, .ref a_aro, .ref a_sip, .ref a_sif])), (a_sig, .inr (1, [.ref a_kind, .ref a_width, .ref a_rword, .ref a_sop, .ref a_sa, .ref a_sb, .ref a_sc, .int (nI n)])), (a_kind, .inl (cI, 14, .inl (nF Kd))), (a_sop, .inl (cI, 14, .inl (nF Op))), (a_sa, .inl (cI, 14, .inl Aa)), (a_sb, .inl (cI, 14, .inl Ab)), (a_sc, .inl (cI, 14, .inl Ac)), (a_stm, .inr (2, [.ref a_sort, .ref a_subject, .ref a_source, .int (nI ms), .int (nI ow), .ref a_elseSeen])), (a_sort, .inl (cI, 20, .inl (nF So))), (a_subject, .inl (cI, 20, .inl (nF Su))), (a_source, .inl (cI, 20, .inl (nF Sr))), (a_rao, .inl (cI, 14, .inl (nF RA))), (a_ron, .inl (cI, 14, .inl (nF RO))), (a_aro, .inl (cI, 5, .inl (nF AR)))] s.heap := hP
  have hl := lv_entry ([.ref a_chk]) (n := 3) (Nat.le_of_ble_eq_true rfl)
  rw [lg_entry_eq]
  generalize (lg_sl ([.ref a_chk]) ++ List.replicate (3 - (lg_sl ([.ref a_chk])).length) Slot.unset).toArray = ls at hl ⊢
  have hl : lv_has ls 3 [(0, .ref a_chk)] := hl
  refine lv_aload_n hx hb d_Chk_leastInLoop_0 rfl (lv_at hl 0 rfl) ?_
  refine k_v (wr := [(a_ron, .inl (cI, 14, .inl (nF RO)))]) (w2 := fun (u : (Nat → Nat) × (Nat → Nat)) => [(a_chk, .inr (3, [.ref a_rao, .ref a_sig, .ref a_stm, .ref a_ron, .ref a_aro, .ref a_sip, .ref a_sif])), (a_sig, .inr (1, [.ref a_kind, .ref a_width, .ref a_rword, .ref a_sop, .ref a_sa, .ref a_sb, .ref a_sc, .int (nI n)])), (a_kind, .inl (cI, 14, .inl (nF Kd))), (a_sop, .inl (cI, 14, .inl (nF Op))), (a_sa, .inl (cI, 14, .inl Aa)), (a_sb, .inl (cI, 14, .inl Ab)), (a_sc, .inl (cI, 14, .inl Ac)), (a_stm, .inr (2, [.ref a_sort, .ref a_subject, .ref a_source, .int (nI ms), .int (nI ow), .ref a_elseSeen])), (a_sort, .inl (cI, 20, .inl (nF So))), (a_subject, .inl (cI, 20, .inl (nF Su))), (a_source, .inl (cI, 20, .inl (nF Sr))), (a_rao, .inl (cI, 14, .inl (nF u.1))), (a_ron, .inl (cI, 14, .inl (nF RO))), (a_aro, .inl (cI, 5, .inl (nF u.2)))]) (va_runV (As := []) (rest := []) ⟨hx, hb, hml, hown, hts⟩ (c_Chk_findRestsAtOnce l dC dI cI cZ a_chk a_rao a_sig a_stm a_ron a_aro a_sip a_sif a_kind a_width a_rword a_sop a_sa a_sb a_sc a_sort a_subject a_source a_elseSeen tt s.heap.size n Kd Op Aa Ab Ac ms ow So Su Sr RA AR  (by omega) b_Kd b_Op (by omega) (by omega) b_So b_Su b_Sr b_RA b_AR hLG ha1) (cwV 0 hts (gd_V in_tl (mw 371 rfl rfl) (mw 373 rfl rfl) (mw 4 rfl rfl) (mw 44 rfl rfl) (mw 374 rfl rfl)) rfl rfl rfl (by decide +kernel) ⟨Nat.le_of_ble_eq_true rfl, Nat.le_of_ble_eq_true rfl⟩) (k_preV hK hP hD hS hA hE [0, 1, 2, 3, 4, 5, 6, 7, 8, 9, 10, 11, 13] (by decide) rfl 3 0 rfl rfl) rfl rfl hl.1 rfl (lv_room (Nat.le_of_ble_eq_true rfl)) d_Chk_leastInLoop_1 ⟨Nat.zero_le _, Nat.zero_le _⟩) hP hD hS hA [0, 1, 2, 3, 4, 5, 6, 7, 8, 9, 10, 11, 13] [12] [1, 2, 3, 4, 5, 6, 7, 8, 9, 10, 11, 12, 0, 13] rfl rfl (by decide) (by decide) (by decide) (fun _ => rfl) (fun u H locs hw hP hD hS => ?_)
  obtain ⟨RAv_1, ARv_2⟩ := u
  obtain ⟨b_RAv_1, b_ARv_2, hr_1⟩ : (∀ j, RAv_1 j < 16384) ∧ (∀ j, ARv_2 j < 16384) ∧ (∀ z, z < n → RAv_1 z = raM (raB Kd Op Aa Ab Ac) Kd So Su Sr ms z) := hw
  have hP : va_P (dC, dI) classes [(a_chk, .inr (3, [.ref a_rao, .ref a_sig, .ref a_stm, .ref a_ron, .ref a_aro, .ref a_sip, .ref a_sif])), (a_sig, .inr (1, [.ref a_kind, .ref a_width, .ref a_rword, .ref a_sop, .ref a_sa, .ref a_sb, .ref a_sc, .int (nI n)])), (a_kind, .inl (cI, 14, .inl (nF Kd))), (a_sop, .inl (cI, 14, .inl (nF Op))), (a_sa, .inl (cI, 14, .inl Aa)), (a_sb, .inl (cI, 14, .inl Ab)), (a_sc, .inl (cI, 14, .inl Ac)), (a_stm, .inr (2, [.ref a_sort, .ref a_subject, .ref a_source, .int (nI ms), .int (nI ow), .ref a_elseSeen])), (a_sort, .inl (cI, 20, .inl (nF So))), (a_subject, .inl (cI, 20, .inl (nF Su))), (a_source, .inl (cI, 20, .inl (nF Sr))), (a_rao, .inl (cI, 14, .inl (nF RAv_1))), (a_ron, .inl (cI, 14, .inl (nF RO))), (a_aro, .inl (cI, 5, .inl (nF ARv_2)))] H := hP
  have hD : va_D A [(a_chk, .inr (3, [.ref a_rao, .ref a_sig, .ref a_stm, .ref a_ron, .ref a_aro, .ref a_sip, .ref a_sif])), (a_sig, .inr (1, [.ref a_kind, .ref a_width, .ref a_rword, .ref a_sop, .ref a_sa, .ref a_sb, .ref a_sc, .int (nI n)])), (a_kind, .inl (cI, 14, .inl (nF Kd))), (a_sop, .inl (cI, 14, .inl (nF Op))), (a_sa, .inl (cI, 14, .inl Aa)), (a_sb, .inl (cI, 14, .inl Ab)), (a_sc, .inl (cI, 14, .inl Ac)), (a_stm, .inr (2, [.ref a_sort, .ref a_subject, .ref a_source, .int (nI ms), .int (nI ow), .ref a_elseSeen])), (a_sort, .inl (cI, 20, .inl (nF So))), (a_subject, .inl (cI, 20, .inl (nF Su))), (a_source, .inl (cI, 20, .inl (nF Sr))), (a_rao, .inl (cI, 14, .inl (nF RAv_1))), (a_ron, .inl (cI, 14, .inl (nF RO))), (a_aro, .inl (cI, 5, .inl (nF ARv_2)))] := hD
  refine lv_aload_n hx hb d_Chk_leastInLoop_4 rfl (lv_at hl 0 rfl) ?_
  refine va_get (D := (dC, dI)) (ci := 3) (v := .ref a_rao) (C := R_Chk) (T := F_Chk) (N := 7) hx hb hts (wi i_Chk) hown hK hP 0 rfl rfl 0 (by decide) (hts _ (mt 147 rfl rfl)) (fun _ h9 => h9) rfl d_Chk_leastInLoop_5 ?_
  refine lv_iconst (v := nI 0) hx hb d_Chk_leastInLoop_8 rfl ?_
  refine lv_aload_n hx hb d_Chk_leastInLoop_9 rfl (lv_at hl 0 rfl) ?_
  refine va_get (D := (dC, dI)) (ci := 3) (v := .ref a_ron) (C := R_Chk) (T := F_Chk) (N := 7) hx hb hts (wi i_Chk) hown hK hP 0 rfl rfl 3 (by decide) (hts _ (mt 151 rfl rfl)) (fun _ h9 => h9) rfl d_Chk_leastInLoop_10 ?_
  refine lv_iconst (v := nI 0) hx hb d_Chk_leastInLoop_13 rfl ?_
  refine lv_aload_n hx hb d_Chk_leastInLoop_14 rfl (lv_at hl 0 rfl) ?_
  refine va_get (D := (dC, dI)) (ci := 3) (v := .ref a_sig) (C := R_Chk) (T := F_Chk) (N := 7) hx hb hts (wi i_Chk) hown hK hP 0 rfl rfl 1 (by decide) (hts _ (mt 149 rfl rfl)) (fun _ h9 => h9) rfl d_Chk_leastInLoop_15 ?_
  refine va_get (D := (dC, dI)) (ci := 1) (v := .int (nI n)) (C := R_Sig) (T := F_Sig) (N := 8) hx hb hts (wi i_Sig) hown hK hP 1 rfl rfl 7 (by decide) (hts _ (mt 84 rfl rfl)) (fun _ h9 => h9) rfl d_Chk_leastInLoop_18 ?_
  refine k_copy hx hb (by rw [hml]; exact hl.1.symm) hown (hts _ (mt 380 rfl rfl)) (hts _ (mt 382 rfl rfl)) (hts _ (mt 381 rfl rfl)) (hts _ (mt 49 rfl rfl)) hK hP hD hS 11 12 0 rfl rfl rfl (by omega) (by omega) (by omega) (by omega) (by omega) (Nat.le_of_ble_eq_true rfl) (Nat.le_of_ble_eq_true rfl) d_Chk_leastInLoop_21 (fun H locs hP hD hS => ?_)
  have bb_4 : ∀ j, cpN RAv_1 RO 0 0 n j < 16384 := cpN_lt b_RAv_1 b_RO
  have hP : va_P (dC, dI) classes [(a_chk, .inr (3, [.ref a_rao, .ref a_sig, .ref a_stm, .ref a_ron, .ref a_aro, .ref a_sip, .ref a_sif])), (a_sig, .inr (1, [.ref a_kind, .ref a_width, .ref a_rword, .ref a_sop, .ref a_sa, .ref a_sb, .ref a_sc, .int (nI n)])), (a_kind, .inl (cI, 14, .inl (nF Kd))), (a_sop, .inl (cI, 14, .inl (nF Op))), (a_sa, .inl (cI, 14, .inl Aa)), (a_sb, .inl (cI, 14, .inl Ab)), (a_sc, .inl (cI, 14, .inl Ac)), (a_stm, .inr (2, [.ref a_sort, .ref a_subject, .ref a_source, .int (nI ms), .int (nI ow), .ref a_elseSeen])), (a_sort, .inl (cI, 20, .inl (nF So))), (a_subject, .inl (cI, 20, .inl (nF Su))), (a_source, .inl (cI, 20, .inl (nF Sr))), (a_rao, .inl (cI, 14, .inl (nF RAv_1))), (a_ron, .inl (cI, 14, .inl (nF (cpN RAv_1 RO 0 0 n)))), (a_aro, .inl (cI, 5, .inl (nF ARv_2)))] H := hP
  have hD : va_D A [(a_chk, .inr (3, [.ref a_rao, .ref a_sig, .ref a_stm, .ref a_ron, .ref a_aro, .ref a_sip, .ref a_sif])), (a_sig, .inr (1, [.ref a_kind, .ref a_width, .ref a_rword, .ref a_sop, .ref a_sa, .ref a_sb, .ref a_sc, .int (nI n)])), (a_kind, .inl (cI, 14, .inl (nF Kd))), (a_sop, .inl (cI, 14, .inl (nF Op))), (a_sa, .inl (cI, 14, .inl Aa)), (a_sb, .inl (cI, 14, .inl Ab)), (a_sc, .inl (cI, 14, .inl Ac)), (a_stm, .inr (2, [.ref a_sort, .ref a_subject, .ref a_source, .int (nI ms), .int (nI ow), .ref a_elseSeen])), (a_sort, .inl (cI, 20, .inl (nF So))), (a_subject, .inl (cI, 20, .inl (nF Su))), (a_source, .inl (cI, 20, .inl (nF Sr))), (a_rao, .inl (cI, 14, .inl (nF RAv_1))), (a_ron, .inl (cI, 14, .inl (nF (cpN RAv_1 RO 0 0 n)))), (a_aro, .inl (cI, 5, .inl (nF ARv_2)))] := hD
  have hB : ∀ z, z < n → (cpN RAv_1 RO 0 0 n) z = RAv_1 z := fun z hz => by unfold cpN; rw [if_pos (by omega)]; rw [show 0 + (z - 0) = z by omega]
  refine lv_iconst (v := nI 0) hx hb d_Chk_leastInLoop_24 rfl ?_
  refine lv_istore_n (lv' := [(1, .int (nI 0)), (0, .ref a_chk)]) hx hb d_Chk_leastInLoop_25 rfl hl (by decide) rfl (fun ls hl => ?_)
  have hI_5 : (∀ j, (cpN RAv_1 RO 0 0 n) j < 16384) ∧ ((cpN RAv_1 RO 0 0 n) = wO n (cpN RAv_1 RO 0 0 n) 0) ∧ (0 ≤ n) := ⟨bb_4, rfl, (by omega)⟩
  refine k_loop (σ := Nat × (Nat → Nat)) (D := (dC, dI)) (cl := classes) (A := A) (H0 := s.heap) (fun x => [(a_chk, .inr (3, [.ref a_rao, .ref a_sig, .ref a_stm, .ref a_ron, .ref a_aro, .ref a_sip, .ref a_sif])), (a_sig, .inr (1, [.ref a_kind, .ref a_width, .ref a_rword, .ref a_sop, .ref a_sa, .ref a_sb, .ref a_sc, .int (nI n)])), (a_kind, .inl (cI, 14, .inl (nF Kd))), (a_sop, .inl (cI, 14, .inl (nF Op))), (a_sa, .inl (cI, 14, .inl Aa)), (a_sb, .inl (cI, 14, .inl Ab)), (a_sc, .inl (cI, 14, .inl Ac)), (a_stm, .inr (2, [.ref a_sort, .ref a_subject, .ref a_source, .int (nI ms), .int (nI ow), .ref a_elseSeen])), (a_sort, .inl (cI, 20, .inl (nF So))), (a_subject, .inl (cI, 20, .inl (nF Su))), (a_source, .inl (cI, 20, .inl (nF Sr))), (a_rao, .inl (cI, 14, .inl (nF RAv_1))), (a_ron, .inl (cI, 14, .inl (nF x.2))), (a_aro, .inl (cI, 5, .inl (nF ARv_2)))]) (fun x => [(1, .int (nI x.1)), (0, .ref a_chk)]) (fun x => (∀ j, x.2 j < 16384) ∧ (x.2 = wO n (cpN RAv_1 RO 0 0 n) x.1) ∧ (x.1 ≤ n)) (fun x => n - x.1) ?_ (0, cpN RAv_1 RO 0 0 n) hI_5 hP hD hS (lv_sub hl [0, 1] rfl)
  rintro ⟨t, Q1⟩ hI ih_6 H locs ls hP hD hS hl
  obtain ⟨b_Q1, hq, htn⟩ : (∀ j, Q1 j < 16384) ∧ (Q1 = wO n (cpN RAv_1 RO 0 0 n) t) ∧ (t ≤ n) := hI
  have hP : va_P (dC, dI) classes [(a_chk, .inr (3, [.ref a_rao, .ref a_sig, .ref a_stm, .ref a_ron, .ref a_aro, .ref a_sip, .ref a_sif])), (a_sig, .inr (1, [.ref a_kind, .ref a_width, .ref a_rword, .ref a_sop, .ref a_sa, .ref a_sb, .ref a_sc, .int (nI n)])), (a_kind, .inl (cI, 14, .inl (nF Kd))), (a_sop, .inl (cI, 14, .inl (nF Op))), (a_sa, .inl (cI, 14, .inl Aa)), (a_sb, .inl (cI, 14, .inl Ab)), (a_sc, .inl (cI, 14, .inl Ac)), (a_stm, .inr (2, [.ref a_sort, .ref a_subject, .ref a_source, .int (nI ms), .int (nI ow), .ref a_elseSeen])), (a_sort, .inl (cI, 20, .inl (nF So))), (a_subject, .inl (cI, 20, .inl (nF Su))), (a_source, .inl (cI, 20, .inl (nF Sr))), (a_rao, .inl (cI, 14, .inl (nF RAv_1))), (a_ron, .inl (cI, 14, .inl (nF Q1))), (a_aro, .inl (cI, 5, .inl (nF ARv_2)))] H := hP
  have hD : va_D A [(a_chk, .inr (3, [.ref a_rao, .ref a_sig, .ref a_stm, .ref a_ron, .ref a_aro, .ref a_sip, .ref a_sif])), (a_sig, .inr (1, [.ref a_kind, .ref a_width, .ref a_rword, .ref a_sop, .ref a_sa, .ref a_sb, .ref a_sc, .int (nI n)])), (a_kind, .inl (cI, 14, .inl (nF Kd))), (a_sop, .inl (cI, 14, .inl (nF Op))), (a_sa, .inl (cI, 14, .inl Aa)), (a_sb, .inl (cI, 14, .inl Ab)), (a_sc, .inl (cI, 14, .inl Ac)), (a_stm, .inr (2, [.ref a_sort, .ref a_subject, .ref a_source, .int (nI ms), .int (nI ow), .ref a_elseSeen])), (a_sort, .inl (cI, 20, .inl (nF So))), (a_subject, .inl (cI, 20, .inl (nF Su))), (a_source, .inl (cI, 20, .inl (nF Sr))), (a_rao, .inl (cI, 14, .inl (nF RAv_1))), (a_ron, .inl (cI, 14, .inl (nF Q1))), (a_aro, .inl (cI, 5, .inl (nF ARv_2)))] := hD
  have hl : lv_has ls 3 [(1, .int (nI t)), (0, .ref a_chk)] := hl
  refine lv_iload_n hx hb d_Chk_leastInLoop_26 rfl (lv_at hl 0 rfl) ?_
  refine lv_aload_n hx hb d_Chk_leastInLoop_27 rfl (lv_at hl 1 rfl) ?_
  refine va_get (D := (dC, dI)) (ci := 3) (v := .ref a_sig) (C := R_Chk) (T := F_Chk) (N := 7) hx hb hts (wi i_Chk) hown hK hP 0 rfl rfl 1 (by decide) (hts _ (mt 149 rfl rfl)) (fun _ h9 => h9) rfl d_Chk_leastInLoop_28 ?_
  refine va_get (D := (dC, dI)) (ci := 1) (v := .int (nI n)) (C := R_Sig) (T := F_Sig) (N := 8) hx hb hts (wi i_Sig) hown hK hP 1 rfl rfl 7 (by decide) (hts _ (mt 84 rfl rfl)) (fun _ h9 => h9) rfl d_Chk_leastInLoop_31 ?_
  refine lv_icmp_ge (tgt := 91) hx hb d_Chk_leastInLoop_34 (by decide) (fun c34 => ?_) (fun c34 => ?_)
  · skip
    have c34 : n ≤ t := (nI_leI (by omega) (by omega)).mp c34
    obtain rfl : n = t := by omega
    refine lv_iconst (v := nI 0) hx hb d_Chk_leastInLoop_91 rfl ?_
    refine lv_istore_n (lv' := [(1, .int (nI 0)), (0, .ref a_chk)]) hx hb d_Chk_leastInLoop_92 rfl hl (by decide) rfl (fun ls hl => ?_)
    have hI_7 : (∀ z, z < 0 → ¬ (Q1 z / 2 ^ z % 2 = 1)) ∧ (0 ≤ n) := ⟨(fun z h => absurd h (by omega)), (by omega)⟩
    refine k_loop (σ := Nat) (D := (dC, dI)) (cl := classes) (A := A) (H0 := s.heap) (fun x => [(a_chk, .inr (3, [.ref a_rao, .ref a_sig, .ref a_stm, .ref a_ron, .ref a_aro, .ref a_sip, .ref a_sif])), (a_sig, .inr (1, [.ref a_kind, .ref a_width, .ref a_rword, .ref a_sop, .ref a_sa, .ref a_sb, .ref a_sc, .int (nI n)])), (a_kind, .inl (cI, 14, .inl (nF Kd))), (a_sop, .inl (cI, 14, .inl (nF Op))), (a_sa, .inl (cI, 14, .inl Aa)), (a_sb, .inl (cI, 14, .inl Ab)), (a_sc, .inl (cI, 14, .inl Ac)), (a_stm, .inr (2, [.ref a_sort, .ref a_subject, .ref a_source, .int (nI ms), .int (nI ow), .ref a_elseSeen])), (a_sort, .inl (cI, 20, .inl (nF So))), (a_subject, .inl (cI, 20, .inl (nF Su))), (a_source, .inl (cI, 20, .inl (nF Sr))), (a_rao, .inl (cI, 14, .inl (nF RAv_1))), (a_ron, .inl (cI, 14, .inl (nF Q1))), (a_aro, .inl (cI, 5, .inl (nF ARv_2)))]) (fun x => [(1, .int (nI x)), (0, .ref a_chk)]) (fun x => (∀ z, z < x → ¬ (Q1 z / 2 ^ z % 2 = 1)) ∧ (x ≤ n)) (fun x => n - x) ?_ (0) hI_7 hP hD hS (lv_sub hl [0, 1] rfl)
    intro i hI ih_8 H locs ls hP hD hS hl
    obtain ⟨hi, hin⟩ : (∀ z, z < i → ¬ (Q1 z / 2 ^ z % 2 = 1)) ∧ (i ≤ n) := hI
    have hP : va_P (dC, dI) classes [(a_chk, .inr (3, [.ref a_rao, .ref a_sig, .ref a_stm, .ref a_ron, .ref a_aro, .ref a_sip, .ref a_sif])), (a_sig, .inr (1, [.ref a_kind, .ref a_width, .ref a_rword, .ref a_sop, .ref a_sa, .ref a_sb, .ref a_sc, .int (nI n)])), (a_kind, .inl (cI, 14, .inl (nF Kd))), (a_sop, .inl (cI, 14, .inl (nF Op))), (a_sa, .inl (cI, 14, .inl Aa)), (a_sb, .inl (cI, 14, .inl Ab)), (a_sc, .inl (cI, 14, .inl Ac)), (a_stm, .inr (2, [.ref a_sort, .ref a_subject, .ref a_source, .int (nI ms), .int (nI ow), .ref a_elseSeen])), (a_sort, .inl (cI, 20, .inl (nF So))), (a_subject, .inl (cI, 20, .inl (nF Su))), (a_source, .inl (cI, 20, .inl (nF Sr))), (a_rao, .inl (cI, 14, .inl (nF RAv_1))), (a_ron, .inl (cI, 14, .inl (nF Q1))), (a_aro, .inl (cI, 5, .inl (nF ARv_2)))] H := hP
    have hD : va_D A [(a_chk, .inr (3, [.ref a_rao, .ref a_sig, .ref a_stm, .ref a_ron, .ref a_aro, .ref a_sip, .ref a_sif])), (a_sig, .inr (1, [.ref a_kind, .ref a_width, .ref a_rword, .ref a_sop, .ref a_sa, .ref a_sb, .ref a_sc, .int (nI n)])), (a_kind, .inl (cI, 14, .inl (nF Kd))), (a_sop, .inl (cI, 14, .inl (nF Op))), (a_sa, .inl (cI, 14, .inl Aa)), (a_sb, .inl (cI, 14, .inl Ab)), (a_sc, .inl (cI, 14, .inl Ac)), (a_stm, .inr (2, [.ref a_sort, .ref a_subject, .ref a_source, .int (nI ms), .int (nI ow), .ref a_elseSeen])), (a_sort, .inl (cI, 20, .inl (nF So))), (a_subject, .inl (cI, 20, .inl (nF Su))), (a_source, .inl (cI, 20, .inl (nF Sr))), (a_rao, .inl (cI, 14, .inl (nF RAv_1))), (a_ron, .inl (cI, 14, .inl (nF Q1))), (a_aro, .inl (cI, 5, .inl (nF ARv_2)))] := hD
    have hl : lv_has ls 3 [(1, .int (nI i)), (0, .ref a_chk)] := hl
    refine lv_iload_n hx hb d_Chk_leastInLoop_93 rfl (lv_at hl 0 rfl) ?_
    refine lv_aload_n hx hb d_Chk_leastInLoop_94 rfl (lv_at hl 1 rfl) ?_
    refine va_get (D := (dC, dI)) (ci := 3) (v := .ref a_sig) (C := R_Chk) (T := F_Chk) (N := 7) hx hb hts (wi i_Chk) hown hK hP 0 rfl rfl 1 (by decide) (hts _ (mt 149 rfl rfl)) (fun _ h9 => h9) rfl d_Chk_leastInLoop_95 ?_
    refine va_get (D := (dC, dI)) (ci := 1) (v := .int (nI n)) (C := R_Sig) (T := F_Sig) (N := 8) hx hb hts (wi i_Sig) hown hK hP 1 rfl rfl 7 (by decide) (hts _ (mt 84 rfl rfl)) (fun _ h9 => h9) rfl d_Chk_leastInLoop_98 ?_
    refine lv_icmp_ge (tgt := 126) hx hb d_Chk_leastInLoop_101 (by decide) (fun c101 => ?_) (fun c101 => ?_)
    · skip
      have c101 : n ≤ i := (nI_leI (by omega) (by omega)).mp c101
      refine lv_bipush (v := (-2 : Int32)) hx hb d_Chk_leastInLoop_126 rfl ?_
      exact W.iret (v := (-2 : Int32)) hx hb hr (fun t ht hW => ⟨⟨(-2 : Int32), (RAv_1, Q1, ARv_2), rfl, ⟨b_RAv_1, b_Q1, b_ARv_2, (show ∀ z, z < n → RAv_1 z = raM (raB Kd Op Aa Ab Ac) Kd So Su Sr ms z from hr_1), (show ∃ Bz, (∀ z, z < n → Bz z = RAv_1 z) ∧ Lst (fun z => wO n Bz n z / 2 ^ z % 2 = 1) n (-2 : Int32) from ⟨_, hB, Or.inl ⟨rfl, fun z hz => by rw [← hq]; exact hi z (by omega)⟩⟩)⟩, by rw [ht]; exact hP, va_K.moved hW.alike hK, hD⟩, hS.F ht⟩) hS.2.2 d_Chk_leastInLoop_128
    · skip
      have c101 : ¬ (n ≤ i) := fun h => c101 ((nI_leI (by omega) (by omega)).mpr h)
      refine lv_aload_n hx hb d_Chk_leastInLoop_104 rfl (lv_at hl 1 rfl) ?_
      refine va_get (D := (dC, dI)) (ci := 3) (v := .ref a_ron) (C := R_Chk) (T := F_Chk) (N := 7) hx hb hts (wi i_Chk) hown hK hP 0 rfl rfl 3 (by decide) (hts _ (mt 151 rfl rfl)) (fun _ h9 => h9) rfl d_Chk_leastInLoop_105 ?_
      refine lv_iload_n hx hb d_Chk_leastInLoop_108 rfl (lv_at hl 0 rfl) ?_
      refine k_ild hx hb hK hP 12 0 rfl rfl (by omega) (by decide) d_Chk_leastInLoop_109 ?_
      have hb_9 := b_Q1 i
      refine lv_iload_n hx hb d_Chk_leastInLoop_110 rfl (lv_at hl 0 rfl) ?_
      refine lv_ishr hx hb d_Chk_leastInLoop_111 ?_
      refine k_top (nI_shr (by omega) (by omega)) ?_
      refine lv_iconst (v := nI 1) hx hb d_Chk_leastInLoop_112 rfl ?_
      refine lv_iand hx hb d_Chk_leastInLoop_113 ?_
      refine k_top (nI_and _ _) ?_
      refine lv_iconst (v := nI 1) hx hb d_Chk_leastInLoop_114 rfl ?_
      refine lv_icmp_ne (tgt := 120) hx hb d_Chk_leastInLoop_115 (by decide) (fun c115 => ?_) (fun c115 => ?_)
      · skip
        have c115 : ¬ ((((Q1 i) / 2 ^ i) &&& 1) = 1) := fun h => c115 ((nI_eq (by rw [and1]; omega) (by omega)).mpr h)
        refine lv_iinc (v := nI (i + 1)) (lv' := [(1, .int (nI (i + 1))), (0, .ref a_chk)]) hx hb d_Chk_leastInLoop_120 hl (k := 0) rfl (k_inc _ 1) (by decide) rfl (fun ls hl => ?_)
        refine lv_goto (tgt := 93) hx hb d_Chk_leastInLoop_123 (by decide) ?_
        have hI_10 : (∀ z, z < (i + 1) → ¬ (Q1 z / 2 ^ z % 2 = 1)) ∧ ((i + 1) ≤ n) := ⟨(fun z hz => by
      by_cases e : z = i
      · subst e; rw [and1] at c115; exact c115
      · exact hi z (by omega)), (by omega)⟩
        exact ih_8 (i + 1) hI_10 (show n - (i + 1) < n - i from by omega) _ _ _ hP hD hS (lv_sub hl [0, 1] rfl)
      · skip
        have c115 : (((Q1 i) / 2 ^ i) &&& 1) = 1 := (nI_eq (by rw [and1]; omega) (by omega)).mp c115
        refine lv_iload_n hx hb d_Chk_leastInLoop_118 rfl (lv_at hl 0 rfl) ?_
        exact W.iret (v := nI i) hx hb hr (fun t ht hW => ⟨⟨nI i, (RAv_1, Q1, ARv_2), rfl, ⟨b_RAv_1, b_Q1, b_ARv_2, (show ∀ z, z < n → RAv_1 z = raM (raB Kd Op Aa Ab Ac) Kd So Su Sr ms z from hr_1), (show ∃ Bz, (∀ z, z < n → Bz z = RAv_1 z) ∧ Lst (fun z => wO n Bz n z / 2 ^ z % 2 = 1) n (nI i) from ⟨_, hB, Or.inr ⟨i, by omega, rfl, by rw [← hq]; rw [and1] at c115; exact c115, fun z hz => by rw [← hq]; exact hi z hz⟩⟩)⟩, by rw [ht]; exact hP, va_K.moved hW.alike hK, hD⟩, hS.F ht⟩) hS.2.2 d_Chk_leastInLoop_119
  · skip
    have c34 : ¬ (n ≤ t) := fun h => c34 ((nI_leI (by omega) (by omega)).mpr h)
    refine lv_iconst (v := nI 0) hx hb d_Chk_leastInLoop_37 rfl ?_
    refine lv_istore_n (lv' := [(2, .int (nI 0)), (1, .int (nI t)), (0, .ref a_chk)]) hx hb d_Chk_leastInLoop_38 rfl hl (by decide) rfl (fun ls hl => ?_)
    have hI_11 : (∀ j, Q1 j < 16384) ∧ (Q1 = wI t Q1 0) ∧ (0 ≤ n) := ⟨b_Q1, rfl, (by omega)⟩
    refine k_loop (σ := Nat × (Nat → Nat)) (D := (dC, dI)) (cl := classes) (A := A) (H0 := s.heap) (fun x => [(a_chk, .inr (3, [.ref a_rao, .ref a_sig, .ref a_stm, .ref a_ron, .ref a_aro, .ref a_sip, .ref a_sif])), (a_sig, .inr (1, [.ref a_kind, .ref a_width, .ref a_rword, .ref a_sop, .ref a_sa, .ref a_sb, .ref a_sc, .int (nI n)])), (a_kind, .inl (cI, 14, .inl (nF Kd))), (a_sop, .inl (cI, 14, .inl (nF Op))), (a_sa, .inl (cI, 14, .inl Aa)), (a_sb, .inl (cI, 14, .inl Ab)), (a_sc, .inl (cI, 14, .inl Ac)), (a_stm, .inr (2, [.ref a_sort, .ref a_subject, .ref a_source, .int (nI ms), .int (nI ow), .ref a_elseSeen])), (a_sort, .inl (cI, 20, .inl (nF So))), (a_subject, .inl (cI, 20, .inl (nF Su))), (a_source, .inl (cI, 20, .inl (nF Sr))), (a_rao, .inl (cI, 14, .inl (nF RAv_1))), (a_ron, .inl (cI, 14, .inl (nF x.2))), (a_aro, .inl (cI, 5, .inl (nF ARv_2)))]) (fun x => [(2, .int (nI x.1)), (1, .int (nI t)), (0, .ref a_chk)]) (fun x => (∀ j, x.2 j < 16384) ∧ (x.2 = wI t Q1 x.1) ∧ (x.1 ≤ n)) (fun x => n - x.1) ?_ (0, Q1) hI_11 hP hD hS (lv_sub hl [0, 1, 2] rfl)
    rintro ⟨s1, Q2⟩ hI ih_12 H locs ls hP hD hS hl
    obtain ⟨b_Q2, hq2, hsn⟩ : (∀ j, Q2 j < 16384) ∧ (Q2 = wI t Q1 s1) ∧ (s1 ≤ n) := hI
    have hP : va_P (dC, dI) classes [(a_chk, .inr (3, [.ref a_rao, .ref a_sig, .ref a_stm, .ref a_ron, .ref a_aro, .ref a_sip, .ref a_sif])), (a_sig, .inr (1, [.ref a_kind, .ref a_width, .ref a_rword, .ref a_sop, .ref a_sa, .ref a_sb, .ref a_sc, .int (nI n)])), (a_kind, .inl (cI, 14, .inl (nF Kd))), (a_sop, .inl (cI, 14, .inl (nF Op))), (a_sa, .inl (cI, 14, .inl Aa)), (a_sb, .inl (cI, 14, .inl Ab)), (a_sc, .inl (cI, 14, .inl Ac)), (a_stm, .inr (2, [.ref a_sort, .ref a_subject, .ref a_source, .int (nI ms), .int (nI ow), .ref a_elseSeen])), (a_sort, .inl (cI, 20, .inl (nF So))), (a_subject, .inl (cI, 20, .inl (nF Su))), (a_source, .inl (cI, 20, .inl (nF Sr))), (a_rao, .inl (cI, 14, .inl (nF RAv_1))), (a_ron, .inl (cI, 14, .inl (nF Q2))), (a_aro, .inl (cI, 5, .inl (nF ARv_2)))] H := hP
    have hD : va_D A [(a_chk, .inr (3, [.ref a_rao, .ref a_sig, .ref a_stm, .ref a_ron, .ref a_aro, .ref a_sip, .ref a_sif])), (a_sig, .inr (1, [.ref a_kind, .ref a_width, .ref a_rword, .ref a_sop, .ref a_sa, .ref a_sb, .ref a_sc, .int (nI n)])), (a_kind, .inl (cI, 14, .inl (nF Kd))), (a_sop, .inl (cI, 14, .inl (nF Op))), (a_sa, .inl (cI, 14, .inl Aa)), (a_sb, .inl (cI, 14, .inl Ab)), (a_sc, .inl (cI, 14, .inl Ac)), (a_stm, .inr (2, [.ref a_sort, .ref a_subject, .ref a_source, .int (nI ms), .int (nI ow), .ref a_elseSeen])), (a_sort, .inl (cI, 20, .inl (nF So))), (a_subject, .inl (cI, 20, .inl (nF Su))), (a_source, .inl (cI, 20, .inl (nF Sr))), (a_rao, .inl (cI, 14, .inl (nF RAv_1))), (a_ron, .inl (cI, 14, .inl (nF Q2))), (a_aro, .inl (cI, 5, .inl (nF ARv_2)))] := hD
    have hl : lv_has ls 3 [(2, .int (nI s1)), (1, .int (nI t)), (0, .ref a_chk)] := hl
    refine lv_iload_n hx hb d_Chk_leastInLoop_39 rfl (lv_at hl 0 rfl) ?_
    refine lv_aload_n hx hb d_Chk_leastInLoop_40 rfl (lv_at hl 2 rfl) ?_
    refine va_get (D := (dC, dI)) (ci := 3) (v := .ref a_sig) (C := R_Chk) (T := F_Chk) (N := 7) hx hb hts (wi i_Chk) hown hK hP 0 rfl rfl 1 (by decide) (hts _ (mt 149 rfl rfl)) (fun _ h9 => h9) rfl d_Chk_leastInLoop_41 ?_
    refine va_get (D := (dC, dI)) (ci := 1) (v := .int (nI n)) (C := R_Sig) (T := F_Sig) (N := 8) hx hb hts (wi i_Sig) hown hK hP 1 rfl rfl 7 (by decide) (hts _ (mt 84 rfl rfl)) (fun _ h9 => h9) rfl d_Chk_leastInLoop_44 ?_
    refine lv_icmp_ge (tgt := 85) hx hb d_Chk_leastInLoop_47 (by decide) (fun c47 => ?_) (fun c47 => ?_)
    · skip
      have c47 : n ≤ s1 := (nI_leI (by omega) (by omega)).mp c47
      obtain rfl : n = s1 := by omega
      refine lv_iinc (v := nI (t + 1)) (lv' := [(1, .int (nI (t + 1))), (2, .int (nI n)), (0, .ref a_chk)]) hx hb d_Chk_leastInLoop_85 hl (k := 1) rfl (k_inc _ 1) (by decide) rfl (fun ls hl => ?_)
      refine lv_goto (tgt := 26) hx hb d_Chk_leastInLoop_88 (by decide) ?_
      have hI_13 : (∀ j, Q2 j < 16384) ∧ (Q2 = wO n (cpN RAv_1 RO 0 0 n) (t + 1)) ∧ ((t + 1) ≤ n) := ⟨b_Q2, (by rw [hq2, hq]; rfl), (by omega)⟩
      exact ih_6 (t + 1, Q2) hI_13 (show n - (t + 1) < n - t from by omega) _ _ _ hP hD hS (lv_sub hl [0, 2] rfl)
    · skip
      have c47 : ¬ (n ≤ s1) := fun h => c47 ((nI_leI (by omega) (by omega)).mpr h)
      refine lv_aload_n hx hb d_Chk_leastInLoop_50 rfl (lv_at hl 2 rfl) ?_
      refine va_get (D := (dC, dI)) (ci := 3) (v := .ref a_ron) (C := R_Chk) (T := F_Chk) (N := 7) hx hb hts (wi i_Chk) hown hK hP 0 rfl rfl 3 (by decide) (hts _ (mt 151 rfl rfl)) (fun _ h9 => h9) rfl d_Chk_leastInLoop_51 ?_
      refine lv_iload_n hx hb d_Chk_leastInLoop_54 rfl (lv_at hl 0 rfl) ?_
      refine k_ild hx hb hK hP 12 0 rfl rfl (by omega) (by decide) d_Chk_leastInLoop_55 ?_
      have hb_14 := b_Q2 s1
      refine lv_iload_n hx hb d_Chk_leastInLoop_56 rfl (lv_at hl 1 rfl) ?_
      refine lv_ishr hx hb d_Chk_leastInLoop_57 ?_
      refine k_top (nI_shr (by have := b_Q2 s1; omega) (by omega)) ?_
      refine lv_iconst (v := nI 1) hx hb d_Chk_leastInLoop_58 rfl ?_
      refine lv_iand hx hb d_Chk_leastInLoop_59 ?_
      refine k_top (nI_and _ _) ?_
      refine lv_iconst (v := nI 1) hx hb d_Chk_leastInLoop_60 rfl ?_
      refine lv_icmp_ne (tgt := 79) hx hb d_Chk_leastInLoop_61 (by decide) (fun c61 => ?_) (fun c61 => ?_)
      · skip
        have c61 : ¬ ((((Q2 s1) / 2 ^ t) &&& 1) = 1) := fun h => c61 ((nI_eq (by rw [and1]; omega) (by omega)).mpr h)
        refine lv_iinc (v := nI (s1 + 1)) (lv' := [(2, .int (nI (s1 + 1))), (1, .int (nI t)), (0, .ref a_chk)]) hx hb d_Chk_leastInLoop_79 hl (k := 0) rfl (k_inc _ 1) (by decide) rfl (fun ls hl => ?_)
        refine lv_goto (tgt := 39) hx hb d_Chk_leastInLoop_82 (by decide) ?_
        have hI_15 : (∀ j, Q2 j < 16384) ∧ (Q2 = wI t Q1 (s1 + 1)) ∧ ((s1 + 1) ≤ n) := ⟨b_Q2, (by rw [and1] at c61; subst hq2; exact (wI_n c61).symm), (by omega)⟩
        exact ih_12 (s1 + 1, Q2) hI_15 (show n - (s1 + 1) < n - s1 from by omega) _ _ _ hP hD hS (lv_sub hl [0, 1, 2] rfl)
      · skip
        have c61 : (((Q2 s1) / 2 ^ t) &&& 1) = 1 := (nI_eq (by rw [and1]; omega) (by omega)).mp c61
        refine lv_aload_n hx hb d_Chk_leastInLoop_64 rfl (lv_at hl 2 rfl) ?_
        refine va_get (D := (dC, dI)) (ci := 3) (v := .ref a_ron) (C := R_Chk) (T := F_Chk) (N := 7) hx hb hts (wi i_Chk) hown hK hP 0 rfl rfl 3 (by decide) (hts _ (mt 151 rfl rfl)) (fun _ h9 => h9) rfl d_Chk_leastInLoop_65 ?_
        refine lv_iload_n hx hb d_Chk_leastInLoop_68 rfl (lv_at hl 0 rfl) ?_
        refine lv_dup2_11 hx hb d_Chk_leastInLoop_69 rfl rfl ?_
        refine k_ild hx hb hK hP 12 0 rfl rfl (by omega) (by decide) d_Chk_leastInLoop_70 ?_
        have hb_16 := b_Q2 s1
        refine lv_aload_n hx hb d_Chk_leastInLoop_71 rfl (lv_at hl 2 rfl) ?_
        refine va_get (D := (dC, dI)) (ci := 3) (v := .ref a_ron) (C := R_Chk) (T := F_Chk) (N := 7) hx hb hts (wi i_Chk) hown hK hP 0 rfl rfl 3 (by decide) (hts _ (mt 151 rfl rfl)) (fun _ h9 => h9) rfl d_Chk_leastInLoop_72 ?_
        refine lv_iload_n hx hb d_Chk_leastInLoop_75 rfl (lv_at hl 1 rfl) ?_
        refine k_ild hx hb hK hP 12 0 rfl rfl (by omega) (by decide) d_Chk_leastInLoop_76 ?_
        have hb_17 := b_Q2 t
        refine lv_ior hx hb d_Chk_leastInLoop_77 ?_
        refine k_top (nI_or _ _) ?_
        refine k_ist hx hb hK hP hD hS 12 0 rfl rfl (by omega) (by decide) d_Chk_leastInLoop_78 (fun H locs hP hD hS => ?_)
        have bb_18 : ∀ j, upN Q2 s1 ((Q2 s1) ||| (Q2 t)) j < 16384 := upN_lt b_Q2 (or14 (b_Q2 _) (b_Q2 _))
        have hP : va_P (dC, dI) classes [(a_chk, .inr (3, [.ref a_rao, .ref a_sig, .ref a_stm, .ref a_ron, .ref a_aro, .ref a_sip, .ref a_sif])), (a_sig, .inr (1, [.ref a_kind, .ref a_width, .ref a_rword, .ref a_sop, .ref a_sa, .ref a_sb, .ref a_sc, .int (nI n)])), (a_kind, .inl (cI, 14, .inl (nF Kd))), (a_sop, .inl (cI, 14, .inl (nF Op))), (a_sa, .inl (cI, 14, .inl Aa)), (a_sb, .inl (cI, 14, .inl Ab)), (a_sc, .inl (cI, 14, .inl Ac)), (a_stm, .inr (2, [.ref a_sort, .ref a_subject, .ref a_source, .int (nI ms), .int (nI ow), .ref a_elseSeen])), (a_sort, .inl (cI, 20, .inl (nF So))), (a_subject, .inl (cI, 20, .inl (nF Su))), (a_source, .inl (cI, 20, .inl (nF Sr))), (a_rao, .inl (cI, 14, .inl (nF RAv_1))), (a_ron, .inl (cI, 14, .inl (nF (upN Q2 s1 ((Q2 s1) ||| (Q2 t)))))), (a_aro, .inl (cI, 5, .inl (nF ARv_2)))] H := hP
        have hD : va_D A [(a_chk, .inr (3, [.ref a_rao, .ref a_sig, .ref a_stm, .ref a_ron, .ref a_aro, .ref a_sip, .ref a_sif])), (a_sig, .inr (1, [.ref a_kind, .ref a_width, .ref a_rword, .ref a_sop, .ref a_sa, .ref a_sb, .ref a_sc, .int (nI n)])), (a_kind, .inl (cI, 14, .inl (nF Kd))), (a_sop, .inl (cI, 14, .inl (nF Op))), (a_sa, .inl (cI, 14, .inl Aa)), (a_sb, .inl (cI, 14, .inl Ab)), (a_sc, .inl (cI, 14, .inl Ac)), (a_stm, .inr (2, [.ref a_sort, .ref a_subject, .ref a_source, .int (nI ms), .int (nI ow), .ref a_elseSeen])), (a_sort, .inl (cI, 20, .inl (nF So))), (a_subject, .inl (cI, 20, .inl (nF Su))), (a_source, .inl (cI, 20, .inl (nF Sr))), (a_rao, .inl (cI, 14, .inl (nF RAv_1))), (a_ron, .inl (cI, 14, .inl (nF (upN Q2 s1 ((Q2 s1) ||| (Q2 t)))))), (a_aro, .inl (cI, 5, .inl (nF ARv_2)))] := hD
        refine lv_iinc (v := nI (s1 + 1)) (lv' := [(2, .int (nI (s1 + 1))), (1, .int (nI t)), (0, .ref a_chk)]) hx hb d_Chk_leastInLoop_79 hl (k := 0) rfl (k_inc _ 1) (by decide) rfl (fun ls hl => ?_)
        refine lv_goto (tgt := 39) hx hb d_Chk_leastInLoop_82 (by decide) ?_
        have hI_19 : (∀ j, (upN Q2 s1 ((Q2 s1) ||| (Q2 t))) j < 16384) ∧ ((upN Q2 s1 ((Q2 s1) ||| (Q2 t))) = wI t Q1 (s1 + 1)) ∧ ((s1 + 1) ≤ n) := ⟨bb_18, (by rw [and1] at c61; subst hq2; exact (wI_y c61).symm), (by omega)⟩
        exact ih_12 (s1 + 1, upN Q2 s1 ((Q2 s1) ||| (Q2 t))) hI_19 (show n - (s1 + 1) < n - s1 from by omega) _ _ _ hP hD hS (lv_sub hl [0, 1, 2] rfl)
