abbrev b_Desk_signal : ByteArray := prog_1_method_2_code
def y_Desk_signal : MethodName := ⟨"CircuitDesk", "signal", "(III)I"⟩
def w_Desk_signal : List Cond := .code y_Desk_signal b_Desk_signal 4 (some .int) :: lw_gw
theorem d_Desk_signal_0 : decode b_Desk_signal 0 = .ok (.iload_n 1, 1) := by decide +kernel
theorem d_Desk_signal_1 : decode b_Desk_signal 1 = .ok (.ifCond .lt 19, 3) := by decide +kernel
theorem d_Desk_signal_4 : decode b_Desk_signal 4 = .ok (.iload_n 1, 1) := by decide +kernel
theorem d_Desk_signal_5 : decode b_Desk_signal 5 = .ok (.iconst 2, 1) := by decide +kernel
theorem d_Desk_signal_6 : decode b_Desk_signal 6 = .ok (.if_icmp .gt 14, 3) := by decide +kernel
theorem d_Desk_signal_9 : decode b_Desk_signal 9 = .ok (.iload_n 2, 1) := by decide +kernel
theorem d_Desk_signal_10 : decode b_Desk_signal 10 = .ok (.iconst 1, 1) := by decide +kernel
theorem d_Desk_signal_11 : decode b_Desk_signal 11 = .ok (.if_icmp .lt 9, 3) := by decide +kernel
theorem d_Desk_signal_14 : decode b_Desk_signal 14 = .ok (.iload_n 2, 1) := by decide +kernel
theorem d_Desk_signal_15 : decode b_Desk_signal 15 = .ok (.bipush 8, 2) := by decide +kernel
theorem d_Desk_signal_17 : decode b_Desk_signal 17 = .ok (.if_icmp .le 5, 3) := by decide +kernel
theorem d_Desk_signal_20 : decode b_Desk_signal 20 = .ok (.iconst (-1), 1) := by decide +kernel
theorem d_Desk_signal_21 : decode b_Desk_signal 21 = .ok (.ireturn, 1) := by decide +kernel
theorem d_Desk_signal_22 : decode b_Desk_signal 22 = .ok (.iload_n 1, 1) := by decide +kernel
theorem d_Desk_signal_23 : decode b_Desk_signal 23 = .ok (.iconst 2, 1) := by decide +kernel
theorem d_Desk_signal_24 : decode b_Desk_signal 24 = .ok (.if_icmp .ne 16, 3) := by decide +kernel
theorem d_Desk_signal_27 : decode b_Desk_signal 27 = .ok (.iload_n 3, 1) := by decide +kernel
theorem d_Desk_signal_28 : decode b_Desk_signal 28 = .ok (.ifCond .lt 10, 3) := by decide +kernel
theorem d_Desk_signal_31 : decode b_Desk_signal 31 = .ok (.iload_n 3, 1) := by decide +kernel
theorem d_Desk_signal_32 : decode b_Desk_signal 32 = .ok (.sipush 255, 3) := by decide +kernel
theorem d_Desk_signal_35 : decode b_Desk_signal 35 = .ok (.if_icmp .le 5, 3) := by decide +kernel
theorem d_Desk_signal_38 : decode b_Desk_signal 38 = .ok (.iconst (-1), 1) := by decide +kernel
theorem d_Desk_signal_39 : decode b_Desk_signal 39 = .ok (.ireturn, 1) := by decide +kernel
theorem d_Desk_signal_40 : decode b_Desk_signal 40 = .ok (.aload_n 0, 1) := by decide +kernel
theorem d_Desk_signal_41 : decode b_Desk_signal 41 = .ok (.getfield 10, 3) := by decide +kernel
theorem d_Desk_signal_44 : decode b_Desk_signal 44 = .ok (.getfield 56, 3) := by decide +kernel
theorem d_Desk_signal_47 : decode b_Desk_signal 47 = .ok (.bipush 14, 2) := by decide +kernel
theorem d_Desk_signal_49 : decode b_Desk_signal 49 = .ok (.if_icmp .ne 6, 3) := by decide +kernel
theorem d_Desk_signal_52 : decode b_Desk_signal 52 = .ok (.bipush (-3), 2) := by decide +kernel
theorem d_Desk_signal_54 : decode b_Desk_signal 54 = .ok (.ireturn, 1) := by decide +kernel
theorem d_Desk_signal_55 : decode b_Desk_signal 55 = .ok (.aload_n 0, 1) := by decide +kernel
theorem d_Desk_signal_56 : decode b_Desk_signal 56 = .ok (.iconst 0, 1) := by decide +kernel
theorem d_Desk_signal_57 : decode b_Desk_signal 57 = .ok (.putfield 59, 3) := by decide +kernel
theorem d_Desk_signal_60 : decode b_Desk_signal 60 = .ok (.aload_n 0, 1) := by decide +kernel
theorem d_Desk_signal_61 : decode b_Desk_signal 61 = .ok (.getfield 10, 3) := by decide +kernel
theorem d_Desk_signal_64 : decode b_Desk_signal 64 = .ok (.iload_n 1, 1) := by decide +kernel
theorem d_Desk_signal_65 : decode b_Desk_signal 65 = .ok (.iload_n 2, 1) := by decide +kernel
theorem d_Desk_signal_66 : decode b_Desk_signal 66 = .ok (.iload_n 3, 1) := by decide +kernel
theorem d_Desk_signal_67 : decode b_Desk_signal 67 = .ok (.invokevirtual 63, 3) := by decide +kernel
theorem d_Desk_signal_70 : decode b_Desk_signal 70 = .ok (.ireturn, 1) := by decide +kernel
abbrev b_Desk_node : ByteArray := prog_1_method_3_code
def y_Desk_node : MethodName := ⟨"CircuitDesk", "node", "(IIII)I"⟩
def w_Desk_node : List Cond := .code y_Desk_node b_Desk_node 7 (some .int) :: lw_gw
theorem d_Desk_node_0 : decode b_Desk_node 0 = .ok (.iload_n 1, 1) := by decide +kernel
theorem d_Desk_node_1 : decode b_Desk_node 1 = .ok (.ifCond .lt 28, 3) := by decide +kernel
theorem d_Desk_node_4 : decode b_Desk_node 4 = .ok (.iload_n 1, 1) := by decide +kernel
theorem d_Desk_node_5 : decode b_Desk_node 5 = .ok (.bipush 11, 2) := by decide +kernel
theorem d_Desk_node_7 : decode b_Desk_node 7 = .ok (.if_icmp .gt 22, 3) := by decide +kernel
theorem d_Desk_node_10 : decode b_Desk_node 10 = .ok (.aload_n 0, 1) := by decide +kernel
theorem d_Desk_node_11 : decode b_Desk_node 11 = .ok (.getfield 10, 3) := by decide +kernel
theorem d_Desk_node_14 : decode b_Desk_node 14 = .ok (.getstatic 67, 3) := by decide +kernel
theorem d_Desk_node_17 : decode b_Desk_node 17 = .ok (.iload_n 1, 1) := by decide +kernel
theorem d_Desk_node_18 : decode b_Desk_node 18 = .ok (.iaload, 1) := by decide +kernel
theorem d_Desk_node_19 : decode b_Desk_node 19 = .ok (.iload_n 2, 1) := by decide +kernel
theorem d_Desk_node_20 : decode b_Desk_node 20 = .ok (.iload_n 3, 1) := by decide +kernel
theorem d_Desk_node_21 : decode b_Desk_node 21 = .ok (.iload 4, 2) := by decide +kernel
theorem d_Desk_node_23 : decode b_Desk_node 23 = .ok (.invokevirtual 70, 3) := by decide +kernel
theorem d_Desk_node_26 : decode b_Desk_node 26 = .ok (.ifCond .ne 5, 3) := by decide +kernel
theorem d_Desk_node_29 : decode b_Desk_node 29 = .ok (.iconst (-1), 1) := by decide +kernel
theorem d_Desk_node_30 : decode b_Desk_node 30 = .ok (.ireturn, 1) := by decide +kernel
theorem d_Desk_node_31 : decode b_Desk_node 31 = .ok (.aload_n 0, 1) := by decide +kernel
theorem d_Desk_node_32 : decode b_Desk_node 32 = .ok (.getfield 10, 3) := by decide +kernel
theorem d_Desk_node_35 : decode b_Desk_node 35 = .ok (.iload_n 1, 1) := by decide +kernel
theorem d_Desk_node_36 : decode b_Desk_node 36 = .ok (.iload_n 2, 1) := by decide +kernel
theorem d_Desk_node_37 : decode b_Desk_node 37 = .ok (.iload_n 3, 1) := by decide +kernel
theorem d_Desk_node_38 : decode b_Desk_node 38 = .ok (.iload 4, 2) := by decide +kernel
theorem d_Desk_node_40 : decode b_Desk_node 40 = .ok (.invokevirtual 74, 3) := by decide +kernel
theorem d_Desk_node_43 : decode b_Desk_node 43 = .ok (.istore 5, 2) := by decide +kernel
theorem d_Desk_node_45 : decode b_Desk_node 45 = .ok (.iload 5, 2) := by decide +kernel
theorem d_Desk_node_47 : decode b_Desk_node 47 = .ok (.iconst 1, 1) := by decide +kernel
theorem d_Desk_node_48 : decode b_Desk_node 48 = .ok (.if_icmp .lt 10, 3) := by decide +kernel
theorem d_Desk_node_51 : decode b_Desk_node 51 = .ok (.iload 5, 2) := by decide +kernel
theorem d_Desk_node_53 : decode b_Desk_node 53 = .ok (.bipush 8, 2) := by decide +kernel
theorem d_Desk_node_55 : decode b_Desk_node 55 = .ok (.if_icmp .le 5, 3) := by decide +kernel
theorem d_Desk_node_58 : decode b_Desk_node 58 = .ok (.iconst (-1), 1) := by decide +kernel
theorem d_Desk_node_59 : decode b_Desk_node 59 = .ok (.ireturn, 1) := by decide +kernel
theorem d_Desk_node_60 : decode b_Desk_node 60 = .ok (.aload_n 0, 1) := by decide +kernel
theorem d_Desk_node_61 : decode b_Desk_node 61 = .ok (.getfield 10, 3) := by decide +kernel
theorem d_Desk_node_64 : decode b_Desk_node 64 = .ok (.getfield 56, 3) := by decide +kernel
theorem d_Desk_node_67 : decode b_Desk_node 67 = .ok (.bipush 14, 2) := by decide +kernel
theorem d_Desk_node_69 : decode b_Desk_node 69 = .ok (.if_icmp .ne 6, 3) := by decide +kernel
theorem d_Desk_node_72 : decode b_Desk_node 72 = .ok (.bipush (-3), 2) := by decide +kernel
theorem d_Desk_node_74 : decode b_Desk_node 74 = .ok (.ireturn, 1) := by decide +kernel
theorem d_Desk_node_75 : decode b_Desk_node 75 = .ok (.aload_n 0, 1) := by decide +kernel
theorem d_Desk_node_76 : decode b_Desk_node 76 = .ok (.iconst 0, 1) := by decide +kernel
theorem d_Desk_node_77 : decode b_Desk_node 77 = .ok (.putfield 59, 3) := by decide +kernel
theorem d_Desk_node_80 : decode b_Desk_node 80 = .ok (.aload_n 0, 1) := by decide +kernel
theorem d_Desk_node_81 : decode b_Desk_node 81 = .ok (.getfield 10, 3) := by decide +kernel
theorem d_Desk_node_84 : decode b_Desk_node 84 = .ok (.iconst 3, 1) := by decide +kernel
theorem d_Desk_node_85 : decode b_Desk_node 85 = .ok (.iload 5, 2) := by decide +kernel
theorem d_Desk_node_87 : decode b_Desk_node 87 = .ok (.iconst 0, 1) := by decide +kernel
theorem d_Desk_node_88 : decode b_Desk_node 88 = .ok (.invokevirtual 63, 3) := by decide +kernel
theorem d_Desk_node_91 : decode b_Desk_node 91 = .ok (.istore 6, 2) := by decide +kernel
theorem d_Desk_node_93 : decode b_Desk_node 93 = .ok (.aload_n 0, 1) := by decide +kernel
theorem d_Desk_node_94 : decode b_Desk_node 94 = .ok (.getfield 10, 3) := by decide +kernel
theorem d_Desk_node_97 : decode b_Desk_node 97 = .ok (.iload 6, 2) := by decide +kernel
theorem d_Desk_node_99 : decode b_Desk_node 99 = .ok (.iload_n 1, 1) := by decide +kernel
theorem d_Desk_node_100 : decode b_Desk_node 100 = .ok (.iload_n 2, 1) := by decide +kernel
theorem d_Desk_node_101 : decode b_Desk_node 101 = .ok (.iload_n 3, 1) := by decide +kernel
theorem d_Desk_node_102 : decode b_Desk_node 102 = .ok (.iload 4, 2) := by decide +kernel
theorem d_Desk_node_104 : decode b_Desk_node 104 = .ok (.invokevirtual 78, 3) := by decide +kernel
theorem d_Desk_node_107 : decode b_Desk_node 107 = .ok (.iload 6, 2) := by decide +kernel
theorem d_Desk_node_109 : decode b_Desk_node 109 = .ok (.ireturn, 1) := by decide +kernel
set_option maxHeartbeats 4000000 in
set_option maxRecDepth 100000 in
theorem c_Desk_signal (l : Launch) (dC : Nat → ClassId) (dI : Nat → Nat → Nat) (cI cZ : ClassId) (a_desk a_sig a_stm a_chk a_net a_mkr a_nwords a_kind a_width a_rword a_sop a_sa a_sb a_sc : Nat) (tt sz : Nat) (rd : Nat) (fw : Int32) (ck : Nat) (n : Nat) (Kd : Nat → Nat) (Wd : Nat → Nat) (Rw : Nat → Nat) (x : Int32) (w0 : Int32) (y : Int32) (b_rd : rd ≤ 1) (b_n : n ≤ 14) (b_Kd : ∀ j, Kd j < 4) (b_Wd : ∀ j, Wd j < 9) (b_Rw : ∀ j, Rw j < 256) : Met l y_Desk_signal w_Desk_signal ({ frames := 2, cells := 0, slots := 0, locals := 44 }) (va_Pc [.ref a_desk, .int x, .int w0, .int y] (PW (dC, dI) classes [(cI, .int), (cZ, .boolean)] tt [(a_desk, .inr (5, [.ref a_sig, .ref a_stm, .ref a_chk, .ref a_net, .ref a_mkr, .ref a_nwords, .int (nI rd), .int fw, .int (nI ck)])), (a_sig, .inr (1, [.ref a_kind, .ref a_width, .ref a_rword, .ref a_sop, .ref a_sa, .ref a_sb, .ref a_sc, .int (nI n)])), (a_kind, .inl (cI, 14, .inl (nF Kd))), (a_width, .inl (cI, 14, .inl (nF Wd))), (a_rword, .inl (cI, 14, .inl (nF Rw)))] sz)) (va_Qi (fun (r : Int32) (u : Nat × (Nat → Nat) × (Nat → Nat) × (Nat → Nat) × Nat) => (u.1 ≤ 14) ∧ (∀ j, u.2.1 j < 4) ∧ (∀ j, u.2.2.1 j < 9) ∧ (∀ j, u.2.2.2.1 j < 256) ∧ (u.2.2.2.2 ≤ 1) ∧ ((¬ sgOK x w0 y ∧ (-1) = r ∧ n = u.1 ∧ Kd = u.2.1 ∧ Wd = u.2.2.1 ∧ Rw = u.2.2.2.1 ∧ rd = u.2.2.2.2) ∨ (sgOK x w0 y ∧ n = 14 ∧ (-3) = r ∧ n = u.1 ∧ Kd = u.2.1 ∧ Wd = u.2.2.1 ∧ Rw = u.2.2.2.1 ∧ rd = u.2.2.2.2) ∨ (sgOK x w0 y ∧ n < 14 ∧ nI n = r ∧ n + 1 = u.1 ∧ upN Kd n (ix x) = u.2.1 ∧ upN Wd n (ix w0) = u.2.2.1 ∧ upN Rw n (lowb y (ix w0)) = u.2.2.2.1 ∧ 0 = u.2.2.2.2))) (AT (dC, dI) classes [(cI, .int), (cZ, .boolean)] (va_A [(a_desk, .inr (5, [.ref a_sig, .ref a_stm, .ref a_chk, .ref a_net, .ref a_mkr, .ref a_nwords, .int (nI rd), .int fw, .int (nI ck)])), (a_sig, .inr (1, [.ref a_kind, .ref a_width, .ref a_rword, .ref a_sop, .ref a_sa, .ref a_sb, .ref a_sc, .int (nI n)])), (a_kind, .inl (cI, 14, .inl (nF Kd))), (a_width, .inl (cI, 14, .inl (nF Wd))), (a_rword, .inl (cI, 14, .inl (nF Rw)))] sz) (fun (u : Nat × (Nat → Nat) × (Nat → Nat) × (Nat → Nat) × Nat) => [(a_desk, .inr (5, [.ref a_sig, .ref a_stm, .ref a_chk, .ref a_net, .ref a_mkr, .ref a_nwords, .int (nI u.2.2.2.2), .int fw, .int (nI ck)])), (a_sig, .inr (1, [.ref a_kind, .ref a_width, .ref a_rword, .ref a_sop, .ref a_sa, .ref a_sb, .ref a_sc, .int (nI u.1)])), (a_kind, .inl (cI, 14, .inl (nF u.2.1))), (a_width, .inl (cI, 14, .inl (nF u.2.2.1))), (a_rword, .inl (cI, 14, .inl (nF u.2.2.2.1)))])) (va_A [(a_desk, .inr (5, [.ref a_sig, .ref a_stm, .ref a_chk, .ref a_net, .ref a_mkr, .ref a_nwords, .int (nI rd), .int fw, .int (nI ck)])), (a_sig, .inr (1, [.ref a_kind, .ref a_width, .ref a_rword, .ref a_sop, .ref a_sa, .ref a_sb, .ref a_sc, .int (nI n)])), (a_kind, .inl (cI, 14, .inl (nF Kd))), (a_width, .inl (cI, 14, .inl (nF Wd))), (a_rword, .inl (cI, 14, .inl (nF Rw)))] sz)) 0 0 (va_A [(a_desk, .inr (5, [.ref a_sig, .ref a_stm, .ref a_chk, .ref a_net, .ref a_mkr, .ref a_nwords, .int (nI rd), .int fw, .int (nI ck)])), (a_sig, .inr (1, [.ref a_kind, .ref a_width, .ref a_rword, .ref a_sop, .ref a_sa, .ref a_sb, .ref a_sc, .int (nI n)])), (a_kind, .inl (cI, 14, .inl (nF Kd))), (a_width, .inl (cI, 14, .inl (nF Wd))), (a_rword, .inl (cI, 14, .inl (nF Rw)))] sz) := by
  refine Met.ofW (cc := b_Desk_signal) (maxL := 4) (ret := (some .int)) (by decide) rfl ?_
  intro p e s m args below meth c s₁ B hml hv
  obtain ⟨rfl, hsz, hP, hK, hD0, hE⟩ := hv
  have hx := B.exec
  have hb := B.bytes
  have hr := B.returns
  have hts := atoms_spec (ws := w_Desk_signal) B.pre
  have hown : s.vm.findClass R_Desk = some m.cls := findClass_of_methodNamed B.named
  have hlocks := B.notSynchronized
  subst hsz
  have hD := hD0.self (sz := s.heap.size)
  generalize hAe : va_A [(a_desk, .inr (5, [.ref a_sig, .ref a_stm, .ref a_chk, .ref a_net, .ref a_mkr, .ref a_nwords, .int (nI rd), .int fw, .int (nI ck)])), (a_sig, .inr (1, [.ref a_kind, .ref a_width, .ref a_rword, .ref a_sop, .ref a_sa, .ref a_sb, .ref a_sc, .int (nI n)])), (a_kind, .inl (cI, 14, .inl (nF Kd))), (a_width, .inl (cI, 14, .inl (nF Wd))), (a_rword, .inl (cI, 14, .inl (nF Rw)))] s.heap.size = A at hD hE ⊢
  have hA : ∀ q : Nat, s.heap.size ≤ q → A q := fun q h => by rw [← hAe]; exact Or.inr h
  have hS : va_S A s.heap s.heap [] := va_S.rf
  have hP : va_P (dC, dI) classes [(a_desk, .inr (5, [.ref a_sig, .ref a_stm, .ref a_chk, .ref a_net, .ref a_mkr, .ref a_nwords, .int (nI rd), .int fw, .int (nI ck)])), (a_sig, .inr (1, [.ref a_kind, .ref a_width, .ref a_rword, .ref a_sop, .ref a_sa, .ref a_sb, .ref a_sc, .int (nI n)])), (a_kind, .inl (cI, 14, .inl (nF Kd))), (a_width, .inl (cI, 14, .inl (nF Wd))), (a_rword, .inl (cI, 14, .inl (nF Rw)))] s.heap := hP
  have hl := lv_entry ([.ref a_desk, .int x, .int w0, .int y]) (n := 4) (Nat.le_of_ble_eq_true rfl)
  rw [lg_entry_eq]
  generalize (lg_sl ([.ref a_desk, .int x, .int w0, .int y]) ++ List.replicate (4 - (lg_sl ([.ref a_desk, .int x, .int w0, .int y])).length) Slot.unset).toArray = ls at hl ⊢
  have hl : lv_has ls 4 [(0, .ref a_desk), (1, .int x), (2, .int w0), (3, .int y)] := hl
  refine lv_iload_n hx hb d_Desk_signal_0 rfl (lv_at hl 1 rfl) ?_
  refine lv_if_lt (tgt := 20) hx hb d_Desk_signal_1 (by decide) (fun c1 => ?_) (fun c1 => ?_)
  · skip
    have c1 : x.toInt < 0 := (ri_lt rfl rfl).mp c1
    have hq : ¬ sgOK x w0 y := by unfold sgOK; omega
    refine lv_iconst (v := (-1 : Int32)) hx hb d_Desk_signal_20 rfl ?_
    exact W.iret (v := (-1 : Int32)) hx hb hr (fun t ht hW => ⟨⟨(-1 : Int32), (n, Kd, Wd, Rw, rd), rfl, ⟨(show n ≤ 14 from by omega), b_Kd, b_Wd, b_Rw, (show rd ≤ 1 from by omega), (show (¬ sgOK x w0 y ∧ (-1) = (-1 : Int32) ∧ n = n ∧ Kd = Kd ∧ Wd = Wd ∧ Rw = Rw ∧ rd = rd) ∨ (sgOK x w0 y ∧ n = 14 ∧ (-3) = (-1 : Int32) ∧ n = n ∧ Kd = Kd ∧ Wd = Wd ∧ Rw = Rw ∧ rd = rd) ∨ (sgOK x w0 y ∧ n < 14 ∧ nI n = (-1 : Int32) ∧ n + 1 = n ∧ upN Kd n (ix x) = Kd ∧ upN Wd n (ix w0) = Wd ∧ upN Rw n (lowb y (ix w0)) = Rw ∧ 0 = rd) from Or.inl ⟨hq, rfl, rfl, rfl, rfl, rfl, rfl⟩)⟩, by rw [ht]; exact hP, va_K.moved hW.alike hK, hD⟩, hS.F ht⟩) hS.2.2 d_Desk_signal_21
  · skip
    have c1 : ¬ (x.toInt < 0) := fun h => c1 ((ri_lt rfl rfl).mpr h)
    refine lv_iload_n hx hb d_Desk_signal_4 rfl (lv_at hl 1 rfl) ?_
    refine lv_iconst (v := nI 2) hx hb d_Desk_signal_5 rfl ?_
    refine lv_icmp_gt (tgt := 20) hx hb d_Desk_signal_6 (by decide) (fun c6 => ?_) (fun c6 => ?_)
    · skip
      have c6 : ((2 : Nat) : Int) < x.toInt := (ri_lt (nI_toInt (show _ < 2 ^ 31 by omega)) rfl).mp c6
      have hq : ¬ sgOK x w0 y := by unfold sgOK; omega
      refine lv_iconst (v := (-1 : Int32)) hx hb d_Desk_signal_20 rfl ?_
      exact W.iret (v := (-1 : Int32)) hx hb hr (fun t ht hW => ⟨⟨(-1 : Int32), (n, Kd, Wd, Rw, rd), rfl, ⟨(show n ≤ 14 from by omega), b_Kd, b_Wd, b_Rw, (show rd ≤ 1 from by omega), (show (¬ sgOK x w0 y ∧ (-1) = (-1 : Int32) ∧ n = n ∧ Kd = Kd ∧ Wd = Wd ∧ Rw = Rw ∧ rd = rd) ∨ (sgOK x w0 y ∧ n = 14 ∧ (-3) = (-1 : Int32) ∧ n = n ∧ Kd = Kd ∧ Wd = Wd ∧ Rw = Rw ∧ rd = rd) ∨ (sgOK x w0 y ∧ n < 14 ∧ nI n = (-1 : Int32) ∧ n + 1 = n ∧ upN Kd n (ix x) = Kd ∧ upN Wd n (ix w0) = Wd ∧ upN Rw n (lowb y (ix w0)) = Rw ∧ 0 = rd) from Or.inl ⟨hq, rfl, rfl, rfl, rfl, rfl, rfl⟩)⟩, by rw [ht]; exact hP, va_K.moved hW.alike hK, hD⟩, hS.F ht⟩) hS.2.2 d_Desk_signal_21
    · skip
      have c6 : ¬ (((2 : Nat) : Int) < x.toInt) := fun h => c6 ((ri_lt (nI_toInt (show _ < 2 ^ 31 by omega)) rfl).mpr h)
      refine lv_iload_n hx hb d_Desk_signal_9 rfl (lv_at hl 2 rfl) ?_
      refine lv_iconst (v := nI 1) hx hb d_Desk_signal_10 rfl ?_
      refine lv_icmp_lt (tgt := 20) hx hb d_Desk_signal_11 (by decide) (fun c11 => ?_) (fun c11 => ?_)
      · skip
        have c11 : w0.toInt < ((1 : Nat) : Int) := (ri_lt rfl (nI_toInt (show _ < 2 ^ 31 by omega))).mp c11
        have hq : ¬ sgOK x w0 y := by unfold sgOK; omega
        refine lv_iconst (v := (-1 : Int32)) hx hb d_Desk_signal_20 rfl ?_
        exact W.iret (v := (-1 : Int32)) hx hb hr (fun t ht hW => ⟨⟨(-1 : Int32), (n, Kd, Wd, Rw, rd), rfl, ⟨(show n ≤ 14 from by omega), b_Kd, b_Wd, b_Rw, (show rd ≤ 1 from by omega), (show (¬ sgOK x w0 y ∧ (-1) = (-1 : Int32) ∧ n = n ∧ Kd = Kd ∧ Wd = Wd ∧ Rw = Rw ∧ rd = rd) ∨ (sgOK x w0 y ∧ n = 14 ∧ (-3) = (-1 : Int32) ∧ n = n ∧ Kd = Kd ∧ Wd = Wd ∧ Rw = Rw ∧ rd = rd) ∨ (sgOK x w0 y ∧ n < 14 ∧ nI n = (-1 : Int32) ∧ n + 1 = n ∧ upN Kd n (ix x) = Kd ∧ upN Wd n (ix w0) = Wd ∧ upN Rw n (lowb y (ix w0)) = Rw ∧ 0 = rd) from Or.inl ⟨hq, rfl, rfl, rfl, rfl, rfl, rfl⟩)⟩, by rw [ht]; exact hP, va_K.moved hW.alike hK, hD⟩, hS.F ht⟩) hS.2.2 d_Desk_signal_21
      · skip
        have c11 : ¬ (w0.toInt < ((1 : Nat) : Int)) := fun h => c11 ((ri_lt rfl (nI_toInt (show _ < 2 ^ 31 by omega))).mpr h)
        refine lv_iload_n hx hb d_Desk_signal_14 rfl (lv_at hl 2 rfl) ?_
        refine lv_bipush (v := nI 8) hx hb d_Desk_signal_15 rfl ?_
        refine lv_icmp_le (tgt := 22) hx hb d_Desk_signal_17 (by decide) (fun c17 => ?_) (fun c17 => ?_)
        · skip
          have c17 : w0.toInt ≤ ((8 : Nat) : Int) := (ri_le rfl (nI_toInt (show _ < 2 ^ 31 by omega))).mp c17
          refine lv_iload_n hx hb d_Desk_signal_22 rfl (lv_at hl 1 rfl) ?_
          refine lv_iconst (v := nI 2) hx hb d_Desk_signal_23 rfl ?_
          refine lv_icmp_ne (tgt := 40) hx hb d_Desk_signal_24 (by decide) (fun c24 => ?_) (fun c24 => ?_)
          · skip
            have c24 : ¬ (x.toInt = ((2 : Nat) : Int)) := fun h => c24 ((ri_eq rfl (nI_toInt (show _ < 2 ^ 31 by omega))).mpr h)
            have hq : sgOK x w0 y := by unfold sgOK; omega
            refine lv_aload_n hx hb d_Desk_signal_40 rfl (lv_at hl 0 rfl) ?_
            refine va_get (D := (dC, dI)) (ci := 5) (v := .ref a_sig) (C := R_Desk) (T := F_Desk) (N := 9) hx hb hts (wi i_Desk) hown hK hP 0 rfl rfl 0 (by decide) (hts _ (mt 242 rfl rfl)) (fun _ h9 => h9) rfl d_Desk_signal_41 ?_
            refine va_get (D := (dC, dI)) (ci := 1) (v := .int (nI n)) (C := R_Sig) (T := F_Sig) (N := 8) hx hb hts (wi i_Sig) hown hK hP 1 rfl rfl 7 (by decide) (hts _ (mt 86 rfl rfl)) (fun _ h9 => h9) rfl d_Desk_signal_44 ?_
            refine lv_bipush (v := nI 14) hx hb d_Desk_signal_47 rfl ?_
            refine lv_icmp_ne (tgt := 55) hx hb d_Desk_signal_49 (by decide) (fun c49 => ?_) (fun c49 => ?_)
            · skip
              have c49 : ¬ (n = 14) := fun h => c49 ((nI_eq (by omega) (by omega)).mpr h)
              refine lv_aload_n hx hb d_Desk_signal_55 rfl (lv_at hl 0 rfl) ?_
              refine lv_iconst (v := nI 0) hx hb d_Desk_signal_56 rfl ?_
              refine va_put (D := (dC, dI)) (ci := 5) (v := .int (nI 0)) (ty := .boolean) (C := R_Desk) (T := F_Desk) (N := 9) hx hb hts (wi i_Desk) t_Desk t_Desk_ok n_Desk hown hK hP hD hS 0 rfl rfl 6 (by decide) (hts _ (mt 248 rfl rfl)) (fun _ h9 => h9) rfl (by decide +kernel) (k_narZ (by omega)) (k_fitZ (by omega)) (Nat.le_of_ble_eq_true rfl) d_Desk_signal_57 (fun H locs hP hD hS => ?_)
              have hP : va_P (dC, dI) classes [(a_desk, .inr (5, [.ref a_sig, .ref a_stm, .ref a_chk, .ref a_net, .ref a_mkr, .ref a_nwords, .int (nI 0), .int fw, .int (nI ck)])), (a_sig, .inr (1, [.ref a_kind, .ref a_width, .ref a_rword, .ref a_sop, .ref a_sa, .ref a_sb, .ref a_sc, .int (nI n)])), (a_kind, .inl (cI, 14, .inl (nF Kd))), (a_width, .inl (cI, 14, .inl (nF Wd))), (a_rword, .inl (cI, 14, .inl (nF Rw)))] H := hP
              have hD : va_D A [(a_desk, .inr (5, [.ref a_sig, .ref a_stm, .ref a_chk, .ref a_net, .ref a_mkr, .ref a_nwords, .int (nI 0), .int fw, .int (nI ck)])), (a_sig, .inr (1, [.ref a_kind, .ref a_width, .ref a_rword, .ref a_sop, .ref a_sa, .ref a_sb, .ref a_sc, .int (nI n)])), (a_kind, .inl (cI, 14, .inl (nF Kd))), (a_width, .inl (cI, 14, .inl (nF Wd))), (a_rword, .inl (cI, 14, .inl (nF Rw)))] := hD
              obtain ⟨X, eX, hX, hXb⟩ := raw_nat (x := x) (by omega)
              rw [eX] at hl
              obtain ⟨Wq, eWq, hWq, hWqb⟩ := raw_nat (x := w0) (by omega)
              rw [eWq] at hl
              refine lv_aload_n hx hb d_Desk_signal_60 rfl (lv_at hl 0 rfl) ?_
              refine va_get (D := (dC, dI)) (ci := 5) (v := .ref a_sig) (C := R_Desk) (T := F_Desk) (N := 9) hx hb hts (wi i_Desk) hown hK hP 0 rfl rfl 0 (by decide) (hts _ (mt 242 rfl rfl)) (fun _ h9 => h9) rfl d_Desk_signal_61 ?_
              refine lv_iload_n hx hb d_Desk_signal_64 rfl (lv_at hl 1 rfl) ?_
              refine lv_iload_n hx hb d_Desk_signal_65 rfl (lv_at hl 2 rfl) ?_
              refine lv_iload_n hx hb d_Desk_signal_66 rfl (lv_at hl 3 rfl) ?_
              refine k_i (wr := [(a_desk, .inr (5, [.ref a_sig, .ref a_stm, .ref a_chk, .ref a_net, .ref a_mkr, .ref a_nwords, .int (nI 0), .int fw, .int (nI ck)]))]) (w2 := fun (u : Unit) => [(a_desk, .inr (5, [.ref a_sig, .ref a_stm, .ref a_chk, .ref a_net, .ref a_mkr, .ref a_nwords, .int (nI 0), .int fw, .int (nI ck)])), (a_sig, .inr (1, [.ref a_kind, .ref a_width, .ref a_rword, .ref a_sop, .ref a_sa, .ref a_sb, .ref a_sc, .int (nI (n + 1))])), (a_kind, .inl (cI, 14, .inl (nF (upN Kd n X)))), (a_width, .inl (cI, 14, .inl (nF (upN Wd n Wq)))), (a_rword, .inl (cI, 14, .inl (nF (upN Rw n (lowb y Wq)))))]) (va_runV (As := [.int (nI X), .int (nI Wq), .int y]) (rest := []) ⟨hx, hb, hml, hown, hts⟩ (c_Sig_addPlain l dC dI cI cZ a_sig a_kind a_width a_rword a_sop a_sa a_sb a_sc tt H.size n Kd Wd Rw X Wq y (by omega) b_Kd b_Wd b_Rw (by omega) (by omega) (by omega)) (cwV 3 hts (gd_V in_tl (mw 274 rfl rfl) (mw 275 rfl rfl) (mw 276 rfl rfl) (mw 42 rfl rfl) (mw 277 rfl rfl)) rfl rfl rfl (by decide +kernel) ⟨Nat.le_of_ble_eq_true rfl, Nat.le_of_ble_eq_true rfl⟩) (k_preV hK hP hD hS hA hE [1, 2, 3, 4] (by decide) rfl 1 1 rfl rfl) rfl rfl hl.1 rfl (lv_room (Nat.le_of_ble_eq_true rfl)) d_Desk_signal_67 ⟨Nat.zero_le _, Nat.zero_le _⟩) hP hD hS hA [1, 2, 3, 4] [0] [0, 1, 2, 3, 4] rfl rfl (by decide) (by decide) (by decide) (fun _ => rfl) (fun r_1 u H locs hw hP hD hS => ?_)
              obtain rfl : (r_1 = nI n) := hw
              have hP : va_P (dC, dI) classes [(a_desk, .inr (5, [.ref a_sig, .ref a_stm, .ref a_chk, .ref a_net, .ref a_mkr, .ref a_nwords, .int (nI 0), .int fw, .int (nI ck)])), (a_sig, .inr (1, [.ref a_kind, .ref a_width, .ref a_rword, .ref a_sop, .ref a_sa, .ref a_sb, .ref a_sc, .int (nI (n + 1))])), (a_kind, .inl (cI, 14, .inl (nF (upN Kd n X)))), (a_width, .inl (cI, 14, .inl (nF (upN Wd n Wq)))), (a_rword, .inl (cI, 14, .inl (nF (upN Rw n (lowb y Wq)))))] H := hP
              have hD : va_D A [(a_desk, .inr (5, [.ref a_sig, .ref a_stm, .ref a_chk, .ref a_net, .ref a_mkr, .ref a_nwords, .int (nI 0), .int fw, .int (nI ck)])), (a_sig, .inr (1, [.ref a_kind, .ref a_width, .ref a_rword, .ref a_sop, .ref a_sa, .ref a_sb, .ref a_sc, .int (nI (n + 1))])), (a_kind, .inl (cI, 14, .inl (nF (upN Kd n X)))), (a_width, .inl (cI, 14, .inl (nF (upN Wd n Wq)))), (a_rword, .inl (cI, 14, .inl (nF (upN Rw n (lowb y Wq)))))] := hD
              have hp8 := pow8 (n := Wq) (by omega)
              have bK : ∀ j, upN Kd n X j < 4 := upN_lt b_Kd (by omega)
              have bW : ∀ j, upN Wd n Wq j < 9 := upN_lt b_Wd (by omega)
              have bR : ∀ j, upN Rw n (lowb y Wq) j < 256 := upN_lt b_Rw (by have := lowb_lt y Wq; omega)
              exact W.iret (v := nI n) hx hb hr (fun t ht hW => ⟨⟨nI n, (n + 1, upN Kd n X, upN Wd n Wq, upN Rw n (lowb y Wq), 0), rfl, ⟨(show (n + 1) ≤ 14 from by omega), bK, bW, bR, (show 0 ≤ 1 from by omega), (show (¬ sgOK x w0 y ∧ (-1) = (nI n) ∧ n = (n + 1) ∧ Kd = (upN Kd n X) ∧ Wd = (upN Wd n Wq) ∧ Rw = (upN Rw n (lowb y Wq)) ∧ rd = 0) ∨ (sgOK x w0 y ∧ n = 14 ∧ (-3) = (nI n) ∧ n = (n + 1) ∧ Kd = (upN Kd n X) ∧ Wd = (upN Wd n Wq) ∧ Rw = (upN Rw n (lowb y Wq)) ∧ rd = 0) ∨ (sgOK x w0 y ∧ n < 14 ∧ nI n = (nI n) ∧ n + 1 = (n + 1) ∧ upN Kd n (ix x) = (upN Kd n X) ∧ upN Wd n (ix w0) = (upN Wd n Wq) ∧ upN Rw n (lowb y (ix w0)) = (upN Rw n (lowb y Wq)) ∧ 0 = 0) from Or.inr (Or.inr ⟨hq, by omega, rfl, rfl, by rw [ix_of eX hXb], by rw [ix_of eWq hWqb], by rw [ix_of eWq hWqb], rfl⟩))⟩, by rw [ht]; exact hP, va_K.moved hW.alike hK, hD⟩, hS.F ht⟩) hS.2.2 d_Desk_signal_70
            · skip
              have c49 : n = 14 := (nI_eq (by omega) (by omega)).mp c49
              refine lv_bipush (v := (-3 : Int32)) hx hb d_Desk_signal_52 rfl ?_
              exact W.iret (v := (-3 : Int32)) hx hb hr (fun t ht hW => ⟨⟨(-3 : Int32), (n, Kd, Wd, Rw, rd), rfl, ⟨(show n ≤ 14 from by omega), b_Kd, b_Wd, b_Rw, (show rd ≤ 1 from by omega), (show (¬ sgOK x w0 y ∧ (-1) = (-3 : Int32) ∧ n = n ∧ Kd = Kd ∧ Wd = Wd ∧ Rw = Rw ∧ rd = rd) ∨ (sgOK x w0 y ∧ n = 14 ∧ (-3) = (-3 : Int32) ∧ n = n ∧ Kd = Kd ∧ Wd = Wd ∧ Rw = Rw ∧ rd = rd) ∨ (sgOK x w0 y ∧ n < 14 ∧ nI n = (-3 : Int32) ∧ n + 1 = n ∧ upN Kd n (ix x) = Kd ∧ upN Wd n (ix w0) = Wd ∧ upN Rw n (lowb y (ix w0)) = Rw ∧ 0 = rd) from Or.inr (Or.inl ⟨hq, c49, rfl, rfl, rfl, rfl, rfl, rfl⟩))⟩, by rw [ht]; exact hP, va_K.moved hW.alike hK, hD⟩, hS.F ht⟩) hS.2.2 d_Desk_signal_54
          · skip
            have c24 : x.toInt = ((2 : Nat) : Int) := (ri_eq rfl (nI_toInt (show _ < 2 ^ 31 by omega))).mp c24
            refine lv_iload_n hx hb d_Desk_signal_27 rfl (lv_at hl 3 rfl) ?_
            refine lv_if_lt (tgt := 38) hx hb d_Desk_signal_28 (by decide) (fun c28 => ?_) (fun c28 => ?_)
            · skip
              have c28 : y.toInt < 0 := (ri_lt rfl rfl).mp c28
              have hq : ¬ sgOK x w0 y := by unfold sgOK; omega
              refine lv_iconst (v := (-1 : Int32)) hx hb d_Desk_signal_38 rfl ?_
              exact W.iret (v := (-1 : Int32)) hx hb hr (fun t ht hW => ⟨⟨(-1 : Int32), (n, Kd, Wd, Rw, rd), rfl, ⟨(show n ≤ 14 from by omega), b_Kd, b_Wd, b_Rw, (show rd ≤ 1 from by omega), (show (¬ sgOK x w0 y ∧ (-1) = (-1 : Int32) ∧ n = n ∧ Kd = Kd ∧ Wd = Wd ∧ Rw = Rw ∧ rd = rd) ∨ (sgOK x w0 y ∧ n = 14 ∧ (-3) = (-1 : Int32) ∧ n = n ∧ Kd = Kd ∧ Wd = Wd ∧ Rw = Rw ∧ rd = rd) ∨ (sgOK x w0 y ∧ n < 14 ∧ nI n = (-1 : Int32) ∧ n + 1 = n ∧ upN Kd n (ix x) = Kd ∧ upN Wd n (ix w0) = Wd ∧ upN Rw n (lowb y (ix w0)) = Rw ∧ 0 = rd) from Or.inl ⟨hq, rfl, rfl, rfl, rfl, rfl, rfl⟩)⟩, by rw [ht]; exact hP, va_K.moved hW.alike hK, hD⟩, hS.F ht⟩) hS.2.2 d_Desk_signal_39
            · skip
              have c28 : ¬ (y.toInt < 0) := fun h => c28 ((ri_lt rfl rfl).mpr h)
              refine lv_iload_n hx hb d_Desk_signal_31 rfl (lv_at hl 3 rfl) ?_
              refine lv_sipush (v := nI 255) hx hb d_Desk_signal_32 rfl ?_
              refine lv_icmp_le (tgt := 40) hx hb d_Desk_signal_35 (by decide) (fun c35 => ?_) (fun c35 => ?_)
              · skip
                have c35 : y.toInt ≤ ((255 : Nat) : Int) := (ri_le rfl (nI_toInt (show _ < 2 ^ 31 by omega))).mp c35
                have hq : sgOK x w0 y := by unfold sgOK; omega
                refine lv_aload_n hx hb d_Desk_signal_40 rfl (lv_at hl 0 rfl) ?_
                refine va_get (D := (dC, dI)) (ci := 5) (v := .ref a_sig) (C := R_Desk) (T := F_Desk) (N := 9) hx hb hts (wi i_Desk) hown hK hP 0 rfl rfl 0 (by decide) (hts _ (mt 242 rfl rfl)) (fun _ h9 => h9) rfl d_Desk_signal_41 ?_
                refine va_get (D := (dC, dI)) (ci := 1) (v := .int (nI n)) (C := R_Sig) (T := F_Sig) (N := 8) hx hb hts (wi i_Sig) hown hK hP 1 rfl rfl 7 (by decide) (hts _ (mt 86 rfl rfl)) (fun _ h9 => h9) rfl d_Desk_signal_44 ?_
                refine lv_bipush (v := nI 14) hx hb d_Desk_signal_47 rfl ?_
                refine lv_icmp_ne (tgt := 55) hx hb d_Desk_signal_49 (by decide) (fun c49 => ?_) (fun c49 => ?_)
                · skip
                  have c49 : ¬ (n = 14) := fun h => c49 ((nI_eq (by omega) (by omega)).mpr h)
                  refine lv_aload_n hx hb d_Desk_signal_55 rfl (lv_at hl 0 rfl) ?_
                  refine lv_iconst (v := nI 0) hx hb d_Desk_signal_56 rfl ?_
                  refine va_put (D := (dC, dI)) (ci := 5) (v := .int (nI 0)) (ty := .boolean) (C := R_Desk) (T := F_Desk) (N := 9) hx hb hts (wi i_Desk) t_Desk t_Desk_ok n_Desk hown hK hP hD hS 0 rfl rfl 6 (by decide) (hts _ (mt 248 rfl rfl)) (fun _ h9 => h9) rfl (by decide +kernel) (k_narZ (by omega)) (k_fitZ (by omega)) (Nat.le_of_ble_eq_true rfl) d_Desk_signal_57 (fun H locs hP hD hS => ?_)
                  have hP : va_P (dC, dI) classes [(a_desk, .inr (5, [.ref a_sig, .ref a_stm, .ref a_chk, .ref a_net, .ref a_mkr, .ref a_nwords, .int (nI 0), .int fw, .int (nI ck)])), (a_sig, .inr (1, [.ref a_kind, .ref a_width, .ref a_rword, .ref a_sop, .ref a_sa, .ref a_sb, .ref a_sc, .int (nI n)])), (a_kind, .inl (cI, 14, .inl (nF Kd))), (a_width, .inl (cI, 14, .inl (nF Wd))), (a_rword, .inl (cI, 14, .inl (nF Rw)))] H := hP
                  have hD : va_D A [(a_desk, .inr (5, [.ref a_sig, .ref a_stm, .ref a_chk, .ref a_net, .ref a_mkr, .ref a_nwords, .int (nI 0), .int fw, .int (nI ck)])), (a_sig, .inr (1, [.ref a_kind, .ref a_width, .ref a_rword, .ref a_sop, .ref a_sa, .ref a_sb, .ref a_sc, .int (nI n)])), (a_kind, .inl (cI, 14, .inl (nF Kd))), (a_width, .inl (cI, 14, .inl (nF Wd))), (a_rword, .inl (cI, 14, .inl (nF Rw)))] := hD
                  obtain ⟨X, eX, hX, hXb⟩ := raw_nat (x := x) (by omega)
                  rw [eX] at hl
                  obtain ⟨Wq, eWq, hWq, hWqb⟩ := raw_nat (x := w0) (by omega)
                  rw [eWq] at hl
                  refine lv_aload_n hx hb d_Desk_signal_60 rfl (lv_at hl 0 rfl) ?_
                  refine va_get (D := (dC, dI)) (ci := 5) (v := .ref a_sig) (C := R_Desk) (T := F_Desk) (N := 9) hx hb hts (wi i_Desk) hown hK hP 0 rfl rfl 0 (by decide) (hts _ (mt 242 rfl rfl)) (fun _ h9 => h9) rfl d_Desk_signal_61 ?_
                  refine lv_iload_n hx hb d_Desk_signal_64 rfl (lv_at hl 1 rfl) ?_
                  refine lv_iload_n hx hb d_Desk_signal_65 rfl (lv_at hl 2 rfl) ?_
                  refine lv_iload_n hx hb d_Desk_signal_66 rfl (lv_at hl 3 rfl) ?_
                  refine k_i (wr := [(a_desk, .inr (5, [.ref a_sig, .ref a_stm, .ref a_chk, .ref a_net, .ref a_mkr, .ref a_nwords, .int (nI 0), .int fw, .int (nI ck)]))]) (w2 := fun (u : Unit) => [(a_desk, .inr (5, [.ref a_sig, .ref a_stm, .ref a_chk, .ref a_net, .ref a_mkr, .ref a_nwords, .int (nI 0), .int fw, .int (nI ck)])), (a_sig, .inr (1, [.ref a_kind, .ref a_width, .ref a_rword, .ref a_sop, .ref a_sa, .ref a_sb, .ref a_sc, .int (nI (n + 1))])), (a_kind, .inl (cI, 14, .inl (nF (upN Kd n X)))), (a_width, .inl (cI, 14, .inl (nF (upN Wd n Wq)))), (a_rword, .inl (cI, 14, .inl (nF (upN Rw n (lowb y Wq)))))]) (va_runV (As := [.int (nI X), .int (nI Wq), .int y]) (rest := []) ⟨hx, hb, hml, hown, hts⟩ (c_Sig_addPlain l dC dI cI cZ a_sig a_kind a_width a_rword a_sop a_sa a_sb a_sc tt H.size n Kd Wd Rw X Wq y (by omega) b_Kd b_Wd b_Rw (by omega) (by omega) (by omega)) (cwV 3 hts (gd_V in_tl (mw 274 rfl rfl) (mw 275 rfl rfl) (mw 276 rfl rfl) (mw 42 rfl rfl) (mw 277 rfl rfl)) rfl rfl rfl (by decide +kernel) ⟨Nat.le_of_ble_eq_true rfl, Nat.le_of_ble_eq_true rfl⟩) (k_preV hK hP hD hS hA hE [1, 2, 3, 4] (by decide) rfl 1 1 rfl rfl) rfl rfl hl.1 rfl (lv_room (Nat.le_of_ble_eq_true rfl)) d_Desk_signal_67 ⟨Nat.zero_le _, Nat.zero_le _⟩) hP hD hS hA [1, 2, 3, 4] [0] [0, 1, 2, 3, 4] rfl rfl (by decide) (by decide) (by decide) (fun _ => rfl) (fun r_2 u H locs hw hP hD hS => ?_)
                  obtain rfl : (r_2 = nI n) := hw
                  have hP : va_P (dC, dI) classes [(a_desk, .inr (5, [.ref a_sig, .ref a_stm, .ref a_chk, .ref a_net, .ref a_mkr, .ref a_nwords, .int (nI 0), .int fw, .int (nI ck)])), (a_sig, .inr (1, [.ref a_kind, .ref a_width, .ref a_rword, .ref a_sop, .ref a_sa, .ref a_sb, .ref a_sc, .int (nI (n + 1))])), (a_kind, .inl (cI, 14, .inl (nF (upN Kd n X)))), (a_width, .inl (cI, 14, .inl (nF (upN Wd n Wq)))), (a_rword, .inl (cI, 14, .inl (nF (upN Rw n (lowb y Wq)))))] H := hP
                  have hD : va_D A [(a_desk, .inr (5, [.ref a_sig, .ref a_stm, .ref a_chk, .ref a_net, .ref a_mkr, .ref a_nwords, .int (nI 0), .int fw, .int (nI ck)])), (a_sig, .inr (1, [.ref a_kind, .ref a_width, .ref a_rword, .ref a_sop, .ref a_sa, .ref a_sb, .ref a_sc, .int (nI (n + 1))])), (a_kind, .inl (cI, 14, .inl (nF (upN Kd n X)))), (a_width, .inl (cI, 14, .inl (nF (upN Wd n Wq)))), (a_rword, .inl (cI, 14, .inl (nF (upN Rw n (lowb y Wq)))))] := hD
                  have hp8 := pow8 (n := Wq) (by omega)
                  have bK : ∀ j, upN Kd n X j < 4 := upN_lt b_Kd (by omega)
                  have bW : ∀ j, upN Wd n Wq j < 9 := upN_lt b_Wd (by omega)
                  have bR : ∀ j, upN Rw n (lowb y Wq) j < 256 := upN_lt b_Rw (by have := lowb_lt y Wq; omega)
                  exact W.iret (v := nI n) hx hb hr (fun t ht hW => ⟨⟨nI n, (n + 1, upN Kd n X, upN Wd n Wq, upN Rw n (lowb y Wq), 0), rfl, ⟨(show (n + 1) ≤ 14 from by omega), bK, bW, bR, (show 0 ≤ 1 from by omega), (show (¬ sgOK x w0 y ∧ (-1) = (nI n) ∧ n = (n + 1) ∧ Kd = (upN Kd n X) ∧ Wd = (upN Wd n Wq) ∧ Rw = (upN Rw n (lowb y Wq)) ∧ rd = 0) ∨ (sgOK x w0 y ∧ n = 14 ∧ (-3) = (nI n) ∧ n = (n + 1) ∧ Kd = (upN Kd n X) ∧ Wd = (upN Wd n Wq) ∧ Rw = (upN Rw n (lowb y Wq)) ∧ rd = 0) ∨ (sgOK x w0 y ∧ n < 14 ∧ nI n = (nI n) ∧ n + 1 = (n + 1) ∧ upN Kd n (ix x) = (upN Kd n X) ∧ upN Wd n (ix w0) = (upN Wd n Wq) ∧ upN Rw n (lowb y (ix w0)) = (upN Rw n (lowb y Wq)) ∧ 0 = 0) from Or.inr (Or.inr ⟨hq, by omega, rfl, rfl, by rw [ix_of eX hXb], by rw [ix_of eWq hWqb], by rw [ix_of eWq hWqb], rfl⟩))⟩, by rw [ht]; exact hP, va_K.moved hW.alike hK, hD⟩, hS.F ht⟩) hS.2.2 d_Desk_signal_70
                · skip
                  have c49 : n = 14 := (nI_eq (by omega) (by omega)).mp c49
                  refine lv_bipush (v := (-3 : Int32)) hx hb d_Desk_signal_52 rfl ?_
                  exact W.iret (v := (-3 : Int32)) hx hb hr (fun t ht hW => ⟨⟨(-3 : Int32), (n, Kd, Wd, Rw, rd), rfl, ⟨(show n ≤ 14 from by omega), b_Kd, b_Wd, b_Rw, (show rd ≤ 1 from by omega), (show (¬ sgOK x w0 y ∧ (-1) = (-3 : Int32) ∧ n = n ∧ Kd = Kd ∧ Wd = Wd ∧ Rw = Rw ∧ rd = rd) ∨ (sgOK x w0 y ∧ n = 14 ∧ (-3) = (-3 : Int32) ∧ n = n ∧ Kd = Kd ∧ Wd = Wd ∧ Rw = Rw ∧ rd = rd) ∨ (sgOK x w0 y ∧ n < 14 ∧ nI n = (-3 : Int32) ∧ n + 1 = n ∧ upN Kd n (ix x) = Kd ∧ upN Wd n (ix w0) = Wd ∧ upN Rw n (lowb y (ix w0)) = Rw ∧ 0 = rd) from Or.inr (Or.inl ⟨hq, c49, rfl, rfl, rfl, rfl, rfl, rfl⟩))⟩, by rw [ht]; exact hP, va_K.moved hW.alike hK, hD⟩, hS.F ht⟩) hS.2.2 d_Desk_signal_54
              · skip
                have c35 : ¬ (y.toInt ≤ ((255 : Nat) : Int)) := fun h => c35 ((ri_le rfl (nI_toInt (show _ < 2 ^ 31 by omega))).mpr h)
                have hq : ¬ sgOK x w0 y := by unfold sgOK; omega
                refine lv_iconst (v := (-1 : Int32)) hx hb d_Desk_signal_38 rfl ?_
                exact W.iret (v := (-1 : Int32)) hx hb hr (fun t ht hW => ⟨⟨(-1 : Int32), (n, Kd, Wd, Rw, rd), rfl, ⟨(show n ≤ 14 from by omega), b_Kd, b_Wd, b_Rw, (show rd ≤ 1 from by omega), (show (¬ sgOK x w0 y ∧ (-1) = (-1 : Int32) ∧ n = n ∧ Kd = Kd ∧ Wd = Wd ∧ Rw = Rw ∧ rd = rd) ∨ (sgOK x w0 y ∧ n = 14 ∧ (-3) = (-1 : Int32) ∧ n = n ∧ Kd = Kd ∧ Wd = Wd ∧ Rw = Rw ∧ rd = rd) ∨ (sgOK x w0 y ∧ n < 14 ∧ nI n = (-1 : Int32) ∧ n + 1 = n ∧ upN Kd n (ix x) = Kd ∧ upN Wd n (ix w0) = Wd ∧ upN Rw n (lowb y (ix w0)) = Rw ∧ 0 = rd) from Or.inl ⟨hq, rfl, rfl, rfl, rfl, rfl, rfl⟩)⟩, by rw [ht]; exact hP, va_K.moved hW.alike hK, hD⟩, hS.F ht⟩) hS.2.2 d_Desk_signal_39
        · skip
          have c17 : ¬ (w0.toInt ≤ ((8 : Nat) : Int)) := fun h => c17 ((ri_le rfl (nI_toInt (show _ < 2 ^ 31 by omega))).mpr h)
          have hq : ¬ sgOK x w0 y := by unfold sgOK; omega
          refine lv_iconst (v := (-1 : Int32)) hx hb d_Desk_signal_20 rfl ?_
          exact W.iret (v := (-1 : Int32)) hx hb hr (fun t ht hW => ⟨⟨(-1 : Int32), (n, Kd, Wd, Rw, rd), rfl, ⟨(show n ≤ 14 from by omega), b_Kd, b_Wd, b_Rw, (show rd ≤ 1 from by omega), (show (¬ sgOK x w0 y ∧ (-1) = (-1 : Int32) ∧ n = n ∧ Kd = Kd ∧ Wd = Wd ∧ Rw = Rw ∧ rd = rd) ∨ (sgOK x w0 y ∧ n = 14 ∧ (-3) = (-1 : Int32) ∧ n = n ∧ Kd = Kd ∧ Wd = Wd ∧ Rw = Rw ∧ rd = rd) ∨ (sgOK x w0 y ∧ n < 14 ∧ nI n = (-1 : Int32) ∧ n + 1 = n ∧ upN Kd n (ix x) = Kd ∧ upN Wd n (ix w0) = Wd ∧ upN Rw n (lowb y (ix w0)) = Rw ∧ 0 = rd) from Or.inl ⟨hq, rfl, rfl, rfl, rfl, rfl, rfl⟩)⟩, by rw [ht]; exact hP, va_K.moved hW.alike hK, hD⟩, hS.F ht⟩) hS.2.2 d_Desk_signal_21
set_option maxHeartbeats 4000000 in
set_option maxRecDepth 100000 in
theorem c_Desk_node (l : Launch) (dC : Nat → ClassId) (dI : Nat → Nat → Nat) (cI cZ : ClassId) (a_desk a_sig a_stm a_chk a_net a_mkr a_nwords a_kind a_width a_rword a_sop a_sa a_sb a_sc : Nat) (tt sz : Nat) (rd : Nat) (fw : Int32) (ck : Nat) (n : Nat) (Kd : Nat → Nat) (Wd : Nat → Nat) (Rw : Nat → Nat) (Op : Nat → Nat) (Aa : Nat → Int32) (Ab : Nat → Int32) (Ac : Nat → Int32) (o0 : Int32) (x : Int32) (y : Int32) (z : Int32) (b_rd : rd ≤ 1) (b_n : n ≤ 14) (b_Kd : ∀ j, Kd j < 4) (b_Wd : ∀ j, Wd j < 9) (b_Rw : ∀ j, Rw j < 256) (b_Op : ∀ j, Op j < 12) : Met l y_Desk_node w_Desk_node ({ frames := 3, cells := 0, slots := 0, locals := 67 }) (va_Pc [.ref a_desk, .int o0, .int x, .int y, .int z] (PW (dC, dI) classes [(cI, .int), (cZ, .boolean)] tt [(a_desk, .inr (5, [.ref a_sig, .ref a_stm, .ref a_chk, .ref a_net, .ref a_mkr, .ref a_nwords, .int (nI rd), .int fw, .int (nI ck)])), (a_sig, .inr (1, [.ref a_kind, .ref a_width, .ref a_rword, .ref a_sop, .ref a_sa, .ref a_sb, .ref a_sc, .int (nI n)])), (a_kind, .inl (cI, 14, .inl (nF Kd))), (a_width, .inl (cI, 14, .inl (nF Wd))), (a_rword, .inl (cI, 14, .inl (nF Rw))), (a_sop, .inl (cI, 14, .inl (nF Op))), (a_sa, .inl (cI, 14, .inl Aa)), (a_sb, .inl (cI, 14, .inl Ab)), (a_sc, .inl (cI, 14, .inl Ac))] sz)) (va_Qi (fun (r : Int32) (u : Nat × (Nat → Nat) × (Nat → Nat) × (Nat → Nat) × (Nat → Nat) × (Nat → Int32) × (Nat → Int32) × (Nat → Int32) × Nat) => (u.1 ≤ 14) ∧ (∀ j, u.2.1 j < 4) ∧ (∀ j, u.2.2.1 j < 9) ∧ (∀ j, u.2.2.2.1 j < 256) ∧ (∀ j, u.2.2.2.2.1 j < 12) ∧ (u.2.2.2.2.2.2.2.2 ≤ 1) ∧ (((nwd n Wd o0 x y z < 1 ∨ 8 < nwd n Wd o0 x y z) ∧ (-1) = r ∧ n = u.1 ∧ Kd = u.2.1 ∧ Wd = u.2.2.1 ∧ Rw = u.2.2.2.1 ∧ Op = u.2.2.2.2.1 ∧ Aa = u.2.2.2.2.2.1 ∧ Ab = u.2.2.2.2.2.2.1 ∧ Ac = u.2.2.2.2.2.2.2.1 ∧ rd = u.2.2.2.2.2.2.2.2) ∨ (1 ≤ nwd n Wd o0 x y z ∧ nwd n Wd o0 x y z ≤ 8 ∧ n = 14 ∧ (-3) = r ∧ n = u.1 ∧ Kd = u.2.1 ∧ Wd = u.2.2.1 ∧ Rw = u.2.2.2.1 ∧ Op = u.2.2.2.2.1 ∧ Aa = u.2.2.2.2.2.1 ∧ Ab = u.2.2.2.2.2.2.1 ∧ Ac = u.2.2.2.2.2.2.2.1 ∧ rd = u.2.2.2.2.2.2.2.2) ∨ (1 ≤ nwd n Wd o0 x y z ∧ nwd n Wd o0 x y z ≤ 8 ∧ n < 14 ∧ nI n = r ∧ n + 1 = u.1 ∧ upN Kd n 3 = u.2.1 ∧ upN Wd n (nwd n Wd o0 x y z) = u.2.2.1 ∧ upN Rw n 0 = u.2.2.2.1 ∧ upN Op n (ix o0) = u.2.2.2.2.1 ∧ upd Aa n x = u.2.2.2.2.2.1 ∧ upd Ab n y = u.2.2.2.2.2.2.1 ∧ upd Ac n z = u.2.2.2.2.2.2.2.1 ∧ 0 = u.2.2.2.2.2.2.2.2))) (AT (dC, dI) classes [(cI, .int), (cZ, .boolean)] (va_A [(a_desk, .inr (5, [.ref a_sig, .ref a_stm, .ref a_chk, .ref a_net, .ref a_mkr, .ref a_nwords, .int (nI rd), .int fw, .int (nI ck)])), (a_sig, .inr (1, [.ref a_kind, .ref a_width, .ref a_rword, .ref a_sop, .ref a_sa, .ref a_sb, .ref a_sc, .int (nI n)])), (a_kind, .inl (cI, 14, .inl (nF Kd))), (a_width, .inl (cI, 14, .inl (nF Wd))), (a_rword, .inl (cI, 14, .inl (nF Rw))), (a_sop, .inl (cI, 14, .inl (nF Op))), (a_sa, .inl (cI, 14, .inl Aa)), (a_sb, .inl (cI, 14, .inl Ab)), (a_sc, .inl (cI, 14, .inl Ac))] sz) (fun (u : Nat × (Nat → Nat) × (Nat → Nat) × (Nat → Nat) × (Nat → Nat) × (Nat → Int32) × (Nat → Int32) × (Nat → Int32) × Nat) => [(a_desk, .inr (5, [.ref a_sig, .ref a_stm, .ref a_chk, .ref a_net, .ref a_mkr, .ref a_nwords, .int (nI u.2.2.2.2.2.2.2.2), .int fw, .int (nI ck)])), (a_sig, .inr (1, [.ref a_kind, .ref a_width, .ref a_rword, .ref a_sop, .ref a_sa, .ref a_sb, .ref a_sc, .int (nI u.1)])), (a_kind, .inl (cI, 14, .inl (nF u.2.1))), (a_width, .inl (cI, 14, .inl (nF u.2.2.1))), (a_rword, .inl (cI, 14, .inl (nF u.2.2.2.1))), (a_sop, .inl (cI, 14, .inl (nF u.2.2.2.2.1))), (a_sa, .inl (cI, 14, .inl u.2.2.2.2.2.1)), (a_sb, .inl (cI, 14, .inl u.2.2.2.2.2.2.1)), (a_sc, .inl (cI, 14, .inl u.2.2.2.2.2.2.2.1))])) (va_A [(a_desk, .inr (5, [.ref a_sig, .ref a_stm, .ref a_chk, .ref a_net, .ref a_mkr, .ref a_nwords, .int (nI rd), .int fw, .int (nI ck)])), (a_sig, .inr (1, [.ref a_kind, .ref a_width, .ref a_rword, .ref a_sop, .ref a_sa, .ref a_sb, .ref a_sc, .int (nI n)])), (a_kind, .inl (cI, 14, .inl (nF Kd))), (a_width, .inl (cI, 14, .inl (nF Wd))), (a_rword, .inl (cI, 14, .inl (nF Rw))), (a_sop, .inl (cI, 14, .inl (nF Op))), (a_sa, .inl (cI, 14, .inl Aa)), (a_sb, .inl (cI, 14, .inl Ab)), (a_sc, .inl (cI, 14, .inl Ac))] sz)) 0 0 (va_A [(a_desk, .inr (5, [.ref a_sig, .ref a_stm, .ref a_chk, .ref a_net, .ref a_mkr, .ref a_nwords, .int (nI rd), .int fw, .int (nI ck)])), (a_sig, .inr (1, [.ref a_kind, .ref a_width, .ref a_rword, .ref a_sop, .ref a_sa, .ref a_sb, .ref a_sc, .int (nI n)])), (a_kind, .inl (cI, 14, .inl (nF Kd))), (a_width, .inl (cI, 14, .inl (nF Wd))), (a_rword, .inl (cI, 14, .inl (nF Rw))), (a_sop, .inl (cI, 14, .inl (nF Op))), (a_sa, .inl (cI, 14, .inl Aa)), (a_sb, .inl (cI, 14, .inl Ab)), (a_sc, .inl (cI, 14, .inl Ac))] sz) := by
  refine Met.ofW (cc := b_Desk_node) (maxL := 7) (ret := (some .int)) (by decide) rfl ?_
  intro p e s m args below meth c s₁ B hml hv
  obtain ⟨rfl, hsz, hP, hK, hD0, hE⟩ := hv
  have hx := B.exec
  have hb := B.bytes
  have hr := B.returns
  have hts := atoms_spec (ws := w_Desk_node) B.pre
  have hown : s.vm.findClass R_Desk = some m.cls := findClass_of_methodNamed B.named
  have hlocks := B.notSynchronized
  subst hsz
  have hD := hD0.self (sz := s.heap.size)
  generalize hAe : va_A [(a_desk, .inr (5, [.ref a_sig, .ref a_stm, .ref a_chk, .ref a_net, .ref a_mkr, .ref a_nwords, .int (nI rd), .int fw, .int (nI ck)])), (a_sig, .inr (1, [.ref a_kind, .ref a_width, .ref a_rword, .ref a_sop, .ref a_sa, .ref a_sb, .ref a_sc, .int (nI n)])), (a_kind, .inl (cI, 14, .inl (nF Kd))), (a_width, .inl (cI, 14, .inl (nF Wd))), (a_rword, .inl (cI, 14, .inl (nF Rw))), (a_sop, .inl (cI, 14, .inl (nF Op))), (a_sa, .inl (cI, 14, .inl Aa)), (a_sb, .inl (cI, 14, .inl Ab)), (a_sc, .inl (cI, 14, .inl Ac))] s.heap.size = A at hD hE ⊢
  have hA : ∀ q : Nat, s.heap.size ≤ q → A q := fun q h => by rw [← hAe]; exact Or.inr h
  have hS : va_S A s.heap s.heap [] := va_S.rf
  have hP : va_P (dC, dI) classes [(a_desk, .inr (5, [.ref a_sig, .ref a_stm, .ref a_chk, .ref a_net, .ref a_mkr, .ref a_nwords, .int (nI rd), .int fw, .int (nI ck)])), (a_sig, .inr (1, [.ref a_kind, .ref a_width, .ref a_rword, .ref a_sop, .ref a_sa, .ref a_sb, .ref a_sc, .int (nI n)])), (a_kind, .inl (cI, 14, .inl (nF Kd))), (a_width, .inl (cI, 14, .inl (nF Wd))), (a_rword, .inl (cI, 14, .inl (nF Rw))), (a_sop, .inl (cI, 14, .inl (nF Op))), (a_sa, .inl (cI, 14, .inl Aa)), (a_sb, .inl (cI, 14, .inl Ab)), (a_sc, .inl (cI, 14, .inl Ac))] s.heap := hP
  have hl := lv_entry ([.ref a_desk, .int o0, .int x, .int y, .int z]) (n := 7) (Nat.le_of_ble_eq_true rfl)
  rw [lg_entry_eq]
  generalize (lg_sl ([.ref a_desk, .int o0, .int x, .int y, .int z]) ++ List.replicate (7 - (lg_sl ([.ref a_desk, .int o0, .int x, .int y, .int z])).length) Slot.unset).toArray = ls at hl ⊢
  have hl : lv_has ls 7 [(0, .ref a_desk), (1, .int o0), (2, .int x), (3, .int y), (4, .int z)] := hl
  refine lv_iload_n hx hb d_Desk_node_0 rfl (lv_at hl 1 rfl) ?_
  refine lv_if_lt (tgt := 29) hx hb d_Desk_node_1 (by decide) (fun c1 => ?_) (fun c1 => ?_)
  · skip
    have c1 : o0.toInt < 0 := (ri_lt rfl rfl).mp c1
    have hq : nwd n Wd o0 x y z = 0 := nwd_0 (by first | omega | (intro h; rw [ix_of eO hOb] at h; exact absurd c26 (by rw [if_pos h.2.2]; decide)))
    refine lv_iconst (v := (-1 : Int32)) hx hb d_Desk_node_29 rfl ?_
    exact W.iret (v := (-1 : Int32)) hx hb hr (fun t ht hW => ⟨⟨(-1 : Int32), (n, Kd, Wd, Rw, Op, Aa, Ab, Ac, rd), rfl, ⟨(show n ≤ 14 from by omega), b_Kd, b_Wd, b_Rw, b_Op, (show rd ≤ 1 from by omega), (show ((nwd n Wd o0 x y z < 1 ∨ 8 < nwd n Wd o0 x y z) ∧ (-1) = (-1 : Int32) ∧ n = n ∧ Kd = Kd ∧ Wd = Wd ∧ Rw = Rw ∧ Op = Op ∧ Aa = Aa ∧ Ab = Ab ∧ Ac = Ac ∧ rd = rd) ∨ (1 ≤ nwd n Wd o0 x y z ∧ nwd n Wd o0 x y z ≤ 8 ∧ n = 14 ∧ (-3) = (-1 : Int32) ∧ n = n ∧ Kd = Kd ∧ Wd = Wd ∧ Rw = Rw ∧ Op = Op ∧ Aa = Aa ∧ Ab = Ab ∧ Ac = Ac ∧ rd = rd) ∨ (1 ≤ nwd n Wd o0 x y z ∧ nwd n Wd o0 x y z ≤ 8 ∧ n < 14 ∧ nI n = (-1 : Int32) ∧ n + 1 = n ∧ upN Kd n 3 = Kd ∧ upN Wd n (nwd n Wd o0 x y z) = Wd ∧ upN Rw n 0 = Rw ∧ upN Op n (ix o0) = Op ∧ upd Aa n x = Aa ∧ upd Ab n y = Ab ∧ upd Ac n z = Ac ∧ 0 = rd) from Or.inl ⟨by omega, rfl, rfl, rfl, rfl, rfl, rfl, rfl, rfl, rfl, rfl⟩)⟩, by rw [ht]; exact hP, va_K.moved hW.alike hK, hD⟩, hS.F ht⟩) hS.2.2 d_Desk_node_30
  · skip
    have c1 : ¬ (o0.toInt < 0) := fun h => c1 ((ri_lt rfl rfl).mpr h)
    refine lv_iload_n hx hb d_Desk_node_4 rfl (lv_at hl 1 rfl) ?_
    refine lv_bipush (v := nI 11) hx hb d_Desk_node_5 rfl ?_
    refine lv_icmp_gt (tgt := 29) hx hb d_Desk_node_7 (by decide) (fun c7 => ?_) (fun c7 => ?_)
    · skip
      have c7 : ((11 : Nat) : Int) < o0.toInt := (ri_lt (nI_toInt (show _ < 2 ^ 31 by omega)) rfl).mp c7
      have hq : nwd n Wd o0 x y z = 0 := nwd_0 (by first | omega | (intro h; rw [ix_of eO hOb] at h; exact absurd c26 (by rw [if_pos h.2.2]; decide)))
      refine lv_iconst (v := (-1 : Int32)) hx hb d_Desk_node_29 rfl ?_
      exact W.iret (v := (-1 : Int32)) hx hb hr (fun t ht hW => ⟨⟨(-1 : Int32), (n, Kd, Wd, Rw, Op, Aa, Ab, Ac, rd), rfl, ⟨(show n ≤ 14 from by omega), b_Kd, b_Wd, b_Rw, b_Op, (show rd ≤ 1 from by omega), (show ((nwd n Wd o0 x y z < 1 ∨ 8 < nwd n Wd o0 x y z) ∧ (-1) = (-1 : Int32) ∧ n = n ∧ Kd = Kd ∧ Wd = Wd ∧ Rw = Rw ∧ Op = Op ∧ Aa = Aa ∧ Ab = Ab ∧ Ac = Ac ∧ rd = rd) ∨ (1 ≤ nwd n Wd o0 x y z ∧ nwd n Wd o0 x y z ≤ 8 ∧ n = 14 ∧ (-3) = (-1 : Int32) ∧ n = n ∧ Kd = Kd ∧ Wd = Wd ∧ Rw = Rw ∧ Op = Op ∧ Aa = Aa ∧ Ab = Ab ∧ Ac = Ac ∧ rd = rd) ∨ (1 ≤ nwd n Wd o0 x y z ∧ nwd n Wd o0 x y z ≤ 8 ∧ n < 14 ∧ nI n = (-1 : Int32) ∧ n + 1 = n ∧ upN Kd n 3 = Kd ∧ upN Wd n (nwd n Wd o0 x y z) = Wd ∧ upN Rw n 0 = Rw ∧ upN Op n (ix o0) = Op ∧ upd Aa n x = Aa ∧ upd Ab n y = Ab ∧ upd Ac n z = Ac ∧ 0 = rd) from Or.inl ⟨by omega, rfl, rfl, rfl, rfl, rfl, rfl, rfl, rfl, rfl, rfl⟩)⟩, by rw [ht]; exact hP, va_K.moved hW.alike hK, hD⟩, hS.F ht⟩) hS.2.2 d_Desk_node_30
    · skip
      have c7 : ¬ (((11 : Nat) : Int) < o0.toInt) := fun h => c7 ((ri_lt (nI_toInt (show _ < 2 ^ 31 by omega)) rfl).mpr h)
      obtain ⟨O, eO, hO, hOb⟩ := raw_nat (x := o0) (by omega)
      rw [eO] at hl
      refine lv_aload_n hx hb d_Desk_node_10 rfl (lv_at hl 0 rfl) ?_
      refine va_get (D := (dC, dI)) (ci := 5) (v := .ref a_sig) (C := R_Desk) (T := F_Desk) (N := 9) hx hb hts (wi i_Desk) hown hK hP 0 rfl rfl 0 (by decide) (hts _ (mt 242 rfl rfl)) (fun _ h9 => h9) rfl d_Desk_node_11 ?_
      refine va_gets hx hb hE.2.2.1 hS hown (hts _ (mt 285 rfl rfl)) (fun _ h => h) d_Desk_node_14 ?_
      refine lv_iload_n hx hb d_Desk_node_17 rfl (lv_at hl 1 rfl) ?_
      refine va_ti hx hb hE.2.2.2 hS (i := nI O) (vp_in_nI (by omega) (by decide)) (v := .int (nI (tab O))) (by rw [nI_clamp (show _ < 2 ^ 31 by omega)]) d_Desk_node_18 ?_
      have ht_1 := tab_le O
      refine lv_iload_n hx hb d_Desk_node_19 rfl (lv_at hl 2 rfl) ?_
      refine lv_iload_n hx hb d_Desk_node_20 rfl (lv_at hl 3 rfl) ?_
      refine lv_iload hx hb d_Desk_node_21 (lv_at hl 4 rfl) ?_
      refine k_i (wr := [(a_desk, .inr (5, [.ref a_sig, .ref a_stm, .ref a_chk, .ref a_net, .ref a_mkr, .ref a_nwords, .int (nI rd), .int fw, .int (nI ck)])), (a_kind, .inl (cI, 14, .inl (nF Kd))), (a_width, .inl (cI, 14, .inl (nF Wd))), (a_rword, .inl (cI, 14, .inl (nF Rw))), (a_sop, .inl (cI, 14, .inl (nF Op))), (a_sa, .inl (cI, 14, .inl Aa)), (a_sb, .inl (cI, 14, .inl Ab)), (a_sc, .inl (cI, 14, .inl Ac))]) (w2 := fun (u : Unit) => [(a_desk, .inr (5, [.ref a_sig, .ref a_stm, .ref a_chk, .ref a_net, .ref a_mkr, .ref a_nwords, .int (nI rd), .int fw, .int (nI ck)])), (a_sig, .inr (1, [.ref a_kind, .ref a_width, .ref a_rword, .ref a_sop, .ref a_sa, .ref a_sb, .ref a_sc, .int (nI n)])), (a_kind, .inl (cI, 14, .inl (nF Kd))), (a_width, .inl (cI, 14, .inl (nF Wd))), (a_rword, .inl (cI, 14, .inl (nF Rw))), (a_sop, .inl (cI, 14, .inl (nF Op))), (a_sa, .inl (cI, 14, .inl Aa)), (a_sb, .inl (cI, 14, .inl Ab)), (a_sc, .inl (cI, 14, .inl Ac))]) (va_runV (As := [.int (nI (tab O)), .int x, .int y, .int z]) (rest := []) ⟨hx, hb, hml, hown, hts⟩ (c_Sig_hasAll l dC dI cI cZ a_sig a_kind a_width a_rword a_sop a_sa a_sb a_sc tt s.heap.size n (tab O) x y z (by omega) (by omega)) (cwV 4 hts (gd_V in_tl (mw 287 rfl rfl) (mw 288 rfl rfl) (mw 289 rfl rfl) (mw 42 rfl rfl) (mw 290 rfl rfl)) rfl rfl rfl (by decide +kernel) ⟨Nat.le_of_ble_eq_true rfl, Nat.le_of_ble_eq_true rfl⟩) (k_preV hK hP hD hS hA hE [1] (by decide) rfl 1 1 rfl rfl) rfl rfl hl.1 rfl (lv_room (Nat.le_of_ble_eq_true rfl)) d_Desk_node_23 ⟨Nat.zero_le _, Nat.zero_le _⟩) hP hD hS hA [1] [0, 2, 3, 4, 5, 6, 7, 8] [0, 8, 1, 2, 3, 4, 5, 6, 7] rfl rfl (by decide) (by decide) (by decide) (fun _ => rfl) (fun r_2 u H locs hw hP hD hS => ?_)
      obtain rfl : (r_2 = nI (if ((tab O) < 1 ∨ hs n x = 1) ∧ ((tab O) < 2 ∨ hs n y = 1) ∧ ((tab O) < 3 ∨ hs n z = 1) then 1 else 0)) := hw
      have hP : va_P (dC, dI) classes [(a_desk, .inr (5, [.ref a_sig, .ref a_stm, .ref a_chk, .ref a_net, .ref a_mkr, .ref a_nwords, .int (nI rd), .int fw, .int (nI ck)])), (a_sig, .inr (1, [.ref a_kind, .ref a_width, .ref a_rword, .ref a_sop, .ref a_sa, .ref a_sb, .ref a_sc, .int (nI n)])), (a_kind, .inl (cI, 14, .inl (nF Kd))), (a_width, .inl (cI, 14, .inl (nF Wd))), (a_rword, .inl (cI, 14, .inl (nF Rw))), (a_sop, .inl (cI, 14, .inl (nF Op))), (a_sa, .inl (cI, 14, .inl Aa)), (a_sb, .inl (cI, 14, .inl Ab)), (a_sc, .inl (cI, 14, .inl Ac))] H := hP
      have hD : va_D A [(a_desk, .inr (5, [.ref a_sig, .ref a_stm, .ref a_chk, .ref a_net, .ref a_mkr, .ref a_nwords, .int (nI rd), .int fw, .int (nI ck)])), (a_sig, .inr (1, [.ref a_kind, .ref a_width, .ref a_rword, .ref a_sop, .ref a_sa, .ref a_sb, .ref a_sc, .int (nI n)])), (a_kind, .inl (cI, 14, .inl (nF Kd))), (a_width, .inl (cI, 14, .inl (nF Wd))), (a_rword, .inl (cI, 14, .inl (nF Rw))), (a_sop, .inl (cI, 14, .inl (nF Op))), (a_sa, .inl (cI, 14, .inl Aa)), (a_sb, .inl (cI, 14, .inl Ab)), (a_sc, .inl (cI, 14, .inl Ac))] := hD
      refine lv_if_ne (tgt := 31) hx hb d_Desk_node_26 (by decide) (fun c26 => ?_) (fun c26 => ?_)
      · skip
        have c26 : ¬ ((if ((tab O) < 1 ∨ hs n x = 1) ∧ ((tab O) < 2 ∨ hs n y = 1) ∧ ((tab O) < 3 ∨ hs n z = 1) then 1 else 0) = 0) := fun h => c26 ((nI_eq0 (by split <;> decide)).mpr h)
        have hq0 : (tab O < 1 ∨ hs n x = 1) ∧ (tab O < 2 ∨ hs n y = 1) ∧ (tab O < 3 ∨ hs n z = 1) := Classical.byContradiction (fun h => c26 (if_neg h))
        have hq : nwd n Wd o0 x y z = wdo Wd O x y z := by rw [nwd_1 (by rw [ix_of eO hOb]; exact ⟨by omega, by omega, hq0⟩), ix_of eO hOb]
        have hw100 := wdo_le b_Wd O x y z
        refine lv_aload_n hx hb d_Desk_node_31 rfl (lv_at hl 0 rfl) ?_
        refine va_get (D := (dC, dI)) (ci := 5) (v := .ref a_sig) (C := R_Desk) (T := F_Desk) (N := 9) hx hb hts (wi i_Desk) hown hK hP 0 rfl rfl 0 (by decide) (hts _ (mt 242 rfl rfl)) (fun _ h9 => h9) rfl d_Desk_node_32 ?_
        refine lv_iload_n hx hb d_Desk_node_35 rfl (lv_at hl 1 rfl) ?_
        refine lv_iload_n hx hb d_Desk_node_36 rfl (lv_at hl 2 rfl) ?_
        refine lv_iload_n hx hb d_Desk_node_37 rfl (lv_at hl 3 rfl) ?_
        refine lv_iload hx hb d_Desk_node_38 (lv_at hl 4 rfl) ?_
        refine k_i (wr := [(a_desk, .inr (5, [.ref a_sig, .ref a_stm, .ref a_chk, .ref a_net, .ref a_mkr, .ref a_nwords, .int (nI rd), .int fw, .int (nI ck)])), (a_kind, .inl (cI, 14, .inl (nF Kd))), (a_rword, .inl (cI, 14, .inl (nF Rw))), (a_sop, .inl (cI, 14, .inl (nF Op))), (a_sa, .inl (cI, 14, .inl Aa)), (a_sb, .inl (cI, 14, .inl Ab)), (a_sc, .inl (cI, 14, .inl Ac))]) (w2 := fun (u : Unit) => [(a_desk, .inr (5, [.ref a_sig, .ref a_stm, .ref a_chk, .ref a_net, .ref a_mkr, .ref a_nwords, .int (nI rd), .int fw, .int (nI ck)])), (a_sig, .inr (1, [.ref a_kind, .ref a_width, .ref a_rword, .ref a_sop, .ref a_sa, .ref a_sb, .ref a_sc, .int (nI n)])), (a_kind, .inl (cI, 14, .inl (nF Kd))), (a_width, .inl (cI, 14, .inl (nF Wd))), (a_rword, .inl (cI, 14, .inl (nF Rw))), (a_sop, .inl (cI, 14, .inl (nF Op))), (a_sa, .inl (cI, 14, .inl Aa)), (a_sb, .inl (cI, 14, .inl Ab)), (a_sc, .inl (cI, 14, .inl Ac))]) (va_runV (As := [.int (nI O), .int x, .int y, .int z]) (rest := []) ⟨hx, hb, hml, hown, hts⟩ (c_Sig_widthOfNode l dC dI cI cZ a_sig a_kind a_width a_rword a_sop a_sa a_sb a_sc tt H.size n Wd O x y z (by omega) b_Wd (by omega) (fun h => hq0.1.resolve_left (by omega)) (fun h => hq0.2.1.resolve_left (by omega)) (fun h => hq0.2.2.resolve_left (by omega))) (cwV 4 hts (gd_V in_tl (mw 295 rfl rfl) (mw 296 rfl rfl) (mw 297 rfl rfl) (mw 42 rfl rfl) (mw 298 rfl rfl)) rfl rfl rfl (by decide +kernel) ⟨Nat.le_of_ble_eq_true rfl, Nat.le_of_ble_eq_true rfl⟩) (k_preV hK hP hD hS hA hE [1, 3] (by decide) rfl 1 1 rfl rfl) rfl rfl hl.1 rfl (lv_room (Nat.le_of_ble_eq_true rfl)) d_Desk_node_40 ⟨Nat.zero_le _, Nat.zero_le _⟩) hP hD hS hA [1, 3] [0, 2, 4, 5, 6, 7, 8] [0, 7, 1, 8, 2, 3, 4, 5, 6] rfl rfl (by decide) (by decide) (by decide) (fun _ => rfl) (fun r_3 u H locs hw hP hD hS => ?_)
        obtain rfl : (r_3 = nI (wdo Wd O x y z)) := hw
        have hP : va_P (dC, dI) classes [(a_desk, .inr (5, [.ref a_sig, .ref a_stm, .ref a_chk, .ref a_net, .ref a_mkr, .ref a_nwords, .int (nI rd), .int fw, .int (nI ck)])), (a_sig, .inr (1, [.ref a_kind, .ref a_width, .ref a_rword, .ref a_sop, .ref a_sa, .ref a_sb, .ref a_sc, .int (nI n)])), (a_kind, .inl (cI, 14, .inl (nF Kd))), (a_width, .inl (cI, 14, .inl (nF Wd))), (a_rword, .inl (cI, 14, .inl (nF Rw))), (a_sop, .inl (cI, 14, .inl (nF Op))), (a_sa, .inl (cI, 14, .inl Aa)), (a_sb, .inl (cI, 14, .inl Ab)), (a_sc, .inl (cI, 14, .inl Ac))] H := hP
        have hD : va_D A [(a_desk, .inr (5, [.ref a_sig, .ref a_stm, .ref a_chk, .ref a_net, .ref a_mkr, .ref a_nwords, .int (nI rd), .int fw, .int (nI ck)])), (a_sig, .inr (1, [.ref a_kind, .ref a_width, .ref a_rword, .ref a_sop, .ref a_sa, .ref a_sb, .ref a_sc, .int (nI n)])), (a_kind, .inl (cI, 14, .inl (nF Kd))), (a_width, .inl (cI, 14, .inl (nF Wd))), (a_rword, .inl (cI, 14, .inl (nF Rw))), (a_sop, .inl (cI, 14, .inl (nF Op))), (a_sa, .inl (cI, 14, .inl Aa)), (a_sb, .inl (cI, 14, .inl Ab)), (a_sc, .inl (cI, 14, .inl Ac))] := hD
        refine lv_istore (lv' := [(5, .int (nI (wdo Wd O x y z))), (0, .ref a_desk), (1, .int (nI O)), (2, .int x), (3, .int y), (4, .int z)]) hx hb d_Desk_node_43 hl (by decide) rfl (fun ls hl => ?_)
        refine lv_iload hx hb d_Desk_node_45 (lv_at hl 0 rfl) ?_
        refine lv_iconst (v := nI 1) hx hb d_Desk_node_47 rfl ?_
        refine lv_icmp_lt (tgt := 58) hx hb d_Desk_node_48 (by decide) (fun c48 => ?_) (fun c48 => ?_)
        · skip
          have c48 : (wdo Wd O x y z) < 1 := (nI_ltI (by omega) (by omega)).mp c48
          refine lv_iconst (v := (-1 : Int32)) hx hb d_Desk_node_58 rfl ?_
          exact W.iret (v := (-1 : Int32)) hx hb hr (fun t ht hW => ⟨⟨(-1 : Int32), (n, Kd, Wd, Rw, Op, Aa, Ab, Ac, rd), rfl, ⟨(show n ≤ 14 from by omega), b_Kd, b_Wd, b_Rw, b_Op, (show rd ≤ 1 from by omega), (show ((nwd n Wd o0 x y z < 1 ∨ 8 < nwd n Wd o0 x y z) ∧ (-1) = (-1 : Int32) ∧ n = n ∧ Kd = Kd ∧ Wd = Wd ∧ Rw = Rw ∧ Op = Op ∧ Aa = Aa ∧ Ab = Ab ∧ Ac = Ac ∧ rd = rd) ∨ (1 ≤ nwd n Wd o0 x y z ∧ nwd n Wd o0 x y z ≤ 8 ∧ n = 14 ∧ (-3) = (-1 : Int32) ∧ n = n ∧ Kd = Kd ∧ Wd = Wd ∧ Rw = Rw ∧ Op = Op ∧ Aa = Aa ∧ Ab = Ab ∧ Ac = Ac ∧ rd = rd) ∨ (1 ≤ nwd n Wd o0 x y z ∧ nwd n Wd o0 x y z ≤ 8 ∧ n < 14 ∧ nI n = (-1 : Int32) ∧ n + 1 = n ∧ upN Kd n 3 = Kd ∧ upN Wd n (nwd n Wd o0 x y z) = Wd ∧ upN Rw n 0 = Rw ∧ upN Op n (ix o0) = Op ∧ upd Aa n x = Aa ∧ upd Ab n y = Ab ∧ upd Ac n z = Ac ∧ 0 = rd) from Or.inl ⟨by omega, rfl, rfl, rfl, rfl, rfl, rfl, rfl, rfl, rfl, rfl⟩)⟩, by rw [ht]; exact hP, va_K.moved hW.alike hK, hD⟩, hS.F ht⟩) hS.2.2 d_Desk_node_59
        · skip
          have c48 : ¬ ((wdo Wd O x y z) < 1) := fun h => c48 ((nI_ltI (by omega) (by omega)).mpr h)
          refine lv_iload hx hb d_Desk_node_51 (lv_at hl 0 rfl) ?_
          refine lv_bipush (v := nI 8) hx hb d_Desk_node_53 rfl ?_
          refine lv_icmp_le (tgt := 60) hx hb d_Desk_node_55 (by decide) (fun c55 => ?_) (fun c55 => ?_)
          · skip
            have c55 : (wdo Wd O x y z) ≤ 8 := (nI_leI (by omega) (by omega)).mp c55
            refine lv_aload_n hx hb d_Desk_node_60 rfl (lv_at hl 1 rfl) ?_
            refine va_get (D := (dC, dI)) (ci := 5) (v := .ref a_sig) (C := R_Desk) (T := F_Desk) (N := 9) hx hb hts (wi i_Desk) hown hK hP 0 rfl rfl 0 (by decide) (hts _ (mt 242 rfl rfl)) (fun _ h9 => h9) rfl d_Desk_node_61 ?_
            refine va_get (D := (dC, dI)) (ci := 1) (v := .int (nI n)) (C := R_Sig) (T := F_Sig) (N := 8) hx hb hts (wi i_Sig) hown hK hP 1 rfl rfl 7 (by decide) (hts _ (mt 86 rfl rfl)) (fun _ h9 => h9) rfl d_Desk_node_64 ?_
            refine lv_bipush (v := nI 14) hx hb d_Desk_node_67 rfl ?_
            refine lv_icmp_ne (tgt := 75) hx hb d_Desk_node_69 (by decide) (fun c69 => ?_) (fun c69 => ?_)
            · skip
              have c69 : ¬ (n = 14) := fun h => c69 ((nI_eq (by omega) (by omega)).mpr h)
              refine lv_aload_n hx hb d_Desk_node_75 rfl (lv_at hl 1 rfl) ?_
              refine lv_iconst (v := nI 0) hx hb d_Desk_node_76 rfl ?_
              refine va_put (D := (dC, dI)) (ci := 5) (v := .int (nI 0)) (ty := .boolean) (C := R_Desk) (T := F_Desk) (N := 9) hx hb hts (wi i_Desk) t_Desk t_Desk_ok n_Desk hown hK hP hD hS 0 rfl rfl 6 (by decide) (hts _ (mt 248 rfl rfl)) (fun _ h9 => h9) rfl (by decide +kernel) (k_narZ (by omega)) (k_fitZ (by omega)) (Nat.le_of_ble_eq_true rfl) d_Desk_node_77 (fun H locs hP hD hS => ?_)
              have hP : va_P (dC, dI) classes [(a_desk, .inr (5, [.ref a_sig, .ref a_stm, .ref a_chk, .ref a_net, .ref a_mkr, .ref a_nwords, .int (nI 0), .int fw, .int (nI ck)])), (a_sig, .inr (1, [.ref a_kind, .ref a_width, .ref a_rword, .ref a_sop, .ref a_sa, .ref a_sb, .ref a_sc, .int (nI n)])), (a_kind, .inl (cI, 14, .inl (nF Kd))), (a_width, .inl (cI, 14, .inl (nF Wd))), (a_rword, .inl (cI, 14, .inl (nF Rw))), (a_sop, .inl (cI, 14, .inl (nF Op))), (a_sa, .inl (cI, 14, .inl Aa)), (a_sb, .inl (cI, 14, .inl Ab)), (a_sc, .inl (cI, 14, .inl Ac))] H := hP
              have hD : va_D A [(a_desk, .inr (5, [.ref a_sig, .ref a_stm, .ref a_chk, .ref a_net, .ref a_mkr, .ref a_nwords, .int (nI 0), .int fw, .int (nI ck)])), (a_sig, .inr (1, [.ref a_kind, .ref a_width, .ref a_rword, .ref a_sop, .ref a_sa, .ref a_sb, .ref a_sc, .int (nI n)])), (a_kind, .inl (cI, 14, .inl (nF Kd))), (a_width, .inl (cI, 14, .inl (nF Wd))), (a_rword, .inl (cI, 14, .inl (nF Rw))), (a_sop, .inl (cI, 14, .inl (nF Op))), (a_sa, .inl (cI, 14, .inl Aa)), (a_sb, .inl (cI, 14, .inl Ab)), (a_sc, .inl (cI, 14, .inl Ac))] := hD
              refine lv_aload_n hx hb d_Desk_node_80 rfl (lv_at hl 1 rfl) ?_
              refine va_get (D := (dC, dI)) (ci := 5) (v := .ref a_sig) (C := R_Desk) (T := F_Desk) (N := 9) hx hb hts (wi i_Desk) hown hK hP 0 rfl rfl 0 (by decide) (hts _ (mt 242 rfl rfl)) (fun _ h9 => h9) rfl d_Desk_node_81 ?_
              refine lv_iconst (v := nI 3) hx hb d_Desk_node_84 rfl ?_
              refine lv_iload hx hb d_Desk_node_85 (lv_at hl 0 rfl) ?_
              refine lv_iconst (v := nI 0) hx hb d_Desk_node_87 rfl ?_
              refine k_i (wr := [(a_desk, .inr (5, [.ref a_sig, .ref a_stm, .ref a_chk, .ref a_net, .ref a_mkr, .ref a_nwords, .int (nI 0), .int fw, .int (nI ck)])), (a_sop, .inl (cI, 14, .inl (nF Op))), (a_sa, .inl (cI, 14, .inl Aa)), (a_sb, .inl (cI, 14, .inl Ab)), (a_sc, .inl (cI, 14, .inl Ac))]) (w2 := fun (u : Unit) => [(a_desk, .inr (5, [.ref a_sig, .ref a_stm, .ref a_chk, .ref a_net, .ref a_mkr, .ref a_nwords, .int (nI 0), .int fw, .int (nI ck)])), (a_sig, .inr (1, [.ref a_kind, .ref a_width, .ref a_rword, .ref a_sop, .ref a_sa, .ref a_sb, .ref a_sc, .int (nI (n + 1))])), (a_kind, .inl (cI, 14, .inl (nF (upN Kd n 3)))), (a_width, .inl (cI, 14, .inl (nF (upN Wd n (wdo Wd O x y z))))), (a_rword, .inl (cI, 14, .inl (nF (upN Rw n (lowb (nI 0) (wdo Wd O x y z)))))), (a_sop, .inl (cI, 14, .inl (nF Op))), (a_sa, .inl (cI, 14, .inl Aa)), (a_sb, .inl (cI, 14, .inl Ab)), (a_sc, .inl (cI, 14, .inl Ac))]) (va_runV (As := [.int (nI 3), .int (nI (wdo Wd O x y z)), .int (nI 0)]) (rest := []) ⟨hx, hb, hml, hown, hts⟩ (c_Sig_addPlain l dC dI cI cZ a_sig a_kind a_width a_rword a_sop a_sa a_sb a_sc tt H.size n Kd Wd Rw 3 (wdo Wd O x y z) (nI 0) (by omega) b_Kd b_Wd b_Rw (by omega) (by omega) (by omega)) (cwV 3 hts (gd_V in_tl (mw 274 rfl rfl) (mw 275 rfl rfl) (mw 276 rfl rfl) (mw 42 rfl rfl) (mw 277 rfl rfl)) rfl rfl rfl (by decide +kernel) ⟨Nat.le_of_ble_eq_true rfl, Nat.le_of_ble_eq_true rfl⟩) (k_preV hK hP hD hS hA hE [1, 2, 3, 4] (by decide) rfl 1 1 rfl rfl) rfl rfl hl.1 rfl (lv_room (Nat.le_of_ble_eq_true rfl)) d_Desk_node_88 ⟨Nat.zero_le _, Nat.zero_le _⟩) hP hD hS hA [1, 2, 3, 4] [0, 5, 6, 7, 8] [0, 5, 6, 7, 8, 1, 2, 3, 4] rfl rfl (by decide) (by decide) (by decide) (fun _ => rfl) (fun r_4 u H locs hw hP hD hS => ?_)
              obtain rfl : (r_4 = nI n) := hw
              have hP : va_P (dC, dI) classes [(a_desk, .inr (5, [.ref a_sig, .ref a_stm, .ref a_chk, .ref a_net, .ref a_mkr, .ref a_nwords, .int (nI 0), .int fw, .int (nI ck)])), (a_sig, .inr (1, [.ref a_kind, .ref a_width, .ref a_rword, .ref a_sop, .ref a_sa, .ref a_sb, .ref a_sc, .int (nI (n + 1))])), (a_kind, .inl (cI, 14, .inl (nF (upN Kd n 3)))), (a_width, .inl (cI, 14, .inl (nF (upN Wd n (wdo Wd O x y z))))), (a_rword, .inl (cI, 14, .inl (nF (upN Rw n (lowb (nI 0) (wdo Wd O x y z)))))), (a_sop, .inl (cI, 14, .inl (nF Op))), (a_sa, .inl (cI, 14, .inl Aa)), (a_sb, .inl (cI, 14, .inl Ab)), (a_sc, .inl (cI, 14, .inl Ac))] H := hP
              have hD : va_D A [(a_desk, .inr (5, [.ref a_sig, .ref a_stm, .ref a_chk, .ref a_net, .ref a_mkr, .ref a_nwords, .int (nI 0), .int fw, .int (nI ck)])), (a_sig, .inr (1, [.ref a_kind, .ref a_width, .ref a_rword, .ref a_sop, .ref a_sa, .ref a_sb, .ref a_sc, .int (nI (n + 1))])), (a_kind, .inl (cI, 14, .inl (nF (upN Kd n 3)))), (a_width, .inl (cI, 14, .inl (nF (upN Wd n (wdo Wd O x y z))))), (a_rword, .inl (cI, 14, .inl (nF (upN Rw n (lowb (nI 0) (wdo Wd O x y z)))))), (a_sop, .inl (cI, 14, .inl (nF Op))), (a_sa, .inl (cI, 14, .inl Aa)), (a_sb, .inl (cI, 14, .inl Ab)), (a_sc, .inl (cI, 14, .inl Ac))] := hD
              have bK : ∀ j, upN Kd n 3 j < 4 := upN_lt b_Kd (by omega)
              have bW : ∀ j, upN Wd n (wdo Wd O x y z) j < 9 := upN_lt b_Wd (by omega)
              have bR : ∀ j, upN Rw n (lowb (nI 0) (wdo Wd O x y z)) j < 256 := upN_lt b_Rw (by have := lowb_lt (nI 0) (wdo Wd O x y z); have := pow8 (n := wdo Wd O x y z) (by omega); omega)
              refine lv_istore (lv' := [(6, .int (nI n)), (5, .int (nI (wdo Wd O x y z))), (0, .ref a_desk), (1, .int (nI O)), (2, .int x), (3, .int y), (4, .int z)]) hx hb d_Desk_node_91 hl (by decide) rfl (fun ls hl => ?_)
              refine lv_aload_n hx hb d_Desk_node_93 rfl (lv_at hl 2 rfl) ?_
              refine va_get (D := (dC, dI)) (ci := 5) (v := .ref a_sig) (C := R_Desk) (T := F_Desk) (N := 9) hx hb hts (wi i_Desk) hown hK hP 0 rfl rfl 0 (by decide) (hts _ (mt 242 rfl rfl)) (fun _ h9 => h9) rfl d_Desk_node_94 ?_
              refine lv_iload hx hb d_Desk_node_97 (lv_at hl 0 rfl) ?_
              refine lv_iload_n hx hb d_Desk_node_99 rfl (lv_at hl 3 rfl) ?_
              refine lv_iload_n hx hb d_Desk_node_100 rfl (lv_at hl 4 rfl) ?_
              refine lv_iload_n hx hb d_Desk_node_101 rfl (lv_at hl 5 rfl) ?_
              refine lv_iload hx hb d_Desk_node_102 (lv_at hl 6 rfl) ?_
              refine k_v (wr := [(a_desk, .inr (5, [.ref a_sig, .ref a_stm, .ref a_chk, .ref a_net, .ref a_mkr, .ref a_nwords, .int (nI 0), .int fw, .int (nI ck)])), (a_kind, .inl (cI, 14, .inl (nF (upN Kd n 3)))), (a_width, .inl (cI, 14, .inl (nF (upN Wd n (wdo Wd O x y z))))), (a_rword, .inl (cI, 14, .inl (nF (upN Rw n (lowb (nI 0) (wdo Wd O x y z))))))]) (w2 := fun (u : Unit) => [(a_desk, .inr (5, [.ref a_sig, .ref a_stm, .ref a_chk, .ref a_net, .ref a_mkr, .ref a_nwords, .int (nI 0), .int fw, .int (nI ck)])), (a_sig, .inr (1, [.ref a_kind, .ref a_width, .ref a_rword, .ref a_sop, .ref a_sa, .ref a_sb, .ref a_sc, .int (nI (n + 1))])), (a_kind, .inl (cI, 14, .inl (nF (upN Kd n 3)))), (a_width, .inl (cI, 14, .inl (nF (upN Wd n (wdo Wd O x y z))))), (a_rword, .inl (cI, 14, .inl (nF (upN Rw n (lowb (nI 0) (wdo Wd O x y z)))))), (a_sop, .inl (cI, 14, .inl (nF (upN Op n O)))), (a_sa, .inl (cI, 14, .inl (upd Aa n x))), (a_sb, .inl (cI, 14, .inl (upd Ab n y))), (a_sc, .inl (cI, 14, .inl (upd Ac n z)))]) (va_runV (As := [.int (nI n), .int (nI O), .int x, .int y, .int z]) (rest := []) ⟨hx, hb, hml, hown, hts⟩ (c_Sig_describeNode l dC dI cI cZ a_sig a_kind a_width a_rword a_sop a_sa a_sb a_sc tt H.size (n + 1) Op Aa Ab Ac n O x y z (by omega) b_Op (by omega) (by omega)) (cwV 5 hts (gd_V in_tl (mw 314 rfl rfl) (mw 315 rfl rfl) (mw 316 rfl rfl) (mw 42 rfl rfl) (mw 317 rfl rfl)) rfl rfl rfl (by decide +kernel) ⟨Nat.le_of_ble_eq_true rfl, Nat.le_of_ble_eq_true rfl⟩) (k_preV hK hP hD hS hA hE [1, 5, 6, 7, 8] (by decide) rfl 1 1 rfl rfl) rfl rfl hl.1 rfl (lv_room (Nat.le_of_ble_eq_true rfl)) d_Desk_node_104 ⟨Nat.zero_le _, Nat.zero_le _⟩) hP hD hS hA [1, 5, 6, 7, 8] [0, 2, 3, 4] [0, 4, 1, 2, 3, 5, 6, 7, 8] rfl rfl (by decide) (by decide) (by decide) (fun _ => rfl) (fun u H locs hw hP hD hS => ?_)
              have hP : va_P (dC, dI) classes [(a_desk, .inr (5, [.ref a_sig, .ref a_stm, .ref a_chk, .ref a_net, .ref a_mkr, .ref a_nwords, .int (nI 0), .int fw, .int (nI ck)])), (a_sig, .inr (1, [.ref a_kind, .ref a_width, .ref a_rword, .ref a_sop, .ref a_sa, .ref a_sb, .ref a_sc, .int (nI (n + 1))])), (a_kind, .inl (cI, 14, .inl (nF (upN Kd n 3)))), (a_width, .inl (cI, 14, .inl (nF (upN Wd n (wdo Wd O x y z))))), (a_rword, .inl (cI, 14, .inl (nF (upN Rw n (lowb (nI 0) (wdo Wd O x y z)))))), (a_sop, .inl (cI, 14, .inl (nF (upN Op n O)))), (a_sa, .inl (cI, 14, .inl (upd Aa n x))), (a_sb, .inl (cI, 14, .inl (upd Ab n y))), (a_sc, .inl (cI, 14, .inl (upd Ac n z)))] H := hP
              have hD : va_D A [(a_desk, .inr (5, [.ref a_sig, .ref a_stm, .ref a_chk, .ref a_net, .ref a_mkr, .ref a_nwords, .int (nI 0), .int fw, .int (nI ck)])), (a_sig, .inr (1, [.ref a_kind, .ref a_width, .ref a_rword, .ref a_sop, .ref a_sa, .ref a_sb, .ref a_sc, .int (nI (n + 1))])), (a_kind, .inl (cI, 14, .inl (nF (upN Kd n 3)))), (a_width, .inl (cI, 14, .inl (nF (upN Wd n (wdo Wd O x y z))))), (a_rword, .inl (cI, 14, .inl (nF (upN Rw n (lowb (nI 0) (wdo Wd O x y z)))))), (a_sop, .inl (cI, 14, .inl (nF (upN Op n O)))), (a_sa, .inl (cI, 14, .inl (upd Aa n x))), (a_sb, .inl (cI, 14, .inl (upd Ab n y))), (a_sc, .inl (cI, 14, .inl (upd Ac n z)))] := hD
              have bO : ∀ j, upN Op n O j < 12 := upN_lt b_Op (by omega)
              refine lv_iload hx hb d_Desk_node_107 (lv_at hl 0 rfl) ?_
              have hl0 : lowb (nI 0) (wdo Wd O x y z) = 0 := by unfold lowb; rw [pk_tn (by decide), Nat.zero_mod]
              exact W.iret (v := nI n) hx hb hr (fun t ht hW => ⟨⟨nI n, (n + 1, upN Kd n 3, upN Wd n (wdo Wd O x y z), upN Rw n (lowb (nI 0) (wdo Wd O x y z)), upN Op n O, upd Aa n x, upd Ab n y, upd Ac n z, 0), rfl, ⟨(show (n + 1) ≤ 14 from by omega), bK, bW, bR, bO, (show 0 ≤ 1 from by omega), (show ((nwd n Wd o0 x y z < 1 ∨ 8 < nwd n Wd o0 x y z) ∧ (-1) = (nI n) ∧ n = (n + 1) ∧ Kd = (upN Kd n 3) ∧ Wd = (upN Wd n (wdo Wd O x y z)) ∧ Rw = (upN Rw n (lowb (nI 0) (wdo Wd O x y z))) ∧ Op = (upN Op n O) ∧ Aa = (upd Aa n x) ∧ Ab = (upd Ab n y) ∧ Ac = (upd Ac n z) ∧ rd = 0) ∨ (1 ≤ nwd n Wd o0 x y z ∧ nwd n Wd o0 x y z ≤ 8 ∧ n = 14 ∧ (-3) = (nI n) ∧ n = (n + 1) ∧ Kd = (upN Kd n 3) ∧ Wd = (upN Wd n (wdo Wd O x y z)) ∧ Rw = (upN Rw n (lowb (nI 0) (wdo Wd O x y z))) ∧ Op = (upN Op n O) ∧ Aa = (upd Aa n x) ∧ Ab = (upd Ab n y) ∧ Ac = (upd Ac n z) ∧ rd = 0) ∨ (1 ≤ nwd n Wd o0 x y z ∧ nwd n Wd o0 x y z ≤ 8 ∧ n < 14 ∧ nI n = (nI n) ∧ n + 1 = (n + 1) ∧ upN Kd n 3 = (upN Kd n 3) ∧ upN Wd n (nwd n Wd o0 x y z) = (upN Wd n (wdo Wd O x y z)) ∧ upN Rw n 0 = (upN Rw n (lowb (nI 0) (wdo Wd O x y z))) ∧ upN Op n (ix o0) = (upN Op n O) ∧ upd Aa n x = (upd Aa n x) ∧ upd Ab n y = (upd Ab n y) ∧ upd Ac n z = (upd Ac n z) ∧ 0 = 0) from Or.inr (Or.inr ⟨by omega, by omega, by omega, rfl, rfl, rfl, by rw [hq], by rw [hl0], by rw [ix_of eO hOb], rfl, rfl, rfl, rfl⟩))⟩, by rw [ht]; exact hP, va_K.moved hW.alike hK, hD⟩, hS.F ht⟩) hS.2.2 d_Desk_node_109
            · skip
              have c69 : n = 14 := (nI_eq (by omega) (by omega)).mp c69
              refine lv_bipush (v := (-3 : Int32)) hx hb d_Desk_node_72 rfl ?_
              exact W.iret (v := (-3 : Int32)) hx hb hr (fun t ht hW => ⟨⟨(-3 : Int32), (n, Kd, Wd, Rw, Op, Aa, Ab, Ac, rd), rfl, ⟨(show n ≤ 14 from by omega), b_Kd, b_Wd, b_Rw, b_Op, (show rd ≤ 1 from by omega), (show ((nwd n Wd o0 x y z < 1 ∨ 8 < nwd n Wd o0 x y z) ∧ (-1) = (-3 : Int32) ∧ n = n ∧ Kd = Kd ∧ Wd = Wd ∧ Rw = Rw ∧ Op = Op ∧ Aa = Aa ∧ Ab = Ab ∧ Ac = Ac ∧ rd = rd) ∨ (1 ≤ nwd n Wd o0 x y z ∧ nwd n Wd o0 x y z ≤ 8 ∧ n = 14 ∧ (-3) = (-3 : Int32) ∧ n = n ∧ Kd = Kd ∧ Wd = Wd ∧ Rw = Rw ∧ Op = Op ∧ Aa = Aa ∧ Ab = Ab ∧ Ac = Ac ∧ rd = rd) ∨ (1 ≤ nwd n Wd o0 x y z ∧ nwd n Wd o0 x y z ≤ 8 ∧ n < 14 ∧ nI n = (-3 : Int32) ∧ n + 1 = n ∧ upN Kd n 3 = Kd ∧ upN Wd n (nwd n Wd o0 x y z) = Wd ∧ upN Rw n 0 = Rw ∧ upN Op n (ix o0) = Op ∧ upd Aa n x = Aa ∧ upd Ab n y = Ab ∧ upd Ac n z = Ac ∧ 0 = rd) from Or.inr (Or.inl ⟨by omega, by omega, c69, rfl, rfl, rfl, rfl, rfl, rfl, rfl, rfl, rfl, rfl⟩))⟩, by rw [ht]; exact hP, va_K.moved hW.alike hK, hD⟩, hS.F ht⟩) hS.2.2 d_Desk_node_74
          · skip
            have c55 : ¬ ((wdo Wd O x y z) ≤ 8) := fun h => c55 ((nI_leI (by omega) (by omega)).mpr h)
            refine lv_iconst (v := (-1 : Int32)) hx hb d_Desk_node_58 rfl ?_
            exact W.iret (v := (-1 : Int32)) hx hb hr (fun t ht hW => ⟨⟨(-1 : Int32), (n, Kd, Wd, Rw, Op, Aa, Ab, Ac, rd), rfl, ⟨(show n ≤ 14 from by omega), b_Kd, b_Wd, b_Rw, b_Op, (show rd ≤ 1 from by omega), (show ((nwd n Wd o0 x y z < 1 ∨ 8 < nwd n Wd o0 x y z) ∧ (-1) = (-1 : Int32) ∧ n = n ∧ Kd = Kd ∧ Wd = Wd ∧ Rw = Rw ∧ Op = Op ∧ Aa = Aa ∧ Ab = Ab ∧ Ac = Ac ∧ rd = rd) ∨ (1 ≤ nwd n Wd o0 x y z ∧ nwd n Wd o0 x y z ≤ 8 ∧ n = 14 ∧ (-3) = (-1 : Int32) ∧ n = n ∧ Kd = Kd ∧ Wd = Wd ∧ Rw = Rw ∧ Op = Op ∧ Aa = Aa ∧ Ab = Ab ∧ Ac = Ac ∧ rd = rd) ∨ (1 ≤ nwd n Wd o0 x y z ∧ nwd n Wd o0 x y z ≤ 8 ∧ n < 14 ∧ nI n = (-1 : Int32) ∧ n + 1 = n ∧ upN Kd n 3 = Kd ∧ upN Wd n (nwd n Wd o0 x y z) = Wd ∧ upN Rw n 0 = Rw ∧ upN Op n (ix o0) = Op ∧ upd Aa n x = Aa ∧ upd Ab n y = Ab ∧ upd Ac n z = Ac ∧ 0 = rd) from Or.inl ⟨by omega, rfl, rfl, rfl, rfl, rfl, rfl, rfl, rfl, rfl, rfl⟩)⟩, by rw [ht]; exact hP, va_K.moved hW.alike hK, hD⟩, hS.F ht⟩) hS.2.2 d_Desk_node_59
      · skip
        have c26 : (if ((tab O) < 1 ∨ hs n x = 1) ∧ ((tab O) < 2 ∨ hs n y = 1) ∧ ((tab O) < 3 ∨ hs n z = 1) then 1 else 0) = 0 := (nI_eq0 (by split <;> decide)).mp c26
        have hq : nwd n Wd o0 x y z = 0 := nwd_0 (by first | omega | (intro h; rw [ix_of eO hOb] at h; exact absurd c26 (by rw [if_pos h.2.2]; decide)))
        refine lv_iconst (v := (-1 : Int32)) hx hb d_Desk_node_29 rfl ?_
        exact W.iret (v := (-1 : Int32)) hx hb hr (fun t ht hW => ⟨⟨(-1 : Int32), (n, Kd, Wd, Rw, Op, Aa, Ab, Ac, rd), rfl, ⟨(show n ≤ 14 from by omega), b_Kd, b_Wd, b_Rw, b_Op, (show rd ≤ 1 from by omega), (show ((nwd n Wd o0 x y z < 1 ∨ 8 < nwd n Wd o0 x y z) ∧ (-1) = (-1 : Int32) ∧ n = n ∧ Kd = Kd ∧ Wd = Wd ∧ Rw = Rw ∧ Op = Op ∧ Aa = Aa ∧ Ab = Ab ∧ Ac = Ac ∧ rd = rd) ∨ (1 ≤ nwd n Wd o0 x y z ∧ nwd n Wd o0 x y z ≤ 8 ∧ n = 14 ∧ (-3) = (-1 : Int32) ∧ n = n ∧ Kd = Kd ∧ Wd = Wd ∧ Rw = Rw ∧ Op = Op ∧ Aa = Aa ∧ Ab = Ab ∧ Ac = Ac ∧ rd = rd) ∨ (1 ≤ nwd n Wd o0 x y z ∧ nwd n Wd o0 x y z ≤ 8 ∧ n < 14 ∧ nI n = (-1 : Int32) ∧ n + 1 = n ∧ upN Kd n 3 = Kd ∧ upN Wd n (nwd n Wd o0 x y z) = Wd ∧ upN Rw n 0 = Rw ∧ upN Op n (ix o0) = Op ∧ upd Aa n x = Aa ∧ upd Ab n y = Ab ∧ upd Ac n z = Ac ∧ 0 = rd) from Or.inl ⟨by omega, rfl, rfl, rfl, rfl, rfl, rfl, rfl, rfl, rfl, rfl⟩)⟩, by rw [ht]; exact hP, va_K.moved hW.alike hK, hD⟩, hS.F ht⟩) hS.2.2 d_Desk_node_30
