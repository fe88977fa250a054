abbrev b_Net_opposite : ByteArray := prog_3_method_4_code
def y_Net_opposite : MethodName := ⟨"CircuitDesk$Net", "opposite", "(I)I"⟩
def w_Net_opposite : List Cond := .code y_Net_opposite b_Net_opposite 1 (some .int) :: lw_gw
theorem d_Net_opposite_0 : decode b_Net_opposite 0 = .ok (.iload_n 0, 1) := by decide +kernel
theorem d_Net_opposite_1 : decode b_Net_opposite 1 = .ok (.iconst 1, 1) := by decide +kernel
theorem d_Net_opposite_2 : decode b_Net_opposite 2 = .ok (.ixor, 1) := by decide +kernel
theorem d_Net_opposite_3 : decode b_Net_opposite 3 = .ok (.ireturn, 1) := by decide +kernel
abbrev b_Net_bitOf : ByteArray := prog_3_method_3_code
def y_Net_bitOf : MethodName := ⟨"CircuitDesk$Net", "bitOf", "(II)I"⟩
def w_Net_bitOf : List Cond := .code y_Net_bitOf b_Net_bitOf 2 (some .int) :: lw_gw
theorem d_Net_bitOf_0 : decode b_Net_bitOf 0 = .ok (.iconst 2, 1) := by decide +kernel
theorem d_Net_bitOf_1 : decode b_Net_bitOf 1 = .ok (.iconst 1, 1) := by decide +kernel
theorem d_Net_bitOf_2 : decode b_Net_bitOf 2 = .ok (.iload_n 0, 1) := by decide +kernel
theorem d_Net_bitOf_3 : decode b_Net_bitOf 3 = .ok (.bipush 8, 2) := by decide +kernel
theorem d_Net_bitOf_5 : decode b_Net_bitOf 5 = .ok (.imul, 1) := by decide +kernel
theorem d_Net_bitOf_6 : decode b_Net_bitOf 6 = .ok (.iadd, 1) := by decide +kernel
theorem d_Net_bitOf_7 : decode b_Net_bitOf 7 = .ok (.iload_n 1, 1) := by decide +kernel
theorem d_Net_bitOf_8 : decode b_Net_bitOf 8 = .ok (.iadd, 1) := by decide +kernel
theorem d_Net_bitOf_9 : decode b_Net_bitOf 9 = .ok (.imul, 1) := by decide +kernel
theorem d_Net_bitOf_10 : decode b_Net_bitOf 10 = .ok (.ireturn, 1) := by decide +kernel
abbrev b_Net_slotOf : ByteArray := prog_3_method_9_code
def y_Net_slotOf : MethodName := ⟨"CircuitDesk$Net", "slotOf", "(I)I"⟩
def w_Net_slotOf : List Cond := .code y_Net_slotOf b_Net_slotOf 5 (some .int) :: lw_gw
theorem d_Net_slotOf_0 : decode b_Net_slotOf 0 = .ok (.iload_n 1, 1) := by decide +kernel
theorem d_Net_slotOf_1 : decode b_Net_slotOf 1 = .ok (.ldc 56, 2) := by decide +kernel
theorem d_Net_slotOf_3 : decode b_Net_slotOf 3 = .ok (.imul, 1) := by decide +kernel
theorem d_Net_slotOf_4 : decode b_Net_slotOf 4 = .ok (.bipush 21, 2) := by decide +kernel
theorem d_Net_slotOf_6 : decode b_Net_slotOf 6 = .ok (.iushr, 1) := by decide +kernel
theorem d_Net_slotOf_7 : decode b_Net_slotOf 7 = .ok (.istore_n 2, 1) := by decide +kernel
theorem d_Net_slotOf_8 : decode b_Net_slotOf 8 = .ok (.iconst 0, 1) := by decide +kernel
theorem d_Net_slotOf_9 : decode b_Net_slotOf 9 = .ok (.istore_n 3, 1) := by decide +kernel
theorem d_Net_slotOf_10 : decode b_Net_slotOf 10 = .ok (.iload_n 3, 1) := by decide +kernel
theorem d_Net_slotOf_11 : decode b_Net_slotOf 11 = .ok (.sipush 2048, 3) := by decide +kernel
theorem d_Net_slotOf_14 : decode b_Net_slotOf 14 = .ok (.if_icmp .ge 44, 3) := by decide +kernel
theorem d_Net_slotOf_17 : decode b_Net_slotOf 17 = .ok (.aload_n 0, 1) := by decide +kernel
theorem d_Net_slotOf_18 : decode b_Net_slotOf 18 = .ok (.getfield 21, 3) := by decide +kernel
theorem d_Net_slotOf_21 : decode b_Net_slotOf 21 = .ok (.iload_n 2, 1) := by decide +kernel
theorem d_Net_slotOf_22 : decode b_Net_slotOf 22 = .ok (.iaload, 1) := by decide +kernel
theorem d_Net_slotOf_23 : decode b_Net_slotOf 23 = .ok (.istore 4, 2) := by decide +kernel
theorem d_Net_slotOf_25 : decode b_Net_slotOf 25 = .ok (.iload 4, 2) := by decide +kernel
theorem d_Net_slotOf_27 : decode b_Net_slotOf 27 = .ok (.ifCond .eq 31, 3) := by decide +kernel
theorem d_Net_slotOf_30 : decode b_Net_slotOf 30 = .ok (.aload_n 0, 1) := by decide +kernel
theorem d_Net_slotOf_31 : decode b_Net_slotOf 31 = .ok (.getfield 11, 3) := by decide +kernel
theorem d_Net_slotOf_34 : decode b_Net_slotOf 34 = .ok (.iload 4, 2) := by decide +kernel
theorem d_Net_slotOf_36 : decode b_Net_slotOf 36 = .ok (.iaload, 1) := by decide +kernel
theorem d_Net_slotOf_37 : decode b_Net_slotOf 37 = .ok (.iload_n 1, 1) := by decide +kernel
theorem d_Net_slotOf_38 : decode b_Net_slotOf 38 = .ok (.if_icmp .ne 6, 3) := by decide +kernel
theorem d_Net_slotOf_41 : decode b_Net_slotOf 41 = .ok (.goto 17, 3) := by decide +kernel
theorem d_Net_slotOf_44 : decode b_Net_slotOf 44 = .ok (.iload_n 2, 1) := by decide +kernel
theorem d_Net_slotOf_45 : decode b_Net_slotOf 45 = .ok (.iconst 1, 1) := by decide +kernel
theorem d_Net_slotOf_46 : decode b_Net_slotOf 46 = .ok (.iadd, 1) := by decide +kernel
theorem d_Net_slotOf_47 : decode b_Net_slotOf 47 = .ok (.sipush 2047, 3) := by decide +kernel
theorem d_Net_slotOf_50 : decode b_Net_slotOf 50 = .ok (.iand, 1) := by decide +kernel
theorem d_Net_slotOf_51 : decode b_Net_slotOf 51 = .ok (.istore_n 2, 1) := by decide +kernel
theorem d_Net_slotOf_52 : decode b_Net_slotOf 52 = .ok (.iinc 3 1, 3) := by decide +kernel
theorem d_Net_slotOf_55 : decode b_Net_slotOf 55 = .ok (.goto (-45), 3) := by decide +kernel
theorem d_Net_slotOf_58 : decode b_Net_slotOf 58 = .ok (.iload_n 2, 1) := by decide +kernel
theorem d_Net_slotOf_59 : decode b_Net_slotOf 59 = .ok (.ireturn, 1) := by decide +kernel
abbrev b_Net_addGate : ByteArray := prog_3_method_10_code
def y_Net_addGate : MethodName := ⟨"CircuitDesk$Net", "addGate", "(II)V"⟩
def w_Net_addGate : List Cond := .code y_Net_addGate b_Net_addGate 6 none :: lw_gw
theorem d_Net_addGate_0 : decode b_Net_addGate 0 = .ok (.aload_n 0, 1) := by decide +kernel
theorem d_Net_addGate_1 : decode b_Net_addGate 1 = .ok (.getfield 30, 3) := by decide +kernel
theorem d_Net_addGate_4 : decode b_Net_addGate 4 = .ok (.sipush 1280, 3) := by decide +kernel
theorem d_Net_addGate_7 : decode b_Net_addGate 7 = .ok (.if_icmp .ne 4, 3) := by decide +kernel
theorem d_Net_addGate_10 : decode b_Net_addGate 10 = .ok (.return_, 1) := by decide +kernel
theorem d_Net_addGate_11 : decode b_Net_addGate 11 = .ok (.bipush 113, 2) := by decide +kernel
theorem d_Net_addGate_13 : decode b_Net_addGate 13 = .ok (.aload_n 0, 1) := by decide +kernel
theorem d_Net_addGate_14 : decode b_Net_addGate 14 = .ok (.getfield 30, 3) := by decide +kernel
theorem d_Net_addGate_17 : decode b_Net_addGate 17 = .ok (.iadd, 1) := by decide +kernel
theorem d_Net_addGate_18 : decode b_Net_addGate 18 = .ok (.istore_n 3, 1) := by decide +kernel
theorem d_Net_addGate_19 : decode b_Net_addGate 19 = .ok (.aload_n 0, 1) := by decide +kernel
theorem d_Net_addGate_20 : decode b_Net_addGate 20 = .ok (.getfield 15, 3) := by decide +kernel
theorem d_Net_addGate_23 : decode b_Net_addGate 23 = .ok (.iload_n 1, 1) := by decide +kernel
theorem d_Net_addGate_24 : decode b_Net_addGate 24 = .ok (.bipush 12, 2) := by decide +kernel
theorem d_Net_addGate_26 : decode b_Net_addGate 26 = .ok (.ishr, 1) := by decide +kernel
theorem d_Net_addGate_27 : decode b_Net_addGate 27 = .ok (.iconst 1, 1) := by decide +kernel
theorem d_Net_addGate_28 : decode b_Net_addGate 28 = .ok (.ishr, 1) := by decide +kernel
theorem d_Net_addGate_29 : decode b_Net_addGate 29 = .ok (.iaload, 1) := by decide +kernel
theorem d_Net_addGate_30 : decode b_Net_addGate 30 = .ok (.istore 4, 2) := by decide +kernel
theorem d_Net_addGate_32 : decode b_Net_addGate 32 = .ok (.aload_n 0, 1) := by decide +kernel
theorem d_Net_addGate_33 : decode b_Net_addGate 33 = .ok (.getfield 15, 3) := by decide +kernel
theorem d_Net_addGate_36 : decode b_Net_addGate 36 = .ok (.iload_n 1, 1) := by decide +kernel
theorem d_Net_addGate_37 : decode b_Net_addGate 37 = .ok (.sipush 4095, 3) := by decide +kernel
theorem d_Net_addGate_40 : decode b_Net_addGate 40 = .ok (.iand, 1) := by decide +kernel
theorem d_Net_addGate_41 : decode b_Net_addGate 41 = .ok (.iconst 1, 1) := by decide +kernel
theorem d_Net_addGate_42 : decode b_Net_addGate 42 = .ok (.ishr, 1) := by decide +kernel
theorem d_Net_addGate_43 : decode b_Net_addGate 43 = .ok (.iaload, 1) := by decide +kernel
theorem d_Net_addGate_44 : decode b_Net_addGate 44 = .ok (.istore 5, 2) := by decide +kernel
theorem d_Net_addGate_46 : decode b_Net_addGate 46 = .ok (.aload_n 0, 1) := by decide +kernel
theorem d_Net_addGate_47 : decode b_Net_addGate 47 = .ok (.dup, 1) := by decide +kernel
theorem d_Net_addGate_48 : decode b_Net_addGate 48 = .ok (.getfield 30, 3) := by decide +kernel
theorem d_Net_addGate_51 : decode b_Net_addGate 51 = .ok (.iconst 1, 1) := by decide +kernel
theorem d_Net_addGate_52 : decode b_Net_addGate 52 = .ok (.iadd, 1) := by decide +kernel
theorem d_Net_addGate_53 : decode b_Net_addGate 53 = .ok (.putfield 30, 3) := by decide +kernel
theorem d_Net_addGate_56 : decode b_Net_addGate 56 = .ok (.aload_n 0, 1) := by decide +kernel
theorem d_Net_addGate_57 : decode b_Net_addGate 57 = .ok (.getfield 21, 3) := by decide +kernel
theorem d_Net_addGate_60 : decode b_Net_addGate 60 = .ok (.iload_n 2, 1) := by decide +kernel
theorem d_Net_addGate_61 : decode b_Net_addGate 61 = .ok (.iload_n 3, 1) := by decide +kernel
theorem d_Net_addGate_62 : decode b_Net_addGate 62 = .ok (.iastore, 1) := by decide +kernel
theorem d_Net_addGate_63 : decode b_Net_addGate 63 = .ok (.aload_n 0, 1) := by decide +kernel
theorem d_Net_addGate_64 : decode b_Net_addGate 64 = .ok (.getfield 11, 3) := by decide +kernel
theorem d_Net_addGate_67 : decode b_Net_addGate 67 = .ok (.iload_n 3, 1) := by decide +kernel
theorem d_Net_addGate_68 : decode b_Net_addGate 68 = .ok (.iload_n 1, 1) := by decide +kernel
theorem d_Net_addGate_69 : decode b_Net_addGate 69 = .ok (.iastore, 1) := by decide +kernel
theorem d_Net_addGate_70 : decode b_Net_addGate 70 = .ok (.aload_n 0, 1) := by decide +kernel
theorem d_Net_addGate_71 : decode b_Net_addGate 71 = .ok (.getfield 15, 3) := by decide +kernel
theorem d_Net_addGate_74 : decode b_Net_addGate 74 = .ok (.iload_n 3, 1) := by decide +kernel
theorem d_Net_addGate_75 : decode b_Net_addGate 75 = .ok (.iconst 1, 1) := by decide +kernel
theorem d_Net_addGate_76 : decode b_Net_addGate 76 = .ok (.iload 4, 2) := by decide +kernel
theorem d_Net_addGate_78 : decode b_Net_addGate 78 = .ok (.iload 5, 2) := by decide +kernel
theorem d_Net_addGate_80 : decode b_Net_addGate 80 = .ok (.if_icmp .le 8, 3) := by decide +kernel
theorem d_Net_addGate_83 : decode b_Net_addGate 83 = .ok (.iload 4, 2) := by decide +kernel
theorem d_Net_addGate_85 : decode b_Net_addGate 85 = .ok (.goto 5, 3) := by decide +kernel
theorem d_Net_addGate_88 : decode b_Net_addGate 88 = .ok (.iload 5, 2) := by decide +kernel
theorem d_Net_addGate_90 : decode b_Net_addGate 90 = .ok (.iadd, 1) := by decide +kernel
theorem d_Net_addGate_91 : decode b_Net_addGate 91 = .ok (.iastore, 1) := by decide +kernel
theorem d_Net_addGate_92 : decode b_Net_addGate 92 = .ok (.aload_n 0, 1) := by decide +kernel
theorem d_Net_addGate_93 : decode b_Net_addGate 93 = .ok (.getfield 15, 3) := by decide +kernel
theorem d_Net_addGate_96 : decode b_Net_addGate 96 = .ok (.iload_n 3, 1) := by decide +kernel
theorem d_Net_addGate_97 : decode b_Net_addGate 97 = .ok (.iaload, 1) := by decide +kernel
theorem d_Net_addGate_98 : decode b_Net_addGate 98 = .ok (.aload_n 0, 1) := by decide +kernel
theorem d_Net_addGate_99 : decode b_Net_addGate 99 = .ok (.getfield 34, 3) := by decide +kernel
theorem d_Net_addGate_102 : decode b_Net_addGate 102 = .ok (.if_icmp .le 13, 3) := by decide +kernel
theorem d_Net_addGate_105 : decode b_Net_addGate 105 = .ok (.aload_n 0, 1) := by decide +kernel
theorem d_Net_addGate_106 : decode b_Net_addGate 106 = .ok (.aload_n 0, 1) := by decide +kernel
theorem d_Net_addGate_107 : decode b_Net_addGate 107 = .ok (.getfield 15, 3) := by decide +kernel
theorem d_Net_addGate_110 : decode b_Net_addGate 110 = .ok (.iload_n 3, 1) := by decide +kernel
theorem d_Net_addGate_111 : decode b_Net_addGate 111 = .ok (.iaload, 1) := by decide +kernel
theorem d_Net_addGate_112 : decode b_Net_addGate 112 = .ok (.putfield 34, 3) := by decide +kernel
theorem d_Net_addGate_115 : decode b_Net_addGate 115 = .ok (.return_, 1) := by decide +kernel
set_option maxHeartbeats 4000000 in
set_option maxRecDepth 100000 in
theorem c_Net_opposite (l : Launch) (dC : Nat → ClassId) (dI : Nat → Nat → Nat) (cI cZ : ClassId) (tt sz : Nat) (X : Nat) : Met l y_Net_opposite w_Net_opposite ({ frames := 0, cells := 0, slots := 0, locals := 0 }) (va_Pc [.int (nI X)] (PW (dC, dI) classes [(cI, .int), (cZ, .boolean)] tt [] sz)) (va_Qi (fun (r : Int32) (u : Unit) => (r = nI (op1 X))) (AT (dC, dI) classes [(cI, .int), (cZ, .boolean)] (va_A [] sz) (fun (u : Unit) => [])) (va_A [] sz)) 0 0 (va_A [] sz) := by
  refine Met.ofW (cc := b_Net_opposite) (maxL := 1) (ret := (some .int)) (by decide) rfl ?_
  intro p e s m args below meth c s₁ B hml hv
  obtain ⟨rfl, hsz, hP, hK, hD0, hE⟩ := hv
  have hx := B.exec
  have hb := B.bytes
  have hr := B.returns
  have hts := atoms_spec (ws := w_Net_opposite) B.pre
  have hown : s.vm.findClass R_Net = some m.cls := findClass_of_methodNamed B.named
  have hlocks := B.notSynchronized
  subst hsz
  have hD := hD0.self (sz := s.heap.size)
  generalize hAe : va_A [] s.heap.size = A at hD hE ⊢
  have hA : ∀ q : Nat, s.heap.size ≤ q → A q := fun q h => by rw [← hAe]; exact Or.inr h
  have hS : va_S A s.heap s.heap [] := va_S.rf
  have hP : va_P (dC, dI) classes [] s.heap := hP
  have hl := lv_entry ([.int (nI X)]) (n := 1) (Nat.le_of_ble_eq_true rfl)
  rw [lg_entry_eq]
  generalize (lg_sl ([.int (nI X)]) ++ List.replicate (1 - (lg_sl ([.int (nI X)])).length) Slot.unset).toArray = ls at hl ⊢
  have hl : lv_has ls 1 [(0, .int (nI X))] := hl
  refine lv_iload_n hx hb d_Net_opposite_0 rfl (lv_at hl 0 rfl) ?_
  refine lv_iconst (v := nI 1) hx hb d_Net_opposite_1 rfl ?_
  refine lv_ixor hx hb d_Net_opposite_2 ?_
  refine k_top (nI_xor _ _) ?_
  exact W.iret (v := nI (X ^^^ 1)) hx hb hr (fun t ht hW => ⟨⟨nI (X ^^^ 1), (), rfl, (by rw [xor_1]), by rw [ht]; exact hP, va_K.moved hW.alike hK, hD⟩, hS.F ht⟩) hS.2.2 d_Net_opposite_3
set_option maxHeartbeats 4000000 in
set_option maxRecDepth 100000 in
theorem c_Net_bitOf (l : Launch) (dC : Nat → ClassId) (dI : Nat → Nat → Nat) (cI cZ : ClassId) (tt sz : Nat) (S : Nat) (J : Nat) : Met l y_Net_bitOf w_Net_bitOf ({ frames := 0, cells := 0, slots := 0, locals := 0 }) (va_Pc [.int (nI S), .int (nI J)] (PW (dC, dI) classes [(cI, .int), (cZ, .boolean)] tt [] sz)) (va_Qi (fun (r : Int32) (u : Unit) => (r = nI (2 * (1 + S * 8 + J)))) (AT (dC, dI) classes [(cI, .int), (cZ, .boolean)] (va_A [] sz) (fun (u : Unit) => [])) (va_A [] sz)) 0 0 (va_A [] sz) := by
  refine Met.ofW (cc := b_Net_bitOf) (maxL := 2) (ret := (some .int)) (by decide) rfl ?_
  intro p e s m args below meth c s₁ B hml hv
  obtain ⟨rfl, hsz, hP, hK, hD0, hE⟩ := hv
  have hx := B.exec
  have hb := B.bytes
  have hr := B.returns
  have hts := atoms_spec (ws := w_Net_bitOf) B.pre
  have hown : s.vm.findClass R_Net = some m.cls := findClass_of_methodNamed B.named
  have hlocks := B.notSynchronized
  subst hsz
  have hD := hD0.self (sz := s.heap.size)
  generalize hAe : va_A [] s.heap.size = A at hD hE ⊢
  have hA : ∀ q : Nat, s.heap.size ≤ q → A q := fun q h => by rw [← hAe]; exact Or.inr h
  have hS : va_S A s.heap s.heap [] := va_S.rf
  have hP : va_P (dC, dI) classes [] s.heap := hP
  have hl := lv_entry ([.int (nI S), .int (nI J)]) (n := 2) (Nat.le_of_ble_eq_true rfl)
  rw [lg_entry_eq]
  generalize (lg_sl ([.int (nI S), .int (nI J)]) ++ List.replicate (2 - (lg_sl ([.int (nI S), .int (nI J)])).length) Slot.unset).toArray = ls at hl ⊢
  have hl : lv_has ls 2 [(0, .int (nI S)), (1, .int (nI J))] := hl
  refine lv_iconst (v := nI 2) hx hb d_Net_bitOf_0 rfl ?_
  refine lv_iconst (v := nI 1) hx hb d_Net_bitOf_1 rfl ?_
  refine lv_iload_n hx hb d_Net_bitOf_2 rfl (lv_at hl 0 rfl) ?_
  refine lv_bipush (v := nI 8) hx hb d_Net_bitOf_3 rfl ?_
  refine lv_imul hx hb d_Net_bitOf_5 ?_
  refine k_top (pk_mul _ _) ?_
  refine lv_iadd hx hb d_Net_bitOf_6 ?_
  refine k_top (nI_add _ _) ?_
  refine lv_iload_n hx hb d_Net_bitOf_7 rfl (lv_at hl 1 rfl) ?_
  refine lv_iadd hx hb d_Net_bitOf_8 ?_
  refine k_top (nI_add _ _) ?_
  refine lv_imul hx hb d_Net_bitOf_9 ?_
  refine k_top (pk_mul _ _) ?_
  exact W.iret (v := nI (2 * ((1 + (S * 8)) + J))) hx hb hr (fun t ht hW => ⟨⟨nI (2 * ((1 + (S * 8)) + J)), (), rfl, rfl, by rw [ht]; exact hP, va_K.moved hW.alike hK, hD⟩, hS.F ht⟩) hS.2.2 d_Net_bitOf_10
set_option maxHeartbeats 4000000 in
set_option maxRecDepth 100000 in
theorem c_Net_slotOf (l : Launch) (dC : Nat → ClassId) (dI : Nat → Nat → Nat) (cI cZ : ClassId) (a_net a_pairs a_depths a_values a_slots : Nat) (tt sz : Nat) (g : Nat) (gd : Nat) (st : Nat) (P : Nat → Nat) (Sl : Nat → Nat) (q : Nat) (b_g : g ≤ 1280) (b_gd : gd < 1400) (b_st : st ≤ 1) (b_P : ∀ j, P j < 16777216) (b_Sl : ∀ j, Sl j < 1393) (hfree : ∃ d, d < 2048 ∧ Sl ((hsh q + d) % 2048) = 0) (hq : q < 2147483648) : Met l y_Net_slotOf w_Net_slotOf ({ frames := 0, cells := 0, slots := 0, locals := 0 }) (va_Pc [.ref a_net, .int (nI q)] (PW (dC, dI) classes [(cI, .int), (cZ, .boolean)] tt [(a_net, .inr (0, [.int (nI g), .int (nI gd), .ref a_pairs, .ref a_depths, .ref a_values, .ref a_slots, .int (nI st)])), (a_pairs, .inl (cI, 1393, .inl (nF P))), (a_slots, .inl (cI, 2048, .inl (nF Sl)))] sz)) (va_Qi (fun (r : Int32) (u : Unit) => ∃ rv : Nat, r = nI rv ∧ (Fnd P Sl q rv) ∧ (rv < 2048)) (AT (dC, dI) classes [(cI, .int), (cZ, .boolean)] (va_A [(a_net, .inr (0, [.int (nI g), .int (nI gd), .ref a_pairs, .ref a_depths, .ref a_values, .ref a_slots, .int (nI st)])), (a_pairs, .inl (cI, 1393, .inl (nF P))), (a_slots, .inl (cI, 2048, .inl (nF Sl)))] sz) (fun (u : Unit) => [(a_net, .inr (0, [.int (nI g), .int (nI gd), .ref a_pairs, .ref a_depths, .ref a_values, .ref a_slots, .int (nI st)])), (a_pairs, .inl (cI, 1393, .inl (nF P))), (a_slots, .inl (cI, 2048, .inl (nF Sl)))])) (va_A [(a_net, .inr (0, [.int (nI g), .int (nI gd), .ref a_pairs, .ref a_depths, .ref a_values, .ref a_slots, .int (nI st)])), (a_pairs, .inl (cI, 1393, .inl (nF P))), (a_slots, .inl (cI, 2048, .inl (nF Sl)))] sz)) 0 0 (va_A [(a_net, .inr (0, [.int (nI g), .int (nI gd), .ref a_pairs, .ref a_depths, .ref a_values, .ref a_slots, .int (nI st)])), (a_pairs, .inl (cI, 1393, .inl (nF P))), (a_slots, .inl (cI, 2048, .inl (nF Sl)))] sz) := by
  refine Met.ofW (cc := b_Net_slotOf) (maxL := 5) (ret := (some .int)) (by decide) rfl ?_
  intro p e s m args below meth c s₁ B hml hv
  obtain ⟨rfl, hsz, hP, hK, hD0, hE⟩ := hv
  have hx := B.exec
  have hb := B.bytes
  have hr := B.returns
  have hts := atoms_spec (ws := w_Net_slotOf) B.pre
  have hown : s.vm.findClass R_Net = some m.cls := findClass_of_methodNamed B.named
  have hlocks := B.notSynchronized
  subst hsz
  have hD := hD0.self (sz := s.heap.size)
  generalize hAe : va_A [(a_net, .inr (0, [.int (nI g), .int (nI gd), .ref a_pairs, .ref a_depths, .ref a_values, .ref a_slots, .int (nI st)])), (a_pairs, .inl (cI, 1393, .inl (nF P))), (a_slots, .inl (cI, 2048, .inl (nF Sl)))] s.heap.size = A at hD hE ⊢
  have hA : ∀ q : Nat, s.heap.size ≤ q → A q := fun q h => by rw [← hAe]; exact Or.inr h
  have hS : va_S A s.heap s.heap [] := va_S.rf
  have hP : va_P (dC, dI) classes [(a_net, .inr (0, [.int (nI g), .int (nI gd), .ref a_pairs, .ref a_depths, .ref a_values, .ref a_slots, .int (nI st)])), (a_pairs, .inl (cI, 1393, .inl (nF P))), (a_slots, .inl (cI, 2048, .inl (nF Sl)))] s.heap := hP
  have hl := lv_entry ([.ref a_net, .int (nI q)]) (n := 5) (Nat.le_of_ble_eq_true rfl)
  rw [lg_entry_eq]
  generalize (lg_sl ([.ref a_net, .int (nI q)]) ++ List.replicate (5 - (lg_sl ([.ref a_net, .int (nI q)])).length) Slot.unset).toArray = ls at hl ⊢
  have hl : lv_has ls 5 [(0, .ref a_net), (1, .int (nI q))] := hl
  refine lv_iload_n hx hb d_Net_slotOf_0 rfl (lv_at hl 1 rfl) ?_
  refine lv_ldc (v := (-1640531535)) hx hb hown (hts _ (mt 425 rfl rfl)) d_Net_slotOf_1 ?_
  refine lv_imul hx hb d_Net_slotOf_3 ?_
  refine lv_bipush (v := nI 21) hx hb d_Net_slotOf_4 rfl ?_
  refine lv_iushr (v := nI (hsh q)) hx hb d_Net_slotOf_6 (hsh_row q) ?_
  refine lv_istore_n (lv' := [(2, .int (nI (hsh q))), (0, .ref a_net), (1, .int (nI q))]) hx hb d_Net_slotOf_7 rfl hl (by decide) rfl (fun ls hl => ?_)
  refine lv_iconst (v := nI 0) hx hb d_Net_slotOf_8 rfl ?_
  refine lv_istore_n (lv' := [(3, .int (nI 0)), (2, .int (nI (hsh q))), (0, .ref a_net), (1, .int (nI q))]) hx hb d_Net_slotOf_9 rfl hl (by decide) rfl (fun ls hl => ?_)
  have hI_2 : ((hsh q) = (hsh q + 0) % 2048) ∧ (∀ d', d' < 0 → Sl ((hsh q + d') % 2048) ≠ 0 ∧ P (Sl ((hsh q + d') % 2048)) ≠ q) ∧ (0 ≤ 2048) := ⟨(by have := hsh_lt q; omega), (fun d' h => absurd h (by omega)), (by omega)⟩
  refine k_loop (σ := Nat × Nat) (D := (dC, dI)) (cl := classes) (A := A) (H0 := s.heap) (fun x => [(a_net, .inr (0, [.int (nI g), .int (nI gd), .ref a_pairs, .ref a_depths, .ref a_values, .ref a_slots, .int (nI st)])), (a_pairs, .inl (cI, 1393, .inl (nF P))), (a_slots, .inl (cI, 2048, .inl (nF Sl)))]) (fun x => [(3, .int (nI x.2)), (2, .int (nI x.1)), (0, .ref a_net), (1, .int (nI q))]) (fun x => (x.1 = (hsh q + x.2) % 2048) ∧ (∀ d', d' < x.2 → Sl ((hsh q + d') % 2048) ≠ 0 ∧ P (Sl ((hsh q + d') % 2048)) ≠ q) ∧ (x.2 ≤ 2048)) (fun x => 2048 - x.2) ?_ (hsh q, 0) hI_2 hP hD hS (lv_sub hl [0, 1, 2, 3] rfl)
  rintro ⟨k, d⟩ hI ih_3 H locs ls hP hD hS hl
  obtain ⟨hk, hp, hd⟩ : (k = (hsh q + d) % 2048) ∧ (∀ d', d' < d → Sl ((hsh q + d') % 2048) ≠ 0 ∧ P (Sl ((hsh q + d') % 2048)) ≠ q) ∧ (d ≤ 2048) := hI
  have hP : va_P (dC, dI) classes [(a_net, .inr (0, [.int (nI g), .int (nI gd), .ref a_pairs, .ref a_depths, .ref a_values, .ref a_slots, .int (nI st)])), (a_pairs, .inl (cI, 1393, .inl (nF P))), (a_slots, .inl (cI, 2048, .inl (nF Sl)))] H := hP
  have hD : va_D A [(a_net, .inr (0, [.int (nI g), .int (nI gd), .ref a_pairs, .ref a_depths, .ref a_values, .ref a_slots, .int (nI st)])), (a_pairs, .inl (cI, 1393, .inl (nF P))), (a_slots, .inl (cI, 2048, .inl (nF Sl)))] := hD
  have hl : lv_has ls 5 [(3, .int (nI d)), (2, .int (nI k)), (0, .ref a_net), (1, .int (nI q))] := hl
  refine lv_iload_n hx hb d_Net_slotOf_10 rfl (lv_at hl 0 rfl) ?_
  refine lv_sipush (v := nI 2048) hx hb d_Net_slotOf_11 rfl ?_
  refine lv_icmp_ge (tgt := 58) hx hb d_Net_slotOf_14 (by decide) (fun c14 => ?_) (fun c14 => ?_)
  · skip
    have c14 : 2048 ≤ d := (nI_leI (by omega) (by omega)).mp c14
    exact absurd hfree (fun ⟨d0, e1, e2⟩ => (hp d0 (by omega)).1 e2)
  · skip
    have c14 : ¬ (2048 ≤ d) := fun h => c14 ((nI_leI (by omega) (by omega)).mpr h)
    refine lv_aload_n hx hb d_Net_slotOf_17 rfl (lv_at hl 2 rfl) ?_
    refine va_get (D := (dC, dI)) (ci := 0) (v := .ref a_slots) (C := R_Net) (T := F_Net) (N := 7) hx hb hts (wi i_Net) hown hK hP 0 rfl rfl 5 (by decide) (hts _ (mt 183 rfl rfl)) (fun _ h9 => h9) rfl d_Net_slotOf_18 ?_
    refine lv_iload_n hx hb d_Net_slotOf_21 rfl (lv_at hl 1 rfl) ?_
    refine k_ild hx hb hK hP 2 0 rfl rfl (by omega) (by decide) d_Net_slotOf_22 ?_
    have hb_4 := b_Sl k
    refine lv_istore (lv' := [(4, .int (nI (Sl k))), (3, .int (nI d)), (2, .int (nI k)), (0, .ref a_net), (1, .int (nI q))]) hx hb d_Net_slotOf_23 hl (by decide) rfl (fun ls hl => ?_)
    refine lv_iload hx hb d_Net_slotOf_25 (lv_at hl 0 rfl) ?_
    refine lv_if_eq (tgt := 58) hx hb d_Net_slotOf_27 (by decide) (fun c27 => ?_) (fun c27 => ?_)
    · skip
      have c27 : (Sl k) = 0 := (nI_eq0 (by omega)).mp c27
      refine lv_iload_n hx hb d_Net_slotOf_58 rfl (lv_at hl 2 rfl) ?_
      exact W.iret (v := nI k) hx hb hr (fun t ht hW => ⟨⟨nI k, (), rfl, ⟨k, rfl, (show Fnd P Sl q k from ⟨d, by omega, hk, hp, Or.inl c27⟩), (show k < 2048 from (by omega))⟩, by rw [ht]; exact hP, va_K.moved hW.alike hK, hD⟩, hS.F ht⟩) hS.2.2 d_Net_slotOf_59
    · skip
      have c27 : ¬ ((Sl k) = 0) := fun h => c27 ((nI_eq0 (by omega)).mpr h)
      refine lv_aload_n hx hb d_Net_slotOf_30 rfl (lv_at hl 3 rfl) ?_
      refine va_get (D := (dC, dI)) (ci := 0) (v := .ref a_pairs) (C := R_Net) (T := F_Net) (N := 7) hx hb hts (wi i_Net) hown hK hP 0 rfl rfl 2 (by decide) (hts _ (mt 180 rfl rfl)) (fun _ h9 => h9) rfl d_Net_slotOf_31 ?_
      refine lv_iload hx hb d_Net_slotOf_34 (lv_at hl 0 rfl) ?_
      refine k_ild hx hb hK hP 1 0 rfl rfl (by omega) (by decide) d_Net_slotOf_36 ?_
      have hb_5 := b_P (Sl k)
      refine lv_iload_n hx hb d_Net_slotOf_37 rfl (lv_at hl 4 rfl) ?_
      refine lv_icmp_ne (tgt := 44) hx hb d_Net_slotOf_38 (by decide) (fun c38 => ?_) (fun c38 => ?_)
      · skip
        have c38 : ¬ ((P (Sl k)) = q) := fun h => c38 ((nI_eq (by omega) (by omega)).mpr h)
        refine lv_iload_n hx hb d_Net_slotOf_44 rfl (lv_at hl 2 rfl) ?_
        refine lv_iconst (v := nI 1) hx hb d_Net_slotOf_45 rfl ?_
        refine lv_iadd hx hb d_Net_slotOf_46 ?_
        refine k_top (nI_add _ _) ?_
        refine lv_sipush (v := nI 2047) hx hb d_Net_slotOf_47 rfl ?_
        refine lv_iand hx hb d_Net_slotOf_50 ?_
        refine k_top (nI_and _ _) ?_
        refine lv_istore_n (lv' := [(2, .int (nI ((k + 1) &&& 2047))), (4, .int (nI (Sl k))), (3, .int (nI d)), (0, .ref a_net), (1, .int (nI q))]) hx hb d_Net_slotOf_51 rfl hl (by decide) rfl (fun ls hl => ?_)
        refine lv_iinc (v := nI (d + 1)) (lv' := [(3, .int (nI (d + 1))), (2, .int (nI ((k + 1) &&& 2047))), (4, .int (nI (Sl k))), (0, .ref a_net), (1, .int (nI q))]) hx hb d_Net_slotOf_52 hl (k := 2) rfl (k_inc _ 1) (by decide) rfl (fun ls hl => ?_)
        refine lv_goto (tgt := 10) hx hb d_Net_slotOf_55 (by decide) ?_
        have hI_6 : (((k + 1) &&& 2047) = (hsh q + (d + 1)) % 2048) ∧ (∀ d', d' < (d + 1) → Sl ((hsh q + d') % 2048) ≠ 0 ∧ P (Sl ((hsh q + d') % 2048)) ≠ q) ∧ ((d + 1) ≤ 2048) := ⟨(by rw [and2047]; omega), (fun d' h => if e : d' = d then by subst e; rw [← hk]; exact ⟨c27, c38⟩ else hp d' (by omega)), (by omega)⟩
        exact ih_3 ((k + 1) &&& 2047, d + 1) hI_6 (show 2048 - (d + 1) < 2048 - d from by omega) _ _ _ hP hD hS (lv_sub hl [0, 1, 3, 4] rfl)
      · skip
        have c38 : (P (Sl k)) = q := (nI_eq (by omega) (by omega)).mp c38
        refine lv_goto (tgt := 58) hx hb d_Net_slotOf_41 (by decide) ?_
        refine lv_iload_n hx hb d_Net_slotOf_58 rfl (lv_at hl 2 rfl) ?_
        exact W.iret (v := nI k) hx hb hr (fun t ht hW => ⟨⟨nI k, (), rfl, ⟨k, rfl, (show Fnd P Sl q k from ⟨d, by omega, hk, hp, Or.inr c38⟩), (show k < 2048 from (by omega))⟩, by rw [ht]; exact hP, va_K.moved hW.alike hK, hD⟩, hS.F ht⟩) hS.2.2 d_Net_slotOf_59
set_option maxHeartbeats 4000000 in
set_option maxRecDepth 100000 in
theorem c_Net_addGate (l : Launch) (dC : Nat → ClassId) (dI : Nat → Nat → Nat) (cI cZ : ClassId) (a_net a_pairs a_depths a_values a_slots : Nat) (tt sz : Nat) (g : Nat) (gd : Nat) (st : Nat) (P : Nat → Nat) (Dp : Nat → Nat) (Sl : Nat → Nat) (q : Nat) (k : Nat) (b_g : g ≤ 1280) (b_gd : gd < 1400) (b_st : st ≤ 1) (b_P : ∀ j, P j < 16777216) (b_Dp : ∀ j, Dp j < 1400) (b_Sl : ∀ j, Sl j < 1393) (hg : g < 1280) (hk : k < 2048) (hq : q < 16777216) (ha : q / 2 ^ 12 / 2 ^ 1 < 1393) (hb2 : (q &&& 4095) / 2 ^ 1 < 1393) (hd1 : Dp (q / 2 ^ 12 / 2 ^ 1) < 1399) (hd2 : Dp ((q &&& 4095) / 2 ^ 1) < 1399) : Met l y_Net_addGate w_Net_addGate ({ frames := 0, cells := 0, slots := 0, locals := 0 }) (va_Pc [.ref a_net, .int (nI q), .int (nI k)] (PW (dC, dI) classes [(cI, .int), (cZ, .boolean)] tt [(a_net, .inr (0, [.int (nI g), .int (nI gd), .ref a_pairs, .ref a_depths, .ref a_values, .ref a_slots, .int (nI st)])), (a_pairs, .inl (cI, 1393, .inl (nF P))), (a_depths, .inl (cI, 1393, .inl (nF Dp))), (a_slots, .inl (cI, 2048, .inl (nF Sl)))] sz)) (va_Qv (fun (u : Nat × (Nat → Nat)) => (u.1 < 1400) ∧ (∀ j, u.2 j < 1400) ∧ (u.2 = upN Dp (113 + g) (1 + max (Dp (q / 2 ^ 12 / 2 ^ 1)) (Dp ((q &&& 4095) / 2 ^ 1)))) ∧ (u.1 = max gd (1 + max (Dp (q / 2 ^ 12 / 2 ^ 1)) (Dp ((q &&& 4095) / 2 ^ 1))))) (AT (dC, dI) classes [(cI, .int), (cZ, .boolean)] (va_A [(a_net, .inr (0, [.int (nI g), .int (nI gd), .ref a_pairs, .ref a_depths, .ref a_values, .ref a_slots, .int (nI st)])), (a_pairs, .inl (cI, 1393, .inl (nF P))), (a_depths, .inl (cI, 1393, .inl (nF Dp))), (a_slots, .inl (cI, 2048, .inl (nF Sl)))] sz) (fun (u : Nat × (Nat → Nat)) => [(a_net, .inr (0, [.int (nI (g + 1)), .int (nI u.1), .ref a_pairs, .ref a_depths, .ref a_values, .ref a_slots, .int (nI st)])), (a_pairs, .inl (cI, 1393, .inl (nF (upN P (113 + g) q)))), (a_depths, .inl (cI, 1393, .inl (nF u.2))), (a_slots, .inl (cI, 2048, .inl (nF (upN Sl k (113 + g)))))])) (va_A [(a_net, .inr (0, [.int (nI g), .int (nI gd), .ref a_pairs, .ref a_depths, .ref a_values, .ref a_slots, .int (nI st)])), (a_pairs, .inl (cI, 1393, .inl (nF P))), (a_depths, .inl (cI, 1393, .inl (nF Dp))), (a_slots, .inl (cI, 2048, .inl (nF Sl)))] sz)) 0 0 (va_A [(a_net, .inr (0, [.int (nI g), .int (nI gd), .ref a_pairs, .ref a_depths, .ref a_values, .ref a_slots, .int (nI st)])), (a_pairs, .inl (cI, 1393, .inl (nF P))), (a_depths, .inl (cI, 1393, .inl (nF Dp))), (a_slots, .inl (cI, 2048, .inl (nF Sl)))] sz) := by
  refine Met.ofW (cc := b_Net_addGate) (maxL := 6) (ret := none) (by decide) rfl ?_
  intro p e s m args below meth c s₁ B hml hv
  obtain ⟨rfl, hsz, hP, hK, hD0, hE⟩ := hv
  have hx := B.exec
  have hb := B.bytes
  have hr := B.returns
  have hts := atoms_spec (ws := w_Net_addGate) B.pre
  have hown : s.vm.findClass R_Net = some m.cls := findClass_of_methodNamed B.named
  have hlocks := B.notSynchronized
  subst hsz
  have hD := hD0.self (sz := s.heap.size)
  generalize hAe : va_A [(a_net, .inr (0, [.int (nI g), .int (nI gd), .ref a_pairs, .ref a_depths, .ref a_values, .ref a_slots, .int (nI st)])), (a_pairs, .inl (cI, 1393, .inl (nF P))), (a_depths, .inl (cI, 1393, .inl (nF Dp))), (a_slots, .inl (cI, 2048, .inl (nF Sl)))] s.heap.size = A at hD hE ⊢
  have hA : ∀ q : Nat, s.heap.size ≤ q → A q := fun q h => by rw [← hAe]; exact Or.inr h
  have hS : va_S A s.heap s.heap [] := va_S.rf
  have hP : va_P (dC, dI) classes [(a_net, .inr (0, [.int (nI g), .int (nI gd), .ref a_pairs, .ref a_depths, .ref a_values, .ref a_slots, .int (nI st)])), (a_pairs, .inl (cI, 1393, .inl (nF P))), (a_depths, .inl (cI, 1393, .inl (nF Dp))), (a_slots, .inl (cI, 2048, .inl (nF Sl)))] s.heap := hP
  have hl := lv_entry ([.ref a_net, .int (nI q), .int (nI k)]) (n := 6) (Nat.le_of_ble_eq_true rfl)
  rw [lg_entry_eq]
  generalize (lg_sl ([.ref a_net, .int (nI q), .int (nI k)]) ++ List.replicate (6 - (lg_sl ([.ref a_net, .int (nI q), .int (nI k)])).length) Slot.unset).toArray = ls at hl ⊢
  have hl : lv_has ls 6 [(0, .ref a_net), (1, .int (nI q)), (2, .int (nI k))] := hl
  refine lv_aload_n hx hb d_Net_addGate_0 rfl (lv_at hl 0 rfl) ?_
  refine va_get (D := (dC, dI)) (ci := 0) (v := .int (nI g)) (C := R_Net) (T := F_Net) (N := 7) hx hb hts (wi i_Net) hown hK hP 0 rfl rfl 0 (by decide) (hts _ (mt 176 rfl rfl)) (fun _ h9 => h9) rfl d_Net_addGate_1 ?_
  refine lv_sipush (v := nI 1280) hx hb d_Net_addGate_4 rfl ?_
  refine lv_icmp_ne (tgt := 11) hx hb d_Net_addGate_7 (by decide) (fun c7 => ?_) (fun c7 => ?_)
  · skip
    have c7 : ¬ (g = 1280) := fun h => c7 ((nI_eq (by omega) (by omega)).mpr h)
    refine lv_bipush (v := nI 113) hx hb d_Net_addGate_11 rfl ?_
    refine lv_aload_n hx hb d_Net_addGate_13 rfl (lv_at hl 0 rfl) ?_
    refine va_get (D := (dC, dI)) (ci := 0) (v := .int (nI g)) (C := R_Net) (T := F_Net) (N := 7) hx hb hts (wi i_Net) hown hK hP 0 rfl rfl 0 (by decide) (hts _ (mt 176 rfl rfl)) (fun _ h9 => h9) rfl d_Net_addGate_14 ?_
    refine lv_iadd hx hb d_Net_addGate_17 ?_
    refine k_top (nI_add _ _) ?_
    refine lv_istore_n (lv' := [(3, .int (nI (113 + g))), (0, .ref a_net), (1, .int (nI q)), (2, .int (nI k))]) hx hb d_Net_addGate_18 rfl hl (by decide) rfl (fun ls hl => ?_)
    refine lv_aload_n hx hb d_Net_addGate_19 rfl (lv_at hl 1 rfl) ?_
    refine va_get (D := (dC, dI)) (ci := 0) (v := .ref a_depths) (C := R_Net) (T := F_Net) (N := 7) hx hb hts (wi i_Net) hown hK hP 0 rfl rfl 3 (by decide) (hts _ (mt 181 rfl rfl)) (fun _ h9 => h9) rfl d_Net_addGate_20 ?_
    refine lv_iload_n hx hb d_Net_addGate_23 rfl (lv_at hl 2 rfl) ?_
    refine lv_bipush (v := nI 12) hx hb d_Net_addGate_24 rfl ?_
    refine lv_ishr hx hb d_Net_addGate_26 ?_
    refine k_top (nI_shr (by omega) (by omega)) ?_
    refine lv_iconst (v := nI 1) hx hb d_Net_addGate_27 rfl ?_
    refine lv_ishr hx hb d_Net_addGate_28 ?_
    refine k_top (nI_shr (by omega) (by omega)) ?_
    refine k_ild hx hb hK hP 2 0 rfl rfl (by omega) (by decide) d_Net_addGate_29 ?_
    have hb_1 := b_Dp ((q / 2 ^ 12) / 2 ^ 1)
    refine lv_istore (lv' := [(4, .int (nI (Dp ((q / 2 ^ 12) / 2 ^ 1)))), (3, .int (nI (113 + g))), (0, .ref a_net), (1, .int (nI q)), (2, .int (nI k))]) hx hb d_Net_addGate_30 hl (by decide) rfl (fun ls hl => ?_)
    refine lv_aload_n hx hb d_Net_addGate_32 rfl (lv_at hl 2 rfl) ?_
    refine va_get (D := (dC, dI)) (ci := 0) (v := .ref a_depths) (C := R_Net) (T := F_Net) (N := 7) hx hb hts (wi i_Net) hown hK hP 0 rfl rfl 3 (by decide) (hts _ (mt 181 rfl rfl)) (fun _ h9 => h9) rfl d_Net_addGate_33 ?_
    refine lv_iload_n hx hb d_Net_addGate_36 rfl (lv_at hl 3 rfl) ?_
    refine lv_sipush (v := nI 4095) hx hb d_Net_addGate_37 rfl ?_
    refine lv_iand hx hb d_Net_addGate_40 ?_
    refine k_top (nI_and _ _) ?_
    refine lv_iconst (v := nI 1) hx hb d_Net_addGate_41 rfl ?_
    refine lv_ishr hx hb d_Net_addGate_42 ?_
    refine k_top (nI_shr (by omega) (by omega)) ?_
    refine k_ild hx hb hK hP 2 0 rfl rfl (by omega) (by decide) d_Net_addGate_43 ?_
    have hb_2 := b_Dp ((q &&& 4095) / 2 ^ 1)
    refine lv_istore (lv' := [(5, .int (nI (Dp ((q &&& 4095) / 2 ^ 1)))), (4, .int (nI (Dp ((q / 2 ^ 12) / 2 ^ 1)))), (3, .int (nI (113 + g))), (0, .ref a_net), (1, .int (nI q)), (2, .int (nI k))]) hx hb d_Net_addGate_44 hl (by decide) rfl (fun ls hl => ?_)
    refine lv_aload_n hx hb d_Net_addGate_46 rfl (lv_at hl 3 rfl) ?_
    refine lv_dup hx hb d_Net_addGate_47 rfl ?_
    refine va_get (D := (dC, dI)) (ci := 0) (v := .int (nI g)) (C := R_Net) (T := F_Net) (N := 7) hx hb hts (wi i_Net) hown hK hP 0 rfl rfl 0 (by decide) (hts _ (mt 176 rfl rfl)) (fun _ h9 => h9) rfl d_Net_addGate_48 ?_
    refine lv_iconst (v := nI 1) hx hb d_Net_addGate_51 rfl ?_
    refine lv_iadd hx hb d_Net_addGate_52 ?_
    refine k_top (nI_add _ _) ?_
    refine va_put (D := (dC, dI)) (ci := 0) (v := .int (nI (g + 1))) (ty := .int) (C := R_Net) (T := F_Net) (N := 7) hx hb hts (wi i_Net) t_Net t_Net_ok n_Net hown hK hP hD hS 0 rfl rfl 0 (by decide) (hts _ (mt 176 rfl rfl)) (fun _ h9 => h9) rfl (by decide +kernel) rfl rfl (Nat.le_of_ble_eq_true rfl) d_Net_addGate_53 (fun H locs hP hD hS => ?_)
    have hP : va_P (dC, dI) classes [(a_net, .inr (0, [.int (nI (g + 1)), .int (nI gd), .ref a_pairs, .ref a_depths, .ref a_values, .ref a_slots, .int (nI st)])), (a_pairs, .inl (cI, 1393, .inl (nF P))), (a_depths, .inl (cI, 1393, .inl (nF Dp))), (a_slots, .inl (cI, 2048, .inl (nF Sl)))] H := hP
    have hD : va_D A [(a_net, .inr (0, [.int (nI (g + 1)), .int (nI gd), .ref a_pairs, .ref a_depths, .ref a_values, .ref a_slots, .int (nI st)])), (a_pairs, .inl (cI, 1393, .inl (nF P))), (a_depths, .inl (cI, 1393, .inl (nF Dp))), (a_slots, .inl (cI, 2048, .inl (nF Sl)))] := hD
    refine lv_aload_n hx hb d_Net_addGate_56 rfl (lv_at hl 3 rfl) ?_
    refine va_get (D := (dC, dI)) (ci := 0) (v := .ref a_slots) (C := R_Net) (T := F_Net) (N := 7) hx hb hts (wi i_Net) hown hK hP 0 rfl rfl 5 (by decide) (hts _ (mt 183 rfl rfl)) (fun _ h9 => h9) rfl d_Net_addGate_57 ?_
    refine lv_iload_n hx hb d_Net_addGate_60 rfl (lv_at hl 5 rfl) ?_
    refine lv_iload_n hx hb d_Net_addGate_61 rfl (lv_at hl 2 rfl) ?_
    refine k_ist hx hb hK hP hD hS 3 0 rfl rfl (by omega) (by decide) d_Net_addGate_62 (fun H locs hP hD hS => ?_)
    have bb_3 : ∀ j, upN Sl k (113 + g) j < 1393 := upN_lt b_Sl (by omega)
    have hP : va_P (dC, dI) classes [(a_net, .inr (0, [.int (nI (g + 1)), .int (nI gd), .ref a_pairs, .ref a_depths, .ref a_values, .ref a_slots, .int (nI st)])), (a_pairs, .inl (cI, 1393, .inl (nF P))), (a_depths, .inl (cI, 1393, .inl (nF Dp))), (a_slots, .inl (cI, 2048, .inl (nF (upN Sl k (113 + g)))))] H := hP
    have hD : va_D A [(a_net, .inr (0, [.int (nI (g + 1)), .int (nI gd), .ref a_pairs, .ref a_depths, .ref a_values, .ref a_slots, .int (nI st)])), (a_pairs, .inl (cI, 1393, .inl (nF P))), (a_depths, .inl (cI, 1393, .inl (nF Dp))), (a_slots, .inl (cI, 2048, .inl (nF (upN Sl k (113 + g)))))] := hD
    refine lv_aload_n hx hb d_Net_addGate_63 rfl (lv_at hl 3 rfl) ?_
    refine va_get (D := (dC, dI)) (ci := 0) (v := .ref a_pairs) (C := R_Net) (T := F_Net) (N := 7) hx hb hts (wi i_Net) hown hK hP 0 rfl rfl 2 (by decide) (hts _ (mt 180 rfl rfl)) (fun _ h9 => h9) rfl d_Net_addGate_64 ?_
    refine lv_iload_n hx hb d_Net_addGate_67 rfl (lv_at hl 2 rfl) ?_
    refine lv_iload_n hx hb d_Net_addGate_68 rfl (lv_at hl 4 rfl) ?_
    refine k_ist hx hb hK hP hD hS 1 0 rfl rfl (by omega) (by decide) d_Net_addGate_69 (fun H locs hP hD hS => ?_)
    have bb_4 : ∀ j, upN P (113 + g) q j < 16777216 := upN_lt b_P (by omega)
    have hP : va_P (dC, dI) classes [(a_net, .inr (0, [.int (nI (g + 1)), .int (nI gd), .ref a_pairs, .ref a_depths, .ref a_values, .ref a_slots, .int (nI st)])), (a_pairs, .inl (cI, 1393, .inl (nF (upN P (113 + g) q)))), (a_depths, .inl (cI, 1393, .inl (nF Dp))), (a_slots, .inl (cI, 2048, .inl (nF (upN Sl k (113 + g)))))] H := hP
    have hD : va_D A [(a_net, .inr (0, [.int (nI (g + 1)), .int (nI gd), .ref a_pairs, .ref a_depths, .ref a_values, .ref a_slots, .int (nI st)])), (a_pairs, .inl (cI, 1393, .inl (nF (upN P (113 + g) q)))), (a_depths, .inl (cI, 1393, .inl (nF Dp))), (a_slots, .inl (cI, 2048, .inl (nF (upN Sl k (113 + g)))))] := hD
    refine lv_aload_n hx hb d_Net_addGate_70 rfl (lv_at hl 3 rfl) ?_
    refine va_get (D := (dC, dI)) (ci := 0) (v := .ref a_depths) (C := R_Net) (T := F_Net) (N := 7) hx hb hts (wi i_Net) hown hK hP 0 rfl rfl 3 (by decide) (hts _ (mt 181 rfl rfl)) (fun _ h9 => h9) rfl d_Net_addGate_71 ?_
    refine lv_iload_n hx hb d_Net_addGate_74 rfl (lv_at hl 2 rfl) ?_
    refine lv_iconst (v := nI 1) hx hb d_Net_addGate_75 rfl ?_
    refine lv_iload hx hb d_Net_addGate_76 (lv_at hl 1 rfl) ?_
    refine lv_iload hx hb d_Net_addGate_78 (lv_at hl 0 rfl) ?_
    refine lv_icmp_le (tgt := 88) hx hb d_Net_addGate_80 (by decide) (fun c80 => ?_) (fun c80 => ?_)
    · skip
      have c80 : (Dp ((q / 2 ^ 12) / 2 ^ 1)) ≤ (Dp ((q &&& 4095) / 2 ^ 1)) := (nI_leI (by omega) (by omega)).mp c80
      refine lv_iload hx hb d_Net_addGate_88 (lv_at hl 0 rfl) ?_
      refine lv_iadd hx hb d_Net_addGate_90 ?_
      refine k_top (nI_add _ _) ?_
      refine k_ist hx hb hK hP hD hS 2 0 rfl rfl (by omega) (by decide) d_Net_addGate_91 (fun H locs hP hD hS => ?_)
      have bb_5 : ∀ j, upN Dp (113 + g) (1 + (Dp ((q &&& 4095) / 2 ^ 1))) j < 1400 := upN_lt b_Dp (by omega)
      have hP : va_P (dC, dI) classes [(a_net, .inr (0, [.int (nI (g + 1)), .int (nI gd), .ref a_pairs, .ref a_depths, .ref a_values, .ref a_slots, .int (nI st)])), (a_pairs, .inl (cI, 1393, .inl (nF (upN P (113 + g) q)))), (a_depths, .inl (cI, 1393, .inl (nF (upN Dp (113 + g) (1 + (Dp ((q &&& 4095) / 2 ^ 1))))))), (a_slots, .inl (cI, 2048, .inl (nF (upN Sl k (113 + g)))))] H := hP
      have hD : va_D A [(a_net, .inr (0, [.int (nI (g + 1)), .int (nI gd), .ref a_pairs, .ref a_depths, .ref a_values, .ref a_slots, .int (nI st)])), (a_pairs, .inl (cI, 1393, .inl (nF (upN P (113 + g) q)))), (a_depths, .inl (cI, 1393, .inl (nF (upN Dp (113 + g) (1 + (Dp ((q &&& 4095) / 2 ^ 1))))))), (a_slots, .inl (cI, 2048, .inl (nF (upN Sl k (113 + g)))))] := hD
      refine lv_aload_n hx hb d_Net_addGate_92 rfl (lv_at hl 3 rfl) ?_
      refine va_get (D := (dC, dI)) (ci := 0) (v := .ref a_depths) (C := R_Net) (T := F_Net) (N := 7) hx hb hts (wi i_Net) hown hK hP 0 rfl rfl 3 (by decide) (hts _ (mt 181 rfl rfl)) (fun _ h9 => h9) rfl d_Net_addGate_93 ?_
      refine lv_iload_n hx hb d_Net_addGate_96 rfl (lv_at hl 2 rfl) ?_
      refine k_ild hx hb hK hP 2 0 rfl rfl (by omega) (by decide) d_Net_addGate_97 ?_
      have hb_6 := bb_5 (113 + g)
      refine lv_aload_n hx hb d_Net_addGate_98 rfl (lv_at hl 3 rfl) ?_
      refine va_get (D := (dC, dI)) (ci := 0) (v := .int (nI gd)) (C := R_Net) (T := F_Net) (N := 7) hx hb hts (wi i_Net) hown hK hP 0 rfl rfl 1 (by decide) (hts _ (mt 178 rfl rfl)) (fun _ h9 => h9) rfl d_Net_addGate_99 ?_
      refine lv_icmp_le (tgt := 115) hx hb d_Net_addGate_102 (by decide) (fun c102 => ?_) (fun c102 => ?_)
      · skip
        have c102 : ((upN Dp (113 + g) (1 + (Dp ((q &&& 4095) / 2 ^ 1)))) (113 + g)) ≤ gd := (nI_leI (by omega) (by omega)).mp c102
        exact W.vret hx hb hr (fun t ht hW => ⟨⟨(gd, upN Dp (113 + g) (1 + (Dp ((q &&& 4095) / 2 ^ 1)))), rfl, ⟨(show gd < 1400 from by omega), bb_5, (show (upN Dp (113 + g) (1 + (Dp ((q &&& 4095) / 2 ^ 1)))) = upN Dp (113 + g) (1 + max (Dp (q / 2 ^ 12 / 2 ^ 1)) (Dp ((q &&& 4095) / 2 ^ 1))) from (by rw [Nat.max_def]; split <;> first | rfl | omega)), (show gd = max gd (1 + max (Dp (q / 2 ^ 12 / 2 ^ 1)) (Dp ((q &&& 4095) / 2 ^ 1))) from (by simp only [upN_self] at *; omega))⟩, by rw [ht]; exact hP, va_K.moved hW.alike hK, hD⟩, hS.F ht⟩) hS.2.2 d_Net_addGate_115
      · skip
        have c102 : ¬ (((upN Dp (113 + g) (1 + (Dp ((q &&& 4095) / 2 ^ 1)))) (113 + g)) ≤ gd) := fun h => c102 ((nI_leI (by omega) (by omega)).mpr h)
        refine lv_aload_n hx hb d_Net_addGate_105 rfl (lv_at hl 3 rfl) ?_
        refine lv_aload_n hx hb d_Net_addGate_106 rfl (lv_at hl 3 rfl) ?_
        refine va_get (D := (dC, dI)) (ci := 0) (v := .ref a_depths) (C := R_Net) (T := F_Net) (N := 7) hx hb hts (wi i_Net) hown hK hP 0 rfl rfl 3 (by decide) (hts _ (mt 181 rfl rfl)) (fun _ h9 => h9) rfl d_Net_addGate_107 ?_
        refine lv_iload_n hx hb d_Net_addGate_110 rfl (lv_at hl 2 rfl) ?_
        refine k_ild hx hb hK hP 2 0 rfl rfl (by omega) (by decide) d_Net_addGate_111 ?_
        have hb_7 := bb_5 (113 + g)
        refine va_put (D := (dC, dI)) (ci := 0) (v := .int (nI ((upN Dp (113 + g) (1 + (Dp ((q &&& 4095) / 2 ^ 1)))) (113 + g)))) (ty := .int) (C := R_Net) (T := F_Net) (N := 7) hx hb hts (wi i_Net) t_Net t_Net_ok n_Net hown hK hP hD hS 0 rfl rfl 1 (by decide) (hts _ (mt 178 rfl rfl)) (fun _ h9 => h9) rfl (by decide +kernel) rfl rfl (Nat.le_of_ble_eq_true rfl) d_Net_addGate_112 (fun H locs hP hD hS => ?_)
        have hP : va_P (dC, dI) classes [(a_net, .inr (0, [.int (nI (g + 1)), .int (nI ((upN Dp (113 + g) (1 + (Dp ((q &&& 4095) / 2 ^ 1)))) (113 + g))), .ref a_pairs, .ref a_depths, .ref a_values, .ref a_slots, .int (nI st)])), (a_pairs, .inl (cI, 1393, .inl (nF (upN P (113 + g) q)))), (a_depths, .inl (cI, 1393, .inl (nF (upN Dp (113 + g) (1 + (Dp ((q &&& 4095) / 2 ^ 1))))))), (a_slots, .inl (cI, 2048, .inl (nF (upN Sl k (113 + g)))))] H := hP
        have hD : va_D A [(a_net, .inr (0, [.int (nI (g + 1)), .int (nI ((upN Dp (113 + g) (1 + (Dp ((q &&& 4095) / 2 ^ 1)))) (113 + g))), .ref a_pairs, .ref a_depths, .ref a_values, .ref a_slots, .int (nI st)])), (a_pairs, .inl (cI, 1393, .inl (nF (upN P (113 + g) q)))), (a_depths, .inl (cI, 1393, .inl (nF (upN Dp (113 + g) (1 + (Dp ((q &&& 4095) / 2 ^ 1))))))), (a_slots, .inl (cI, 2048, .inl (nF (upN Sl k (113 + g)))))] := hD
        exact W.vret hx hb hr (fun t ht hW => ⟨⟨((upN Dp (113 + g) (1 + (Dp ((q &&& 4095) / 2 ^ 1)))) (113 + g), upN Dp (113 + g) (1 + (Dp ((q &&& 4095) / 2 ^ 1)))), rfl, ⟨(show ((upN Dp (113 + g) (1 + (Dp ((q &&& 4095) / 2 ^ 1)))) (113 + g)) < 1400 from by omega), bb_5, (show (upN Dp (113 + g) (1 + (Dp ((q &&& 4095) / 2 ^ 1)))) = upN Dp (113 + g) (1 + max (Dp (q / 2 ^ 12 / 2 ^ 1)) (Dp ((q &&& 4095) / 2 ^ 1))) from (by rw [Nat.max_def]; split <;> first | rfl | omega)), (show ((upN Dp (113 + g) (1 + (Dp ((q &&& 4095) / 2 ^ 1)))) (113 + g)) = max gd (1 + max (Dp (q / 2 ^ 12 / 2 ^ 1)) (Dp ((q &&& 4095) / 2 ^ 1))) from (by simp only [upN_self] at *; omega))⟩, by rw [ht]; exact hP, va_K.moved hW.alike hK, hD⟩, hS.F ht⟩) hS.2.2 d_Net_addGate_115
    · skip
      have c80 : ¬ ((Dp ((q / 2 ^ 12) / 2 ^ 1)) ≤ (Dp ((q &&& 4095) / 2 ^ 1))) := fun h => c80 ((nI_leI (by omega) (by omega)).mpr h)
      refine lv_iload hx hb d_Net_addGate_83 (lv_at hl 1 rfl) ?_
      refine lv_goto (tgt := 90) hx hb d_Net_addGate_85 (by decide) ?_
      refine lv_iadd hx hb d_Net_addGate_90 ?_
      refine k_top (nI_add _ _) ?_
      refine k_ist hx hb hK hP hD hS 2 0 rfl rfl (by omega) (by decide) d_Net_addGate_91 (fun H locs hP hD hS => ?_)
      have bb_8 : ∀ j, upN Dp (113 + g) (1 + (Dp ((q / 2 ^ 12) / 2 ^ 1))) j < 1400 := upN_lt b_Dp (by omega)
      have hP : va_P (dC, dI) classes [(a_net, .inr (0, [.int (nI (g + 1)), .int (nI gd), .ref a_pairs, .ref a_depths, .ref a_values, .ref a_slots, .int (nI st)])), (a_pairs, .inl (cI, 1393, .inl (nF (upN P (113 + g) q)))), (a_depths, .inl (cI, 1393, .inl (nF (upN Dp (113 + g) (1 + (Dp ((q / 2 ^ 12) / 2 ^ 1))))))), (a_slots, .inl (cI, 2048, .inl (nF (upN Sl k (113 + g)))))] H := hP
      have hD : va_D A [(a_net, .inr (0, [.int (nI (g + 1)), .int (nI gd), .ref a_pairs, .ref a_depths, .ref a_values, .ref a_slots, .int (nI st)])), (a_pairs, .inl (cI, 1393, .inl (nF (upN P (113 + g) q)))), (a_depths, .inl (cI, 1393, .inl (nF (upN Dp (113 + g) (1 + (Dp ((q / 2 ^ 12) / 2 ^ 1))))))), (a_slots, .inl (cI, 2048, .inl (nF (upN Sl k (113 + g)))))] := hD
      refine lv_aload_n hx hb d_Net_addGate_92 rfl (lv_at hl 3 rfl) ?_
      refine va_get (D := (dC, dI)) (ci := 0) (v := .ref a_depths) (C := R_Net) (T := F_Net) (N := 7) hx hb hts (wi i_Net) hown hK hP 0 rfl rfl 3 (by decide) (hts _ (mt 181 rfl rfl)) (fun _ h9 => h9) rfl d_Net_addGate_93 ?_
      refine lv_iload_n hx hb d_Net_addGate_96 rfl (lv_at hl 2 rfl) ?_
      refine k_ild hx hb hK hP 2 0 rfl rfl (by omega) (by decide) d_Net_addGate_97 ?_
      have hb_9 := bb_8 (113 + g)
      refine lv_aload_n hx hb d_Net_addGate_98 rfl (lv_at hl 3 rfl) ?_
      refine va_get (D := (dC, dI)) (ci := 0) (v := .int (nI gd)) (C := R_Net) (T := F_Net) (N := 7) hx hb hts (wi i_Net) hown hK hP 0 rfl rfl 1 (by decide) (hts _ (mt 178 rfl rfl)) (fun _ h9 => h9) rfl d_Net_addGate_99 ?_
      refine lv_icmp_le (tgt := 115) hx hb d_Net_addGate_102 (by decide) (fun c102 => ?_) (fun c102 => ?_)
      · skip
        have c102 : ((upN Dp (113 + g) (1 + (Dp ((q / 2 ^ 12) / 2 ^ 1)))) (113 + g)) ≤ gd := (nI_leI (by omega) (by omega)).mp c102
        exact W.vret hx hb hr (fun t ht hW => ⟨⟨(gd, upN Dp (113 + g) (1 + (Dp ((q / 2 ^ 12) / 2 ^ 1)))), rfl, ⟨(show gd < 1400 from by omega), bb_8, (show (upN Dp (113 + g) (1 + (Dp ((q / 2 ^ 12) / 2 ^ 1)))) = upN Dp (113 + g) (1 + max (Dp (q / 2 ^ 12 / 2 ^ 1)) (Dp ((q &&& 4095) / 2 ^ 1))) from (by rw [Nat.max_def]; split <;> first | rfl | omega)), (show gd = max gd (1 + max (Dp (q / 2 ^ 12 / 2 ^ 1)) (Dp ((q &&& 4095) / 2 ^ 1))) from (by simp only [upN_self] at *; omega))⟩, by rw [ht]; exact hP, va_K.moved hW.alike hK, hD⟩, hS.F ht⟩) hS.2.2 d_Net_addGate_115
      · skip
        have c102 : ¬ (((upN Dp (113 + g) (1 + (Dp ((q / 2 ^ 12) / 2 ^ 1)))) (113 + g)) ≤ gd) := fun h => c102 ((nI_leI (by omega) (by omega)).mpr h)
        refine lv_aload_n hx hb d_Net_addGate_105 rfl (lv_at hl 3 rfl) ?_
        refine lv_aload_n hx hb d_Net_addGate_106 rfl (lv_at hl 3 rfl) ?_
        refine va_get (D := (dC, dI)) (ci := 0) (v := .ref a_depths) (C := R_Net) (T := F_Net) (N := 7) hx hb hts (wi i_Net) hown hK hP 0 rfl rfl 3 (by decide) (hts _ (mt 181 rfl rfl)) (fun _ h9 => h9) rfl d_Net_addGate_107 ?_
        refine lv_iload_n hx hb d_Net_addGate_110 rfl (lv_at hl 2 rfl) ?_
        refine k_ild hx hb hK hP 2 0 rfl rfl (by omega) (by decide) d_Net_addGate_111 ?_
        have hb_10 := bb_8 (113 + g)
        refine va_put (D := (dC, dI)) (ci := 0) (v := .int (nI ((upN Dp (113 + g) (1 + (Dp ((q / 2 ^ 12) / 2 ^ 1)))) (113 + g)))) (ty := .int) (C := R_Net) (T := F_Net) (N := 7) hx hb hts (wi i_Net) t_Net t_Net_ok n_Net hown hK hP hD hS 0 rfl rfl 1 (by decide) (hts _ (mt 178 rfl rfl)) (fun _ h9 => h9) rfl (by decide +kernel) rfl rfl (Nat.le_of_ble_eq_true rfl) d_Net_addGate_112 (fun H locs hP hD hS => ?_)
        have hP : va_P (dC, dI) classes [(a_net, .inr (0, [.int (nI (g + 1)), .int (nI ((upN Dp (113 + g) (1 + (Dp ((q / 2 ^ 12) / 2 ^ 1)))) (113 + g))), .ref a_pairs, .ref a_depths, .ref a_values, .ref a_slots, .int (nI st)])), (a_pairs, .inl (cI, 1393, .inl (nF (upN P (113 + g) q)))), (a_depths, .inl (cI, 1393, .inl (nF (upN Dp (113 + g) (1 + (Dp ((q / 2 ^ 12) / 2 ^ 1))))))), (a_slots, .inl (cI, 2048, .inl (nF (upN Sl k (113 + g)))))] H := hP
        have hD : va_D A [(a_net, .inr (0, [.int (nI (g + 1)), .int (nI ((upN Dp (113 + g) (1 + (Dp ((q / 2 ^ 12) / 2 ^ 1)))) (113 + g))), .ref a_pairs, .ref a_depths, .ref a_values, .ref a_slots, .int (nI st)])), (a_pairs, .inl (cI, 1393, .inl (nF (upN P (113 + g) q)))), (a_depths, .inl (cI, 1393, .inl (nF (upN Dp (113 + g) (1 + (Dp ((q / 2 ^ 12) / 2 ^ 1))))))), (a_slots, .inl (cI, 2048, .inl (nF (upN Sl k (113 + g)))))] := hD
        exact W.vret hx hb hr (fun t ht hW => ⟨⟨((upN Dp (113 + g) (1 + (Dp ((q / 2 ^ 12) / 2 ^ 1)))) (113 + g), upN Dp (113 + g) (1 + (Dp ((q / 2 ^ 12) / 2 ^ 1)))), rfl, ⟨(show ((upN Dp (113 + g) (1 + (Dp ((q / 2 ^ 12) / 2 ^ 1)))) (113 + g)) < 1400 from by omega), bb_8, (show (upN Dp (113 + g) (1 + (Dp ((q / 2 ^ 12) / 2 ^ 1)))) = upN Dp (113 + g) (1 + max (Dp (q / 2 ^ 12 / 2 ^ 1)) (Dp ((q &&& 4095) / 2 ^ 1))) from (by rw [Nat.max_def]; split <;> first | rfl | omega)), (show ((upN Dp (113 + g) (1 + (Dp ((q / 2 ^ 12) / 2 ^ 1)))) (113 + g)) = max gd (1 + max (Dp (q / 2 ^ 12 / 2 ^ 1)) (Dp ((q &&& 4095) / 2 ^ 1))) from (by simp only [upN_self] at *; omega))⟩, by rw [ht]; exact hP, va_K.moved hW.alike hK, hD⟩, hS.F ht⟩) hS.2.2 d_Net_addGate_115
  · skip
    have c7 : g = 1280 := (nI_eq (by omega) (by omega)).mp c7
    omega
