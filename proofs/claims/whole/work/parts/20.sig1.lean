abbrev b_Desk_maskOf : ByteArray := prog_1_method_16_code
def y_Desk_maskOf : MethodName := ⟨"CircuitDesk", "maskOf", "(I)I"⟩
def w_Desk_maskOf : List Cond := .code y_Desk_maskOf b_Desk_maskOf 1 (some .int) :: lw_gw
theorem d_Desk_maskOf_0 : decode b_Desk_maskOf 0 = .ok (.iconst 1, 1) := by decide +kernel
theorem d_Desk_maskOf_1 : decode b_Desk_maskOf 1 = .ok (.iload_n 0, 1) := by decide +kernel
theorem d_Desk_maskOf_2 : decode b_Desk_maskOf 2 = .ok (.ishl, 1) := by decide +kernel
theorem d_Desk_maskOf_3 : decode b_Desk_maskOf 3 = .ok (.iconst 1, 1) := by decide +kernel
theorem d_Desk_maskOf_4 : decode b_Desk_maskOf 4 = .ok (.isub, 1) := by decide +kernel
theorem d_Desk_maskOf_5 : decode b_Desk_maskOf 5 = .ok (.ireturn, 1) := by decide +kernel
abbrev b_Sig_has : ByteArray := prog_5_method_2_code
def y_Sig_has : MethodName := ⟨"CircuitDesk$Signals", "has", "(I)Z"⟩
def w_Sig_has : List Cond := .code y_Sig_has b_Sig_has 2 (some .boolean) :: lw_gw
theorem d_Sig_has_0 : decode b_Sig_has 0 = .ok (.iload_n 1, 1) := by decide +kernel
theorem d_Sig_has_1 : decode b_Sig_has 1 = .ok (.ifCond .lt 15, 3) := by decide +kernel
theorem d_Sig_has_4 : decode b_Sig_has 4 = .ok (.iload_n 1, 1) := by decide +kernel
theorem d_Sig_has_5 : decode b_Sig_has 5 = .ok (.aload_n 0, 1) := by decide +kernel
theorem d_Sig_has_6 : decode b_Sig_has 6 = .ok (.getfield 33, 3) := by decide +kernel
theorem d_Sig_has_9 : decode b_Sig_has 9 = .ok (.if_icmp .ge 7, 3) := by decide +kernel
theorem d_Sig_has_12 : decode b_Sig_has 12 = .ok (.iconst 1, 1) := by decide +kernel
theorem d_Sig_has_13 : decode b_Sig_has 13 = .ok (.goto 4, 3) := by decide +kernel
theorem d_Sig_has_16 : decode b_Sig_has 16 = .ok (.iconst 0, 1) := by decide +kernel
theorem d_Sig_has_17 : decode b_Sig_has 17 = .ok (.ireturn, 1) := by decide +kernel
abbrev b_Sig_hasAll : ByteArray := prog_5_method_3_code
def y_Sig_hasAll : MethodName := ⟨"CircuitDesk$Signals", "hasAll", "(IIII)Z"⟩
def w_Sig_hasAll : List Cond := .code y_Sig_hasAll b_Sig_hasAll 5 (some .boolean) :: lw_gw
theorem d_Sig_hasAll_0 : decode b_Sig_hasAll 0 = .ok (.iload_n 1, 1) := by decide +kernel
theorem d_Sig_hasAll_1 : decode b_Sig_hasAll 1 = .ok (.iconst 1, 1) := by decide +kernel
theorem d_Sig_hasAll_2 : decode b_Sig_hasAll 2 = .ok (.if_icmp .lt 11, 3) := by decide +kernel
theorem d_Sig_hasAll_5 : decode b_Sig_hasAll 5 = .ok (.aload_n 0, 1) := by decide +kernel
theorem d_Sig_hasAll_6 : decode b_Sig_hasAll 6 = .ok (.iload_n 2, 1) := by decide +kernel
theorem d_Sig_hasAll_7 : decode b_Sig_hasAll 7 = .ok (.invokevirtual 37, 3) := by decide +kernel
theorem d_Sig_hasAll_10 : decode b_Sig_hasAll 10 = .ok (.ifCond .eq 34, 3) := by decide +kernel
theorem d_Sig_hasAll_13 : decode b_Sig_hasAll 13 = .ok (.iload_n 1, 1) := by decide +kernel
theorem d_Sig_hasAll_14 : decode b_Sig_hasAll 14 = .ok (.iconst 2, 1) := by decide +kernel
theorem d_Sig_hasAll_15 : decode b_Sig_hasAll 15 = .ok (.if_icmp .lt 11, 3) := by decide +kernel
theorem d_Sig_hasAll_18 : decode b_Sig_hasAll 18 = .ok (.aload_n 0, 1) := by decide +kernel
theorem d_Sig_hasAll_19 : decode b_Sig_hasAll 19 = .ok (.iload_n 3, 1) := by decide +kernel
theorem d_Sig_hasAll_20 : decode b_Sig_hasAll 20 = .ok (.invokevirtual 37, 3) := by decide +kernel
theorem d_Sig_hasAll_23 : decode b_Sig_hasAll 23 = .ok (.ifCond .eq 21, 3) := by decide +kernel
theorem d_Sig_hasAll_26 : decode b_Sig_hasAll 26 = .ok (.iload_n 1, 1) := by decide +kernel
theorem d_Sig_hasAll_27 : decode b_Sig_hasAll 27 = .ok (.iconst 3, 1) := by decide +kernel
theorem d_Sig_hasAll_28 : decode b_Sig_hasAll 28 = .ok (.if_icmp .lt 12, 3) := by decide +kernel
theorem d_Sig_hasAll_31 : decode b_Sig_hasAll 31 = .ok (.aload_n 0, 1) := by decide +kernel
theorem d_Sig_hasAll_32 : decode b_Sig_hasAll 32 = .ok (.iload 4, 2) := by decide +kernel
theorem d_Sig_hasAll_34 : decode b_Sig_hasAll 34 = .ok (.invokevirtual 37, 3) := by decide +kernel
theorem d_Sig_hasAll_37 : decode b_Sig_hasAll 37 = .ok (.ifCond .eq 7, 3) := by decide +kernel
theorem d_Sig_hasAll_40 : decode b_Sig_hasAll 40 = .ok (.iconst 1, 1) := by decide +kernel
theorem d_Sig_hasAll_41 : decode b_Sig_hasAll 41 = .ok (.goto 4, 3) := by decide +kernel
theorem d_Sig_hasAll_44 : decode b_Sig_hasAll 44 = .ok (.iconst 0, 1) := by decide +kernel
theorem d_Sig_hasAll_45 : decode b_Sig_hasAll 45 = .ok (.ireturn, 1) := by decide +kernel
abbrev b_Sig_isSink : ByteArray := prog_5_method_4_code
def y_Sig_isSink : MethodName := ⟨"CircuitDesk$Signals", "isSink", "(I)Z"⟩
def w_Sig_isSink : List Cond := .code y_Sig_isSink b_Sig_isSink 2 (some .boolean) :: lw_gw
theorem d_Sig_isSink_0 : decode b_Sig_isSink 0 = .ok (.aload_n 0, 1) := by decide +kernel
theorem d_Sig_isSink_1 : decode b_Sig_isSink 1 = .ok (.iload_n 1, 1) := by decide +kernel
theorem d_Sig_isSink_2 : decode b_Sig_isSink 2 = .ok (.invokevirtual 37, 3) := by decide +kernel
theorem d_Sig_isSink_5 : decode b_Sig_isSink 5 = .ok (.ifCond .eq 27, 3) := by decide +kernel
theorem d_Sig_isSink_8 : decode b_Sig_isSink 8 = .ok (.aload_n 0, 1) := by decide +kernel
theorem d_Sig_isSink_9 : decode b_Sig_isSink 9 = .ok (.getfield 9, 3) := by decide +kernel
theorem d_Sig_isSink_12 : decode b_Sig_isSink 12 = .ok (.iload_n 1, 1) := by decide +kernel
theorem d_Sig_isSink_13 : decode b_Sig_isSink 13 = .ok (.iaload, 1) := by decide +kernel
theorem d_Sig_isSink_14 : decode b_Sig_isSink 14 = .ok (.iconst 1, 1) := by decide +kernel
theorem d_Sig_isSink_15 : decode b_Sig_isSink 15 = .ok (.if_icmp .eq 13, 3) := by decide +kernel
theorem d_Sig_isSink_18 : decode b_Sig_isSink 18 = .ok (.aload_n 0, 1) := by decide +kernel
theorem d_Sig_isSink_19 : decode b_Sig_isSink 19 = .ok (.getfield 9, 3) := by decide +kernel
theorem d_Sig_isSink_22 : decode b_Sig_isSink 22 = .ok (.iload_n 1, 1) := by decide +kernel
theorem d_Sig_isSink_23 : decode b_Sig_isSink 23 = .ok (.iaload, 1) := by decide +kernel
theorem d_Sig_isSink_24 : decode b_Sig_isSink 24 = .ok (.iconst 2, 1) := by decide +kernel
theorem d_Sig_isSink_25 : decode b_Sig_isSink 25 = .ok (.if_icmp .ne 7, 3) := by decide +kernel
theorem d_Sig_isSink_28 : decode b_Sig_isSink 28 = .ok (.iconst 1, 1) := by decide +kernel
theorem d_Sig_isSink_29 : decode b_Sig_isSink 29 = .ok (.goto 4, 3) := by decide +kernel
theorem d_Sig_isSink_32 : decode b_Sig_isSink 32 = .ok (.iconst 0, 1) := by decide +kernel
theorem d_Sig_isSink_33 : decode b_Sig_isSink 33 = .ok (.ireturn, 1) := by decide +kernel
abbrev b_Sig_addPlain : ByteArray := prog_5_method_5_code
def y_Sig_addPlain : MethodName := ⟨"CircuitDesk$Signals", "addPlain", "(III)I"⟩
def w_Sig_addPlain : List Cond := .code y_Sig_addPlain b_Sig_addPlain 5 (some .int) :: lw_gw
theorem d_Sig_addPlain_0 : decode b_Sig_addPlain 0 = .ok (.aload_n 0, 1) := by decide +kernel
theorem d_Sig_addPlain_1 : decode b_Sig_addPlain 1 = .ok (.getfield 33, 3) := by decide +kernel
theorem d_Sig_addPlain_4 : decode b_Sig_addPlain 4 = .ok (.istore 4, 2) := by decide +kernel
theorem d_Sig_addPlain_6 : decode b_Sig_addPlain 6 = .ok (.aload_n 0, 1) := by decide +kernel
theorem d_Sig_addPlain_7 : decode b_Sig_addPlain 7 = .ok (.getfield 9, 3) := by decide +kernel
theorem d_Sig_addPlain_10 : decode b_Sig_addPlain 10 = .ok (.iload 4, 2) := by decide +kernel
theorem d_Sig_addPlain_12 : decode b_Sig_addPlain 12 = .ok (.iload_n 1, 1) := by decide +kernel
theorem d_Sig_addPlain_13 : decode b_Sig_addPlain 13 = .ok (.iastore, 1) := by decide +kernel
theorem d_Sig_addPlain_14 : decode b_Sig_addPlain 14 = .ok (.aload_n 0, 1) := by decide +kernel
theorem d_Sig_addPlain_15 : decode b_Sig_addPlain 15 = .ok (.getfield 15, 3) := by decide +kernel
theorem d_Sig_addPlain_18 : decode b_Sig_addPlain 18 = .ok (.iload 4, 2) := by decide +kernel
theorem d_Sig_addPlain_20 : decode b_Sig_addPlain 20 = .ok (.iload_n 2, 1) := by decide +kernel
theorem d_Sig_addPlain_21 : decode b_Sig_addPlain 21 = .ok (.iastore, 1) := by decide +kernel
theorem d_Sig_addPlain_22 : decode b_Sig_addPlain 22 = .ok (.aload_n 0, 1) := by decide +kernel
theorem d_Sig_addPlain_23 : decode b_Sig_addPlain 23 = .ok (.getfield 18, 3) := by decide +kernel
theorem d_Sig_addPlain_26 : decode b_Sig_addPlain 26 = .ok (.iload 4, 2) := by decide +kernel
theorem d_Sig_addPlain_28 : decode b_Sig_addPlain 28 = .ok (.iload_n 3, 1) := by decide +kernel
theorem d_Sig_addPlain_29 : decode b_Sig_addPlain 29 = .ok (.iload_n 2, 1) := by decide +kernel
theorem d_Sig_addPlain_30 : decode b_Sig_addPlain 30 = .ok (.invokestatic 41, 3) := by decide +kernel
theorem d_Sig_addPlain_33 : decode b_Sig_addPlain 33 = .ok (.iand, 1) := by decide +kernel
theorem d_Sig_addPlain_34 : decode b_Sig_addPlain 34 = .ok (.iastore, 1) := by decide +kernel
theorem d_Sig_addPlain_35 : decode b_Sig_addPlain 35 = .ok (.aload_n 0, 1) := by decide +kernel
theorem d_Sig_addPlain_36 : decode b_Sig_addPlain 36 = .ok (.dup, 1) := by decide +kernel
theorem d_Sig_addPlain_37 : decode b_Sig_addPlain 37 = .ok (.getfield 33, 3) := by decide +kernel
theorem d_Sig_addPlain_40 : decode b_Sig_addPlain 40 = .ok (.iconst 1, 1) := by decide +kernel
theorem d_Sig_addPlain_41 : decode b_Sig_addPlain 41 = .ok (.iadd, 1) := by decide +kernel
theorem d_Sig_addPlain_42 : decode b_Sig_addPlain 42 = .ok (.putfield 33, 3) := by decide +kernel
theorem d_Sig_addPlain_45 : decode b_Sig_addPlain 45 = .ok (.iload 4, 2) := by decide +kernel
theorem d_Sig_addPlain_47 : decode b_Sig_addPlain 47 = .ok (.ireturn, 1) := by decide +kernel
abbrev b_Sig_describeNode : ByteArray := prog_5_method_6_code
def y_Sig_describeNode : MethodName := ⟨"CircuitDesk$Signals", "describeNode", "(IIIII)V"⟩
def w_Sig_describeNode : List Cond := .code y_Sig_describeNode b_Sig_describeNode 6 none :: lw_gw
theorem d_Sig_describeNode_0 : decode b_Sig_describeNode 0 = .ok (.aload_n 0, 1) := by decide +kernel
theorem d_Sig_describeNode_1 : decode b_Sig_describeNode 1 = .ok (.getfield 21, 3) := by decide +kernel
theorem d_Sig_describeNode_4 : decode b_Sig_describeNode 4 = .ok (.iload_n 1, 1) := by decide +kernel
theorem d_Sig_describeNode_5 : decode b_Sig_describeNode 5 = .ok (.iload_n 2, 1) := by decide +kernel
theorem d_Sig_describeNode_6 : decode b_Sig_describeNode 6 = .ok (.iastore, 1) := by decide +kernel
theorem d_Sig_describeNode_7 : decode b_Sig_describeNode 7 = .ok (.aload_n 0, 1) := by decide +kernel
theorem d_Sig_describeNode_8 : decode b_Sig_describeNode 8 = .ok (.getfield 24, 3) := by decide +kernel
theorem d_Sig_describeNode_11 : decode b_Sig_describeNode 11 = .ok (.iload_n 1, 1) := by decide +kernel
theorem d_Sig_describeNode_12 : decode b_Sig_describeNode 12 = .ok (.iload_n 3, 1) := by decide +kernel
theorem d_Sig_describeNode_13 : decode b_Sig_describeNode 13 = .ok (.iastore, 1) := by decide +kernel
theorem d_Sig_describeNode_14 : decode b_Sig_describeNode 14 = .ok (.aload_n 0, 1) := by decide +kernel
theorem d_Sig_describeNode_15 : decode b_Sig_describeNode 15 = .ok (.getfield 27, 3) := by decide +kernel
theorem d_Sig_describeNode_18 : decode b_Sig_describeNode 18 = .ok (.iload_n 1, 1) := by decide +kernel
theorem d_Sig_describeNode_19 : decode b_Sig_describeNode 19 = .ok (.iload 4, 2) := by decide +kernel
theorem d_Sig_describeNode_21 : decode b_Sig_describeNode 21 = .ok (.iastore, 1) := by decide +kernel
theorem d_Sig_describeNode_22 : decode b_Sig_describeNode 22 = .ok (.aload_n 0, 1) := by decide +kernel
theorem d_Sig_describeNode_23 : decode b_Sig_describeNode 23 = .ok (.getfield 30, 3) := by decide +kernel
theorem d_Sig_describeNode_26 : decode b_Sig_describeNode 26 = .ok (.iload_n 1, 1) := by decide +kernel
theorem d_Sig_describeNode_27 : decode b_Sig_describeNode 27 = .ok (.iload 5, 2) := by decide +kernel
theorem d_Sig_describeNode_29 : decode b_Sig_describeNode 29 = .ok (.iastore, 1) := by decide +kernel
theorem d_Sig_describeNode_30 : decode b_Sig_describeNode 30 = .ok (.return_, 1) := by decide +kernel
abbrev b_Sig_wider : ByteArray := prog_5_method_7_code
def y_Sig_wider : MethodName := ⟨"CircuitDesk$Signals", "wider", "(II)I"⟩
def w_Sig_wider : List Cond := .code y_Sig_wider b_Sig_wider 3 (some .int) :: lw_gw
theorem d_Sig_wider_0 : decode b_Sig_wider 0 = .ok (.aload_n 0, 1) := by decide +kernel
theorem d_Sig_wider_1 : decode b_Sig_wider 1 = .ok (.getfield 15, 3) := by decide +kernel
theorem d_Sig_wider_4 : decode b_Sig_wider 4 = .ok (.iload_n 1, 1) := by decide +kernel
theorem d_Sig_wider_5 : decode b_Sig_wider 5 = .ok (.iaload, 1) := by decide +kernel
theorem d_Sig_wider_6 : decode b_Sig_wider 6 = .ok (.aload_n 0, 1) := by decide +kernel
theorem d_Sig_wider_7 : decode b_Sig_wider 7 = .ok (.getfield 15, 3) := by decide +kernel
theorem d_Sig_wider_10 : decode b_Sig_wider 10 = .ok (.iload_n 2, 1) := by decide +kernel
theorem d_Sig_wider_11 : decode b_Sig_wider 11 = .ok (.iaload, 1) := by decide +kernel
theorem d_Sig_wider_12 : decode b_Sig_wider 12 = .ok (.invokestatic 45, 3) := by decide +kernel
theorem d_Sig_wider_15 : decode b_Sig_wider 15 = .ok (.ireturn, 1) := by decide +kernel
set_option maxHeartbeats 4000000 in
set_option maxRecDepth 100000 in
theorem c_Desk_maskOf (l : Launch) (dC : Nat → ClassId) (dI : Nat → Nat → Nat) (cI cZ : ClassId) (tt sz : Nat) (w : Nat) (hw : w ≤ 8) : Met l y_Desk_maskOf w_Desk_maskOf ({ frames := 0, cells := 0, slots := 0, locals := 0 }) (va_Pc [.int (nI w)] (PW (dC, dI) classes [(cI, .int), (cZ, .boolean)] tt [] sz)) (va_Qi (fun (r : Int32) (u : Unit) => (r = nI (2 ^ w - 1))) (AT (dC, dI) classes [(cI, .int), (cZ, .boolean)] (va_A [] sz) (fun (u : Unit) => [])) (va_A [] sz)) 0 0 (va_A [] sz) := by
  refine Met.ofW (cc := b_Desk_maskOf) (maxL := 1) (ret := (some .int)) (by decide) rfl ?_
  intro p e s m args below meth c s₁ B hml hv
  obtain ⟨rfl, hsz, hP, hK, hD0, hE⟩ := hv
  have hx := B.exec
  have hb := B.bytes
  have hr := B.returns
  have hts := atoms_spec (ws := w_Desk_maskOf) B.pre
  have hown : s.vm.findClass R_Desk = some m.cls := findClass_of_methodNamed B.named
  have hlocks := B.notSynchronized
  subst hsz
  have hD := hD0.self (sz := s.heap.size)
  generalize hAe : va_A [] s.heap.size = A at hD hE ⊢
  have hA : ∀ q : Nat, s.heap.size ≤ q → A q := fun q h => by rw [← hAe]; exact Or.inr h
  have hS : va_S A s.heap s.heap [] := va_S.rf
  have hP : va_P (dC, dI) classes [] s.heap := hP
  have hl := lv_entry ([.int (nI w)]) (n := 1) (Nat.le_of_ble_eq_true rfl)
  rw [lg_entry_eq]
  generalize (lg_sl ([.int (nI w)]) ++ List.replicate (1 - (lg_sl ([.int (nI w)])).length) Slot.unset).toArray = ls at hl ⊢
  have hl : lv_has ls 1 [(0, .int (nI w))] := hl
  refine lv_iconst (v := nI 1) hx hb d_Desk_maskOf_0 rfl ?_
  refine lv_iload_n hx hb d_Desk_maskOf_1 rfl (lv_at hl 0 rfl) ?_
  refine lv_ishl hx hb d_Desk_maskOf_2 ?_
  refine k_top (nI_shl _ (by omega)) ?_
  refine lv_iconst (v := nI 1) hx hb d_Desk_maskOf_3 rfl ?_
  refine lv_isub hx hb d_Desk_maskOf_4 ?_
  refine k_top (pk_sub (by have := Nat.two_pow_pos w; omega)) ?_
  exact W.iret (v := nI ((1 * 2 ^ w) - 1)) hx hb hr (fun t ht hW => ⟨⟨nI ((1 * 2 ^ w) - 1), (), rfl, (by rw [Nat.one_mul]), by rw [ht]; exact hP, va_K.moved hW.alike hK, hD⟩, hS.F ht⟩) hS.2.2 d_Desk_maskOf_5
set_option maxHeartbeats 4000000 in
set_option maxRecDepth 100000 in
theorem c_Sig_has (l : Launch) (dC : Nat → ClassId) (dI : Nat → Nat → Nat) (cI cZ : ClassId) (a_sig a_kind a_width a_rword a_sop a_sa a_sb a_sc : Nat) (tt sz : Nat) (n : Nat) (x : Int32) (b_n : n ≤ 14) : Met l y_Sig_has w_Sig_has ({ frames := 0, cells := 0, slots := 0, locals := 0 }) (va_Pc [.ref a_sig, .int x] (PW (dC, dI) classes [(cI, .int), (cZ, .boolean)] tt [(a_sig, .inr (1, [.ref a_kind, .ref a_width, .ref a_rword, .ref a_sop, .ref a_sa, .ref a_sb, .ref a_sc, .int (nI n)]))] sz)) (va_Qi (fun (r : Int32) (u : Unit) => (r = nI (hs n x))) (AT (dC, dI) classes [(cI, .int), (cZ, .boolean)] (va_A [(a_sig, .inr (1, [.ref a_kind, .ref a_width, .ref a_rword, .ref a_sop, .ref a_sa, .ref a_sb, .ref a_sc, .int (nI n)]))] sz) (fun (u : Unit) => [(a_sig, .inr (1, [.ref a_kind, .ref a_width, .ref a_rword, .ref a_sop, .ref a_sa, .ref a_sb, .ref a_sc, .int (nI n)]))])) (va_A [(a_sig, .inr (1, [.ref a_kind, .ref a_width, .ref a_rword, .ref a_sop, .ref a_sa, .ref a_sb, .ref a_sc, .int (nI n)]))] sz)) 0 0 (va_A [(a_sig, .inr (1, [.ref a_kind, .ref a_width, .ref a_rword, .ref a_sop, .ref a_sa, .ref a_sb, .ref a_sc, .int (nI n)]))] sz) := by
  refine Met.ofW (cc := b_Sig_has) (maxL := 2) (ret := (some .boolean)) (by decide) rfl ?_
  intro p e s m args below meth c s₁ B hml hv
  obtain ⟨rfl, hsz, hP, hK, hD0, hE⟩ := hv
  have hx := B.exec
  have hb := B.bytes
  have hr := B.returns
  have hts := atoms_spec (ws := w_Sig_has) B.pre
  have hown : s.vm.findClass R_Sig = some m.cls := findClass_of_methodNamed B.named
  have hlocks := B.notSynchronized
  subst hsz
  have hD := hD0.self (sz := s.heap.size)
  generalize hAe : va_A [(a_sig, .inr (1, [.ref a_kind, .ref a_width, .ref a_rword, .ref a_sop, .ref a_sa, .ref a_sb, .ref a_sc, .int (nI n)]))] s.heap.size = A at hD hE ⊢
  have hA : ∀ q : Nat, s.heap.size ≤ q → A q := fun q h => by rw [← hAe]; exact Or.inr h
  have hS : va_S A s.heap s.heap [] := va_S.rf
  have hP : va_P (dC, dI) classes [(a_sig, .inr (1, [.ref a_kind, .ref a_width, .ref a_rword, .ref a_sop, .ref a_sa, .ref a_sb, .ref a_sc, .int (nI n)]))] s.heap := hP
  have hl := lv_entry ([.ref a_sig, .int x]) (n := 2) (Nat.le_of_ble_eq_true rfl)
  rw [lg_entry_eq]
  generalize (lg_sl ([.ref a_sig, .int x]) ++ List.replicate (2 - (lg_sl ([.ref a_sig, .int x])).length) Slot.unset).toArray = ls at hl ⊢
  have hl : lv_has ls 2 [(0, .ref a_sig), (1, .int x)] := hl
  refine lv_iload_n hx hb d_Sig_has_0 rfl (lv_at hl 1 rfl) ?_
  refine lv_if_lt (tgt := 16) hx hb d_Sig_has_1 (by decide) (fun c1 => ?_) (fun c1 => ?_)
  · skip
    have c1 : x.toInt < 0 := (ri_lt rfl rfl).mp c1
    refine lv_iconst (v := nI 0) hx hb d_Sig_has_16 rfl ?_
    exact W.zret (v := nI 0) (ty := .boolean) hx hb hr (k_narZ (by omega)) (fun t ht hW => ⟨⟨nI 0, (), rfl, (by unfold hs; rw [if_neg (by omega)]), by rw [ht]; exact hP, va_K.moved hW.alike hK, hD⟩, hS.F ht⟩) hS.2.2 d_Sig_has_17
  · skip
    have c1 : ¬ (x.toInt < 0) := fun h => c1 ((ri_lt rfl rfl).mpr h)
    refine lv_iload_n hx hb d_Sig_has_4 rfl (lv_at hl 1 rfl) ?_
    refine lv_aload_n hx hb d_Sig_has_5 rfl (lv_at hl 0 rfl) ?_
    refine va_get (D := (dC, dI)) (ci := 1) (v := .int (nI n)) (C := R_Sig) (T := F_Sig) (N := 8) hx hb hts (wi i_Sig) hown hK hP 0 rfl rfl 7 (by decide) (hts _ (mt 83 rfl rfl)) (fun _ h9 => h9) rfl d_Sig_has_6 ?_
    refine lv_icmp_ge (tgt := 16) hx hb d_Sig_has_9 (by decide) (fun c9 => ?_) (fun c9 => ?_)
    · skip
      have c9 : ((n : Nat) : Int) ≤ x.toInt := (ri_le (nI_toInt (show _ < 2 ^ 31 by omega)) rfl).mp c9
      refine lv_iconst (v := nI 0) hx hb d_Sig_has_16 rfl ?_
      exact W.zret (v := nI 0) (ty := .boolean) hx hb hr (k_narZ (by omega)) (fun t ht hW => ⟨⟨nI 0, (), rfl, (by unfold hs; rw [if_neg (by omega)]), by rw [ht]; exact hP, va_K.moved hW.alike hK, hD⟩, hS.F ht⟩) hS.2.2 d_Sig_has_17
    · skip
      have c9 : ¬ (((n : Nat) : Int) ≤ x.toInt) := fun h => c9 ((ri_le (nI_toInt (show _ < 2 ^ 31 by omega)) rfl).mpr h)
      refine lv_iconst (v := nI 1) hx hb d_Sig_has_12 rfl ?_
      refine lv_goto (tgt := 17) hx hb d_Sig_has_13 (by decide) ?_
      exact W.zret (v := nI 1) (ty := .boolean) hx hb hr (k_narZ (by omega)) (fun t ht hW => ⟨⟨nI 1, (), rfl, (by unfold hs; rw [if_pos (by omega)]), by rw [ht]; exact hP, va_K.moved hW.alike hK, hD⟩, hS.F ht⟩) hS.2.2 d_Sig_has_17
set_option maxHeartbeats 4000000 in
set_option maxRecDepth 100000 in
theorem c_Sig_hasAll (l : Launch) (dC : Nat → ClassId) (dI : Nat → Nat → Nat) (cI cZ : ClassId) (a_sig a_kind a_width a_rword a_sop a_sa a_sb a_sc : Nat) (tt sz : Nat) (n : Nat) (np : Nat) (x : Int32) (y : Int32) (z : Int32) (b_n : n ≤ 14) (hp : np ≤ 3) : Met l y_Sig_hasAll w_Sig_hasAll ({ frames := 1, cells := 0, slots := 0, locals := 21 }) (va_Pc [.ref a_sig, .int (nI np), .int x, .int y, .int z] (PW (dC, dI) classes [(cI, .int), (cZ, .boolean)] tt [(a_sig, .inr (1, [.ref a_kind, .ref a_width, .ref a_rword, .ref a_sop, .ref a_sa, .ref a_sb, .ref a_sc, .int (nI n)]))] sz)) (va_Qi (fun (r : Int32) (u : Unit) => (r = nI (if (np < 1 ∨ hs n x = 1) ∧ (np < 2 ∨ hs n y = 1) ∧ (np < 3 ∨ hs n z = 1) then 1 else 0))) (AT (dC, dI) classes [(cI, .int), (cZ, .boolean)] (va_A [(a_sig, .inr (1, [.ref a_kind, .ref a_width, .ref a_rword, .ref a_sop, .ref a_sa, .ref a_sb, .ref a_sc, .int (nI n)]))] sz) (fun (u : Unit) => [(a_sig, .inr (1, [.ref a_kind, .ref a_width, .ref a_rword, .ref a_sop, .ref a_sa, .ref a_sb, .ref a_sc, .int (nI n)]))])) (va_A [(a_sig, .inr (1, [.ref a_kind, .ref a_width, .ref a_rword, .ref a_sop, .ref a_sa, .ref a_sb, .ref a_sc, .int (nI n)]))] sz)) 0 0 (va_A [(a_sig, .inr (1, [.ref a_kind, .ref a_width, .ref a_rword, .ref a_sop, .ref a_sa, .ref a_sb, .ref a_sc, .int (nI n)]))] sz) := by
  refine Met.ofW (cc := b_Sig_hasAll) (maxL := 5) (ret := (some .boolean)) (by decide) rfl ?_
  intro p e s m args below meth c s₁ B hml hv
  obtain ⟨rfl, hsz, hP, hK, hD0, hE⟩ := hv
  have hx := B.exec
  have hb := B.bytes
  have hr := B.returns
  have hts := atoms_spec (ws := w_Sig_hasAll) B.pre
  have hown : s.vm.findClass R_Sig = some m.cls := findClass_of_methodNamed B.named
  have hlocks := B.notSynchronized
  subst hsz
  have hD := hD0.self (sz := s.heap.size)
  generalize hAe : va_A [(a_sig, .inr (1, [.ref a_kind, .ref a_width, .ref a_rword, .ref a_sop, .ref a_sa, .ref a_sb, .ref a_sc, .int (nI n)]))] s.heap.size = A at hD hE ⊢
  have hA : ∀ q : Nat, s.heap.size ≤ q → A q := fun q h => by rw [← hAe]; exact Or.inr h
  have hS : va_S A s.heap s.heap [] := va_S.rf
  have hP : va_P (dC, dI) classes [(a_sig, .inr (1, [.ref a_kind, .ref a_width, .ref a_rword, .ref a_sop, .ref a_sa, .ref a_sb, .ref a_sc, .int (nI n)]))] s.heap := hP
  have hl := lv_entry ([.ref a_sig, .int (nI np), .int x, .int y, .int z]) (n := 5) (Nat.le_of_ble_eq_true rfl)
  rw [lg_entry_eq]
  generalize (lg_sl ([.ref a_sig, .int (nI np), .int x, .int y, .int z]) ++ List.replicate (5 - (lg_sl ([.ref a_sig, .int (nI np), .int x, .int y, .int z])).length) Slot.unset).toArray = ls at hl ⊢
  have hl : lv_has ls 5 [(0, .ref a_sig), (1, .int (nI np)), (2, .int x), (3, .int y), (4, .int z)] := hl
  refine lv_iload_n hx hb d_Sig_hasAll_0 rfl (lv_at hl 1 rfl) ?_
  refine lv_iconst (v := nI 1) hx hb d_Sig_hasAll_1 rfl ?_
  refine lv_icmp_lt (tgt := 13) hx hb d_Sig_hasAll_2 (by decide) (fun c2 => ?_) (fun c2 => ?_)
  · skip
    have c2 : np < 1 := (nI_ltI (by omega) (by omega)).mp c2
    refine lv_iload_n hx hb d_Sig_hasAll_13 rfl (lv_at hl 1 rfl) ?_
    refine lv_iconst (v := nI 2) hx hb d_Sig_hasAll_14 rfl ?_
    refine lv_icmp_lt (tgt := 26) hx hb d_Sig_hasAll_15 (by decide) (fun c15 => ?_) (fun c15 => ?_)
    · skip
      have c15 : np < 2 := (nI_ltI (by omega) (by omega)).mp c15
      refine lv_iload_n hx hb d_Sig_hasAll_26 rfl (lv_at hl 1 rfl) ?_
      refine lv_iconst (v := nI 3) hx hb d_Sig_hasAll_27 rfl ?_
      refine lv_icmp_lt (tgt := 40) hx hb d_Sig_hasAll_28 (by decide) (fun c28 => ?_) (fun c28 => ?_)
      · skip
        have c28 : np < 3 := (nI_ltI (by omega) (by omega)).mp c28
        have hq : (np < 1 ∨ hs n x = 1) ∧ (np < 2 ∨ hs n y = 1) ∧ (np < 3 ∨ hs n z = 1) := by omega
        refine lv_iconst (v := nI 1) hx hb d_Sig_hasAll_40 rfl ?_
        refine lv_goto (tgt := 45) hx hb d_Sig_hasAll_41 (by decide) ?_
        exact W.zret (v := nI 1) (ty := .boolean) hx hb hr (k_narZ (by omega)) (fun t ht hW => ⟨⟨nI 1, (), rfl, (by first | rw [if_pos hq] | rw [if_neg hq]), by rw [ht]; exact hP, va_K.moved hW.alike hK, hD⟩, hS.F ht⟩) hS.2.2 d_Sig_hasAll_45
      · skip
        have c28 : ¬ (np < 3) := fun h => c28 ((nI_ltI (by omega) (by omega)).mpr h)
        refine lv_aload_n hx hb d_Sig_hasAll_31 rfl (lv_at hl 0 rfl) ?_
        refine lv_iload hx hb d_Sig_hasAll_32 (lv_at hl 4 rfl) ?_
        refine k_i (wr := []) (w2 := fun (u : Unit) => [(a_sig, .inr (1, [.ref a_kind, .ref a_width, .ref a_rword, .ref a_sop, .ref a_sa, .ref a_sb, .ref a_sc, .int (nI n)]))]) (va_runV (As := [.int z]) (rest := []) ⟨hx, hb, hml, hown, hts⟩ (c_Sig_has l dC dI cI cZ a_sig a_kind a_width a_rword a_sop a_sa a_sb a_sc tt s.heap.size n z (by omega)) (cwV 1 hts (gd_V in_tl (mw 291 rfl rfl) (mw 292 rfl rfl) (mw 293 rfl rfl) (mw 42 rfl rfl) (mw 294 rfl rfl)) rfl rfl rfl (by decide +kernel) ⟨Nat.le_of_ble_eq_true rfl, Nat.le_of_ble_eq_true rfl⟩) (k_preV hK hP hD hS hA hE [0] (by decide) rfl 1 0 rfl rfl) rfl rfl hl.1 rfl (lv_room (Nat.le_of_ble_eq_true rfl)) d_Sig_hasAll_34 ⟨Nat.zero_le _, Nat.zero_le _⟩) hP hD hS hA [0] [] [0] rfl rfl (by decide) (by decide) (by decide) (fun _ => rfl) (fun r_1 u H locs hw hP hD hS => ?_)
        obtain rfl : (r_1 = nI (hs n z)) := hw
        have hP : va_P (dC, dI) classes [(a_sig, .inr (1, [.ref a_kind, .ref a_width, .ref a_rword, .ref a_sop, .ref a_sa, .ref a_sb, .ref a_sc, .int (nI n)]))] H := hP
        have hD : va_D A [(a_sig, .inr (1, [.ref a_kind, .ref a_width, .ref a_rword, .ref a_sop, .ref a_sa, .ref a_sb, .ref a_sc, .int (nI n)]))] := hD
        have hz1 := hs_le n z
        refine lv_if_eq (tgt := 44) hx hb d_Sig_hasAll_37 (by decide) (fun c37 => ?_) (fun c37 => ?_)
        · skip
          have c37 : (hs n z) = 0 := (nI_eq0 (by omega)).mp c37
          have hq : ¬ ((np < 1 ∨ hs n x = 1) ∧ (np < 2 ∨ hs n y = 1) ∧ (np < 3 ∨ hs n z = 1)) := by omega
          refine lv_iconst (v := nI 0) hx hb d_Sig_hasAll_44 rfl ?_
          exact W.zret (v := nI 0) (ty := .boolean) hx hb hr (k_narZ (by omega)) (fun t ht hW => ⟨⟨nI 0, (), rfl, (by first | rw [if_pos hq] | rw [if_neg hq]), by rw [ht]; exact hP, va_K.moved hW.alike hK, hD⟩, hS.F ht⟩) hS.2.2 d_Sig_hasAll_45
        · skip
          have c37 : ¬ ((hs n z) = 0) := fun h => c37 ((nI_eq0 (by omega)).mpr h)
          have hq : (np < 1 ∨ hs n x = 1) ∧ (np < 2 ∨ hs n y = 1) ∧ (np < 3 ∨ hs n z = 1) := by omega
          refine lv_iconst (v := nI 1) hx hb d_Sig_hasAll_40 rfl ?_
          refine lv_goto (tgt := 45) hx hb d_Sig_hasAll_41 (by decide) ?_
          exact W.zret (v := nI 1) (ty := .boolean) hx hb hr (k_narZ (by omega)) (fun t ht hW => ⟨⟨nI 1, (), rfl, (by first | rw [if_pos hq] | rw [if_neg hq]), by rw [ht]; exact hP, va_K.moved hW.alike hK, hD⟩, hS.F ht⟩) hS.2.2 d_Sig_hasAll_45
    · skip
      have c15 : ¬ (np < 2) := fun h => c15 ((nI_ltI (by omega) (by omega)).mpr h)
      refine lv_aload_n hx hb d_Sig_hasAll_18 rfl (lv_at hl 0 rfl) ?_
      refine lv_iload_n hx hb d_Sig_hasAll_19 rfl (lv_at hl 3 rfl) ?_
      refine k_i (wr := []) (w2 := fun (u : Unit) => [(a_sig, .inr (1, [.ref a_kind, .ref a_width, .ref a_rword, .ref a_sop, .ref a_sa, .ref a_sb, .ref a_sc, .int (nI n)]))]) (va_runV (As := [.int y]) (rest := []) ⟨hx, hb, hml, hown, hts⟩ (c_Sig_has l dC dI cI cZ a_sig a_kind a_width a_rword a_sop a_sa a_sb a_sc tt s.heap.size n y (by omega)) (cwV 1 hts (gd_V in_tl (mw 291 rfl rfl) (mw 292 rfl rfl) (mw 293 rfl rfl) (mw 42 rfl rfl) (mw 294 rfl rfl)) rfl rfl rfl (by decide +kernel) ⟨Nat.le_of_ble_eq_true rfl, Nat.le_of_ble_eq_true rfl⟩) (k_preV hK hP hD hS hA hE [0] (by decide) rfl 1 0 rfl rfl) rfl rfl hl.1 rfl (lv_room (Nat.le_of_ble_eq_true rfl)) d_Sig_hasAll_20 ⟨Nat.zero_le _, Nat.zero_le _⟩) hP hD hS hA [0] [] [0] rfl rfl (by decide) (by decide) (by decide) (fun _ => rfl) (fun r_2 u H locs hw hP hD hS => ?_)
      obtain rfl : (r_2 = nI (hs n y)) := hw
      have hP : va_P (dC, dI) classes [(a_sig, .inr (1, [.ref a_kind, .ref a_width, .ref a_rword, .ref a_sop, .ref a_sa, .ref a_sb, .ref a_sc, .int (nI n)]))] H := hP
      have hD : va_D A [(a_sig, .inr (1, [.ref a_kind, .ref a_width, .ref a_rword, .ref a_sop, .ref a_sa, .ref a_sb, .ref a_sc, .int (nI n)]))] := hD
      have hy1 := hs_le n y
      refine lv_if_eq (tgt := 44) hx hb d_Sig_hasAll_23 (by decide) (fun c23 => ?_) (fun c23 => ?_)
      · skip
        have c23 : (hs n y) = 0 := (nI_eq0 (by omega)).mp c23
        have hq : ¬ ((np < 1 ∨ hs n x = 1) ∧ (np < 2 ∨ hs n y = 1) ∧ (np < 3 ∨ hs n z = 1)) := by omega
        refine lv_iconst (v := nI 0) hx hb d_Sig_hasAll_44 rfl ?_
        exact W.zret (v := nI 0) (ty := .boolean) hx hb hr (k_narZ (by omega)) (fun t ht hW => ⟨⟨nI 0, (), rfl, (by first | rw [if_pos hq] | rw [if_neg hq]), by rw [ht]; exact hP, va_K.moved hW.alike hK, hD⟩, hS.F ht⟩) hS.2.2 d_Sig_hasAll_45
      · skip
        have c23 : ¬ ((hs n y) = 0) := fun h => c23 ((nI_eq0 (by omega)).mpr h)
        refine lv_iload_n hx hb d_Sig_hasAll_26 rfl (lv_at hl 1 rfl) ?_
        refine lv_iconst (v := nI 3) hx hb d_Sig_hasAll_27 rfl ?_
        refine lv_icmp_lt (tgt := 40) hx hb d_Sig_hasAll_28 (by decide) (fun c28 => ?_) (fun c28 => ?_)
        · skip
          have c28 : np < 3 := (nI_ltI (by omega) (by omega)).mp c28
          have hq : (np < 1 ∨ hs n x = 1) ∧ (np < 2 ∨ hs n y = 1) ∧ (np < 3 ∨ hs n z = 1) := by omega
          refine lv_iconst (v := nI 1) hx hb d_Sig_hasAll_40 rfl ?_
          refine lv_goto (tgt := 45) hx hb d_Sig_hasAll_41 (by decide) ?_
          exact W.zret (v := nI 1) (ty := .boolean) hx hb hr (k_narZ (by omega)) (fun t ht hW => ⟨⟨nI 1, (), rfl, (by first | rw [if_pos hq] | rw [if_neg hq]), by rw [ht]; exact hP, va_K.moved hW.alike hK, hD⟩, hS.F ht⟩) hS.2.2 d_Sig_hasAll_45
        · skip
          have c28 : ¬ (np < 3) := fun h => c28 ((nI_ltI (by omega) (by omega)).mpr h)
          refine lv_aload_n hx hb d_Sig_hasAll_31 rfl (lv_at hl 0 rfl) ?_
          refine lv_iload hx hb d_Sig_hasAll_32 (lv_at hl 4 rfl) ?_
          refine k_i (wr := []) (w2 := fun (u : Unit) => [(a_sig, .inr (1, [.ref a_kind, .ref a_width, .ref a_rword, .ref a_sop, .ref a_sa, .ref a_sb, .ref a_sc, .int (nI n)]))]) (va_runV (As := [.int z]) (rest := []) ⟨hx, hb, hml, hown, hts⟩ (c_Sig_has l dC dI cI cZ a_sig a_kind a_width a_rword a_sop a_sa a_sb a_sc tt H.size n z (by omega)) (cwV 1 hts (gd_V in_tl (mw 291 rfl rfl) (mw 292 rfl rfl) (mw 293 rfl rfl) (mw 42 rfl rfl) (mw 294 rfl rfl)) rfl rfl rfl (by decide +kernel) ⟨Nat.le_of_ble_eq_true rfl, Nat.le_of_ble_eq_true rfl⟩) (k_preV hK hP hD hS hA hE [0] (by decide) rfl 1 0 rfl rfl) rfl rfl hl.1 rfl (lv_room (Nat.le_of_ble_eq_true rfl)) d_Sig_hasAll_34 ⟨Nat.zero_le _, Nat.zero_le _⟩) hP hD hS hA [0] [] [0] rfl rfl (by decide) (by decide) (by decide) (fun _ => rfl) (fun r_3 u H locs hw hP hD hS => ?_)
          obtain rfl : (r_3 = nI (hs n z)) := hw
          have hP : va_P (dC, dI) classes [(a_sig, .inr (1, [.ref a_kind, .ref a_width, .ref a_rword, .ref a_sop, .ref a_sa, .ref a_sb, .ref a_sc, .int (nI n)]))] H := hP
          have hD : va_D A [(a_sig, .inr (1, [.ref a_kind, .ref a_width, .ref a_rword, .ref a_sop, .ref a_sa, .ref a_sb, .ref a_sc, .int (nI n)]))] := hD
          have hz1 := hs_le n z
          refine lv_if_eq (tgt := 44) hx hb d_Sig_hasAll_37 (by decide) (fun c37 => ?_) (fun c37 => ?_)
          · skip
            have c37 : (hs n z) = 0 := (nI_eq0 (by omega)).mp c37
            have hq : ¬ ((np < 1 ∨ hs n x = 1) ∧ (np < 2 ∨ hs n y = 1) ∧ (np < 3 ∨ hs n z = 1)) := by omega
            refine lv_iconst (v := nI 0) hx hb d_Sig_hasAll_44 rfl ?_
            exact W.zret (v := nI 0) (ty := .boolean) hx hb hr (k_narZ (by omega)) (fun t ht hW => ⟨⟨nI 0, (), rfl, (by first | rw [if_pos hq] | rw [if_neg hq]), by rw [ht]; exact hP, va_K.moved hW.alike hK, hD⟩, hS.F ht⟩) hS.2.2 d_Sig_hasAll_45
          · skip
            have c37 : ¬ ((hs n z) = 0) := fun h => c37 ((nI_eq0 (by omega)).mpr h)
            have hq : (np < 1 ∨ hs n x = 1) ∧ (np < 2 ∨ hs n y = 1) ∧ (np < 3 ∨ hs n z = 1) := by omega
            refine lv_iconst (v := nI 1) hx hb d_Sig_hasAll_40 rfl ?_
            refine lv_goto (tgt := 45) hx hb d_Sig_hasAll_41 (by decide) ?_
            exact W.zret (v := nI 1) (ty := .boolean) hx hb hr (k_narZ (by omega)) (fun t ht hW => ⟨⟨nI 1, (), rfl, (by first | rw [if_pos hq] | rw [if_neg hq]), by rw [ht]; exact hP, va_K.moved hW.alike hK, hD⟩, hS.F ht⟩) hS.2.2 d_Sig_hasAll_45
  · skip
    have c2 : ¬ (np < 1) := fun h => c2 ((nI_ltI (by omega) (by omega)).mpr h)
    refine lv_aload_n hx hb d_Sig_hasAll_5 rfl (lv_at hl 0 rfl) ?_
    refine lv_iload_n hx hb d_Sig_hasAll_6 rfl (lv_at hl 2 rfl) ?_
    refine k_i (wr := []) (w2 := fun (u : Unit) => [(a_sig, .inr (1, [.ref a_kind, .ref a_width, .ref a_rword, .ref a_sop, .ref a_sa, .ref a_sb, .ref a_sc, .int (nI n)]))]) (va_runV (As := [.int x]) (rest := []) ⟨hx, hb, hml, hown, hts⟩ (c_Sig_has l dC dI cI cZ a_sig a_kind a_width a_rword a_sop a_sa a_sb a_sc tt s.heap.size n x (by omega)) (cwV 1 hts (gd_V in_tl (mw 291 rfl rfl) (mw 292 rfl rfl) (mw 293 rfl rfl) (mw 42 rfl rfl) (mw 294 rfl rfl)) rfl rfl rfl (by decide +kernel) ⟨Nat.le_of_ble_eq_true rfl, Nat.le_of_ble_eq_true rfl⟩) (k_preV hK hP hD hS hA hE [0] (by decide) rfl 1 0 rfl rfl) rfl rfl hl.1 rfl (lv_room (Nat.le_of_ble_eq_true rfl)) d_Sig_hasAll_7 ⟨Nat.zero_le _, Nat.zero_le _⟩) hP hD hS hA [0] [] [0] rfl rfl (by decide) (by decide) (by decide) (fun _ => rfl) (fun r_4 u H locs hw hP hD hS => ?_)
    obtain rfl : (r_4 = nI (hs n x)) := hw
    have hP : va_P (dC, dI) classes [(a_sig, .inr (1, [.ref a_kind, .ref a_width, .ref a_rword, .ref a_sop, .ref a_sa, .ref a_sb, .ref a_sc, .int (nI n)]))] H := hP
    have hD : va_D A [(a_sig, .inr (1, [.ref a_kind, .ref a_width, .ref a_rword, .ref a_sop, .ref a_sa, .ref a_sb, .ref a_sc, .int (nI n)]))] := hD
    have hx1 := hs_le n x
    refine lv_if_eq (tgt := 44) hx hb d_Sig_hasAll_10 (by decide) (fun c10 => ?_) (fun c10 => ?_)
    · skip
      have c10 : (hs n x) = 0 := (nI_eq0 (by omega)).mp c10
      have hq : ¬ ((np < 1 ∨ hs n x = 1) ∧ (np < 2 ∨ hs n y = 1) ∧ (np < 3 ∨ hs n z = 1)) := by omega
      refine lv_iconst (v := nI 0) hx hb d_Sig_hasAll_44 rfl ?_
      exact W.zret (v := nI 0) (ty := .boolean) hx hb hr (k_narZ (by omega)) (fun t ht hW => ⟨⟨nI 0, (), rfl, (by first | rw [if_pos hq] | rw [if_neg hq]), by rw [ht]; exact hP, va_K.moved hW.alike hK, hD⟩, hS.F ht⟩) hS.2.2 d_Sig_hasAll_45
    · skip
      have c10 : ¬ ((hs n x) = 0) := fun h => c10 ((nI_eq0 (by omega)).mpr h)
      refine lv_iload_n hx hb d_Sig_hasAll_13 rfl (lv_at hl 1 rfl) ?_
      refine lv_iconst (v := nI 2) hx hb d_Sig_hasAll_14 rfl ?_
      refine lv_icmp_lt (tgt := 26) hx hb d_Sig_hasAll_15 (by decide) (fun c15 => ?_) (fun c15 => ?_)
      · skip
        have c15 : np < 2 := (nI_ltI (by omega) (by omega)).mp c15
        refine lv_iload_n hx hb d_Sig_hasAll_26 rfl (lv_at hl 1 rfl) ?_
        refine lv_iconst (v := nI 3) hx hb d_Sig_hasAll_27 rfl ?_
        refine lv_icmp_lt (tgt := 40) hx hb d_Sig_hasAll_28 (by decide) (fun c28 => ?_) (fun c28 => ?_)
        · skip
          have c28 : np < 3 := (nI_ltI (by omega) (by omega)).mp c28
          have hq : (np < 1 ∨ hs n x = 1) ∧ (np < 2 ∨ hs n y = 1) ∧ (np < 3 ∨ hs n z = 1) := by omega
          refine lv_iconst (v := nI 1) hx hb d_Sig_hasAll_40 rfl ?_
          refine lv_goto (tgt := 45) hx hb d_Sig_hasAll_41 (by decide) ?_
          exact W.zret (v := nI 1) (ty := .boolean) hx hb hr (k_narZ (by omega)) (fun t ht hW => ⟨⟨nI 1, (), rfl, (by first | rw [if_pos hq] | rw [if_neg hq]), by rw [ht]; exact hP, va_K.moved hW.alike hK, hD⟩, hS.F ht⟩) hS.2.2 d_Sig_hasAll_45
        · skip
          have c28 : ¬ (np < 3) := fun h => c28 ((nI_ltI (by omega) (by omega)).mpr h)
          refine lv_aload_n hx hb d_Sig_hasAll_31 rfl (lv_at hl 0 rfl) ?_
          refine lv_iload hx hb d_Sig_hasAll_32 (lv_at hl 4 rfl) ?_
          refine k_i (wr := []) (w2 := fun (u : Unit) => [(a_sig, .inr (1, [.ref a_kind, .ref a_width, .ref a_rword, .ref a_sop, .ref a_sa, .ref a_sb, .ref a_sc, .int (nI n)]))]) (va_runV (As := [.int z]) (rest := []) ⟨hx, hb, hml, hown, hts⟩ (c_Sig_has l dC dI cI cZ a_sig a_kind a_width a_rword a_sop a_sa a_sb a_sc tt H.size n z (by omega)) (cwV 1 hts (gd_V in_tl (mw 291 rfl rfl) (mw 292 rfl rfl) (mw 293 rfl rfl) (mw 42 rfl rfl) (mw 294 rfl rfl)) rfl rfl rfl (by decide +kernel) ⟨Nat.le_of_ble_eq_true rfl, Nat.le_of_ble_eq_true rfl⟩) (k_preV hK hP hD hS hA hE [0] (by decide) rfl 1 0 rfl rfl) rfl rfl hl.1 rfl (lv_room (Nat.le_of_ble_eq_true rfl)) d_Sig_hasAll_34 ⟨Nat.zero_le _, Nat.zero_le _⟩) hP hD hS hA [0] [] [0] rfl rfl (by decide) (by decide) (by decide) (fun _ => rfl) (fun r_5 u H locs hw hP hD hS => ?_)
          obtain rfl : (r_5 = nI (hs n z)) := hw
          have hP : va_P (dC, dI) classes [(a_sig, .inr (1, [.ref a_kind, .ref a_width, .ref a_rword, .ref a_sop, .ref a_sa, .ref a_sb, .ref a_sc, .int (nI n)]))] H := hP
          have hD : va_D A [(a_sig, .inr (1, [.ref a_kind, .ref a_width, .ref a_rword, .ref a_sop, .ref a_sa, .ref a_sb, .ref a_sc, .int (nI n)]))] := hD
          have hz1 := hs_le n z
          refine lv_if_eq (tgt := 44) hx hb d_Sig_hasAll_37 (by decide) (fun c37 => ?_) (fun c37 => ?_)
          · skip
            have c37 : (hs n z) = 0 := (nI_eq0 (by omega)).mp c37
            have hq : ¬ ((np < 1 ∨ hs n x = 1) ∧ (np < 2 ∨ hs n y = 1) ∧ (np < 3 ∨ hs n z = 1)) := by omega
            refine lv_iconst (v := nI 0) hx hb d_Sig_hasAll_44 rfl ?_
            exact W.zret (v := nI 0) (ty := .boolean) hx hb hr (k_narZ (by omega)) (fun t ht hW => ⟨⟨nI 0, (), rfl, (by first | rw [if_pos hq] | rw [if_neg hq]), by rw [ht]; exact hP, va_K.moved hW.alike hK, hD⟩, hS.F ht⟩) hS.2.2 d_Sig_hasAll_45
          · skip
            have c37 : ¬ ((hs n z) = 0) := fun h => c37 ((nI_eq0 (by omega)).mpr h)
            have hq : (np < 1 ∨ hs n x = 1) ∧ (np < 2 ∨ hs n y = 1) ∧ (np < 3 ∨ hs n z = 1) := by omega
            refine lv_iconst (v := nI 1) hx hb d_Sig_hasAll_40 rfl ?_
            refine lv_goto (tgt := 45) hx hb d_Sig_hasAll_41 (by decide) ?_
            exact W.zret (v := nI 1) (ty := .boolean) hx hb hr (k_narZ (by omega)) (fun t ht hW => ⟨⟨nI 1, (), rfl, (by first | rw [if_pos hq] | rw [if_neg hq]), by rw [ht]; exact hP, va_K.moved hW.alike hK, hD⟩, hS.F ht⟩) hS.2.2 d_Sig_hasAll_45
      · skip
        have c15 : ¬ (np < 2) := fun h => c15 ((nI_ltI (by omega) (by omega)).mpr h)
        refine lv_aload_n hx hb d_Sig_hasAll_18 rfl (lv_at hl 0 rfl) ?_
        refine lv_iload_n hx hb d_Sig_hasAll_19 rfl (lv_at hl 3 rfl) ?_
        refine k_i (wr := []) (w2 := fun (u : Unit) => [(a_sig, .inr (1, [.ref a_kind, .ref a_width, .ref a_rword, .ref a_sop, .ref a_sa, .ref a_sb, .ref a_sc, .int (nI n)]))]) (va_runV (As := [.int y]) (rest := []) ⟨hx, hb, hml, hown, hts⟩ (c_Sig_has l dC dI cI cZ a_sig a_kind a_width a_rword a_sop a_sa a_sb a_sc tt H.size n y (by omega)) (cwV 1 hts (gd_V in_tl (mw 291 rfl rfl) (mw 292 rfl rfl) (mw 293 rfl rfl) (mw 42 rfl rfl) (mw 294 rfl rfl)) rfl rfl rfl (by decide +kernel) ⟨Nat.le_of_ble_eq_true rfl, Nat.le_of_ble_eq_true rfl⟩) (k_preV hK hP hD hS hA hE [0] (by decide) rfl 1 0 rfl rfl) rfl rfl hl.1 rfl (lv_room (Nat.le_of_ble_eq_true rfl)) d_Sig_hasAll_20 ⟨Nat.zero_le _, Nat.zero_le _⟩) hP hD hS hA [0] [] [0] rfl rfl (by decide) (by decide) (by decide) (fun _ => rfl) (fun r_6 u H locs hw hP hD hS => ?_)
        obtain rfl : (r_6 = nI (hs n y)) := hw
        have hP : va_P (dC, dI) classes [(a_sig, .inr (1, [.ref a_kind, .ref a_width, .ref a_rword, .ref a_sop, .ref a_sa, .ref a_sb, .ref a_sc, .int (nI n)]))] H := hP
        have hD : va_D A [(a_sig, .inr (1, [.ref a_kind, .ref a_width, .ref a_rword, .ref a_sop, .ref a_sa, .ref a_sb, .ref a_sc, .int (nI n)]))] := hD
        have hy1 := hs_le n y
        refine lv_if_eq (tgt := 44) hx hb d_Sig_hasAll_23 (by decide) (fun c23 => ?_) (fun c23 => ?_)
        · skip
          have c23 : (hs n y) = 0 := (nI_eq0 (by omega)).mp c23
          have hq : ¬ ((np < 1 ∨ hs n x = 1) ∧ (np < 2 ∨ hs n y = 1) ∧ (np < 3 ∨ hs n z = 1)) := by omega
          refine lv_iconst (v := nI 0) hx hb d_Sig_hasAll_44 rfl ?_
          exact W.zret (v := nI 0) (ty := .boolean) hx hb hr (k_narZ (by omega)) (fun t ht hW => ⟨⟨nI 0, (), rfl, (by first | rw [if_pos hq] | rw [if_neg hq]), by rw [ht]; exact hP, va_K.moved hW.alike hK, hD⟩, hS.F ht⟩) hS.2.2 d_Sig_hasAll_45
        · skip
          have c23 : ¬ ((hs n y) = 0) := fun h => c23 ((nI_eq0 (by omega)).mpr h)
          refine lv_iload_n hx hb d_Sig_hasAll_26 rfl (lv_at hl 1 rfl) ?_
          refine lv_iconst (v := nI 3) hx hb d_Sig_hasAll_27 rfl ?_
          refine lv_icmp_lt (tgt := 40) hx hb d_Sig_hasAll_28 (by decide) (fun c28 => ?_) (fun c28 => ?_)
          · skip
            have c28 : np < 3 := (nI_ltI (by omega) (by omega)).mp c28
            have hq : (np < 1 ∨ hs n x = 1) ∧ (np < 2 ∨ hs n y = 1) ∧ (np < 3 ∨ hs n z = 1) := by omega
            refine lv_iconst (v := nI 1) hx hb d_Sig_hasAll_40 rfl ?_
            refine lv_goto (tgt := 45) hx hb d_Sig_hasAll_41 (by decide) ?_
            exact W.zret (v := nI 1) (ty := .boolean) hx hb hr (k_narZ (by omega)) (fun t ht hW => ⟨⟨nI 1, (), rfl, (by first | rw [if_pos hq] | rw [if_neg hq]), by rw [ht]; exact hP, va_K.moved hW.alike hK, hD⟩, hS.F ht⟩) hS.2.2 d_Sig_hasAll_45
          · skip
            have c28 : ¬ (np < 3) := fun h => c28 ((nI_ltI (by omega) (by omega)).mpr h)
            refine lv_aload_n hx hb d_Sig_hasAll_31 rfl (lv_at hl 0 rfl) ?_
            refine lv_iload hx hb d_Sig_hasAll_32 (lv_at hl 4 rfl) ?_
            refine k_i (wr := []) (w2 := fun (u : Unit) => [(a_sig, .inr (1, [.ref a_kind, .ref a_width, .ref a_rword, .ref a_sop, .ref a_sa, .ref a_sb, .ref a_sc, .int (nI n)]))]) (va_runV (As := [.int z]) (rest := []) ⟨hx, hb, hml, hown, hts⟩ (c_Sig_has l dC dI cI cZ a_sig a_kind a_width a_rword a_sop a_sa a_sb a_sc tt H.size n z (by omega)) (cwV 1 hts (gd_V in_tl (mw 291 rfl rfl) (mw 292 rfl rfl) (mw 293 rfl rfl) (mw 42 rfl rfl) (mw 294 rfl rfl)) rfl rfl rfl (by decide +kernel) ⟨Nat.le_of_ble_eq_true rfl, Nat.le_of_ble_eq_true rfl⟩) (k_preV hK hP hD hS hA hE [0] (by decide) rfl 1 0 rfl rfl) rfl rfl hl.1 rfl (lv_room (Nat.le_of_ble_eq_true rfl)) d_Sig_hasAll_34 ⟨Nat.zero_le _, Nat.zero_le _⟩) hP hD hS hA [0] [] [0] rfl rfl (by decide) (by decide) (by decide) (fun _ => rfl) (fun r_7 u H locs hw hP hD hS => ?_)
            obtain rfl : (r_7 = nI (hs n z)) := hw
            have hP : va_P (dC, dI) classes [(a_sig, .inr (1, [.ref a_kind, .ref a_width, .ref a_rword, .ref a_sop, .ref a_sa, .ref a_sb, .ref a_sc, .int (nI n)]))] H := hP
            have hD : va_D A [(a_sig, .inr (1, [.ref a_kind, .ref a_width, .ref a_rword, .ref a_sop, .ref a_sa, .ref a_sb, .ref a_sc, .int (nI n)]))] := hD
            have hz1 := hs_le n z
            refine lv_if_eq (tgt := 44) hx hb d_Sig_hasAll_37 (by decide) (fun c37 => ?_) (fun c37 => ?_)
            · skip
              have c37 : (hs n z) = 0 := (nI_eq0 (by omega)).mp c37
              have hq : ¬ ((np < 1 ∨ hs n x = 1) ∧ (np < 2 ∨ hs n y = 1) ∧ (np < 3 ∨ hs n z = 1)) := by omega
              refine lv_iconst (v := nI 0) hx hb d_Sig_hasAll_44 rfl ?_
              exact W.zret (v := nI 0) (ty := .boolean) hx hb hr (k_narZ (by omega)) (fun t ht hW => ⟨⟨nI 0, (), rfl, (by first | rw [if_pos hq] | rw [if_neg hq]), by rw [ht]; exact hP, va_K.moved hW.alike hK, hD⟩, hS.F ht⟩) hS.2.2 d_Sig_hasAll_45
            · skip
              have c37 : ¬ ((hs n z) = 0) := fun h => c37 ((nI_eq0 (by omega)).mpr h)
              have hq : (np < 1 ∨ hs n x = 1) ∧ (np < 2 ∨ hs n y = 1) ∧ (np < 3 ∨ hs n z = 1) := by omega
              refine lv_iconst (v := nI 1) hx hb d_Sig_hasAll_40 rfl ?_
              refine lv_goto (tgt := 45) hx hb d_Sig_hasAll_41 (by decide) ?_
              exact W.zret (v := nI 1) (ty := .boolean) hx hb hr (k_narZ (by omega)) (fun t ht hW => ⟨⟨nI 1, (), rfl, (by first | rw [if_pos hq] | rw [if_neg hq]), by rw [ht]; exact hP, va_K.moved hW.alike hK, hD⟩, hS.F ht⟩) hS.2.2 d_Sig_hasAll_45
set_option maxHeartbeats 4000000 in
set_option maxRecDepth 100000 in
theorem c_Sig_isSink (l : Launch) (dC : Nat → ClassId) (dI : Nat → Nat → Nat) (cI cZ : ClassId) (a_sig a_kind a_width a_rword a_sop a_sa a_sb a_sc : Nat) (tt sz : Nat) (n : Nat) (Kd : Nat → Nat) (x : Int32) (b_n : n ≤ 14) (b_Kd : ∀ j, Kd j < 4) : Met l y_Sig_isSink w_Sig_isSink ({ frames := 1, cells := 0, slots := 0, locals := 21 }) (va_Pc [.ref a_sig, .int x] (PW (dC, dI) classes [(cI, .int), (cZ, .boolean)] tt [(a_sig, .inr (1, [.ref a_kind, .ref a_width, .ref a_rword, .ref a_sop, .ref a_sa, .ref a_sb, .ref a_sc, .int (nI n)])), (a_kind, .inl (cI, 14, .inl (nF Kd)))] sz)) (va_Qi (fun (r : Int32) (u : Unit) => (r = nI (if hs n x = 1 ∧ (Kd (ix x) = 1 ∨ Kd (ix x) = 2) then 1 else 0))) (AT (dC, dI) classes [(cI, .int), (cZ, .boolean)] (va_A [(a_sig, .inr (1, [.ref a_kind, .ref a_width, .ref a_rword, .ref a_sop, .ref a_sa, .ref a_sb, .ref a_sc, .int (nI n)])), (a_kind, .inl (cI, 14, .inl (nF Kd)))] sz) (fun (u : Unit) => [(a_sig, .inr (1, [.ref a_kind, .ref a_width, .ref a_rword, .ref a_sop, .ref a_sa, .ref a_sb, .ref a_sc, .int (nI n)])), (a_kind, .inl (cI, 14, .inl (nF Kd)))])) (va_A [(a_sig, .inr (1, [.ref a_kind, .ref a_width, .ref a_rword, .ref a_sop, .ref a_sa, .ref a_sb, .ref a_sc, .int (nI n)])), (a_kind, .inl (cI, 14, .inl (nF Kd)))] sz)) 0 0 (va_A [(a_sig, .inr (1, [.ref a_kind, .ref a_width, .ref a_rword, .ref a_sop, .ref a_sa, .ref a_sb, .ref a_sc, .int (nI n)])), (a_kind, .inl (cI, 14, .inl (nF Kd)))] sz) := by
  refine Met.ofW (cc := b_Sig_isSink) (maxL := 2) (ret := (some .boolean)) (by decide) rfl ?_
  intro p e s m args below meth c s₁ B hml hv
  obtain ⟨rfl, hsz, hP, hK, hD0, hE⟩ := hv
  have hx := B.exec
  have hb := B.bytes
  have hr := B.returns
  have hts := atoms_spec (ws := w_Sig_isSink) B.pre
  have hown : s.vm.findClass R_Sig = some m.cls := findClass_of_methodNamed B.named
  have hlocks := B.notSynchronized
  subst hsz
  have hD := hD0.self (sz := s.heap.size)
  generalize hAe : va_A [(a_sig, .inr (1, [.ref a_kind, .ref a_width, .ref a_rword, .ref a_sop, .ref a_sa, .ref a_sb, .ref a_sc, .int (nI n)])), (a_kind, .inl (cI, 14, .inl (nF Kd)))] s.heap.size = A at hD hE ⊢
  have hA : ∀ q : Nat, s.heap.size ≤ q → A q := fun q h => by rw [← hAe]; exact Or.inr h
  have hS : va_S A s.heap s.heap [] := va_S.rf
  have hP : va_P (dC, dI) classes [(a_sig, .inr (1, [.ref a_kind, .ref a_width, .ref a_rword, .ref a_sop, .ref a_sa, .ref a_sb, .ref a_sc, .int (nI n)])), (a_kind, .inl (cI, 14, .inl (nF Kd)))] s.heap := hP
  have hl := lv_entry ([.ref a_sig, .int x]) (n := 2) (Nat.le_of_ble_eq_true rfl)
  rw [lg_entry_eq]
  generalize (lg_sl ([.ref a_sig, .int x]) ++ List.replicate (2 - (lg_sl ([.ref a_sig, .int x])).length) Slot.unset).toArray = ls at hl ⊢
  have hl : lv_has ls 2 [(0, .ref a_sig), (1, .int x)] := hl
  refine lv_aload_n hx hb d_Sig_isSink_0 rfl (lv_at hl 0 rfl) ?_
  refine lv_iload_n hx hb d_Sig_isSink_1 rfl (lv_at hl 1 rfl) ?_
  refine k_i (wr := [(a_kind, .inl (cI, 14, .inl (nF Kd)))]) (w2 := fun (u : Unit) => [(a_sig, .inr (1, [.ref a_kind, .ref a_width, .ref a_rword, .ref a_sop, .ref a_sa, .ref a_sb, .ref a_sc, .int (nI n)])), (a_kind, .inl (cI, 14, .inl (nF Kd)))]) (va_runV (As := [.int x]) (rest := []) ⟨hx, hb, hml, hown, hts⟩ (c_Sig_has l dC dI cI cZ a_sig a_kind a_width a_rword a_sop a_sa a_sb a_sc tt s.heap.size n x (by omega)) (cwV 1 hts (gd_V in_tl (mw 291 rfl rfl) (mw 292 rfl rfl) (mw 293 rfl rfl) (mw 42 rfl rfl) (mw 294 rfl rfl)) rfl rfl rfl (by decide +kernel) ⟨Nat.le_of_ble_eq_true rfl, Nat.le_of_ble_eq_true rfl⟩) (k_preV hK hP hD hS hA hE [0] (by decide) rfl 1 0 rfl rfl) rfl rfl hl.1 rfl (lv_room (Nat.le_of_ble_eq_true rfl)) d_Sig_isSink_2 ⟨Nat.zero_le _, Nat.zero_le _⟩) hP hD hS hA [0] [1] [1, 0] rfl rfl (by decide) (by decide) (by decide) (fun _ => rfl) (fun r_1 u H locs hw hP hD hS => ?_)
  obtain rfl : (r_1 = nI (hs n x)) := hw
  have hP : va_P (dC, dI) classes [(a_sig, .inr (1, [.ref a_kind, .ref a_width, .ref a_rword, .ref a_sop, .ref a_sa, .ref a_sb, .ref a_sc, .int (nI n)])), (a_kind, .inl (cI, 14, .inl (nF Kd)))] H := hP
  have hD : va_D A [(a_sig, .inr (1, [.ref a_kind, .ref a_width, .ref a_rword, .ref a_sop, .ref a_sa, .ref a_sb, .ref a_sc, .int (nI n)])), (a_kind, .inl (cI, 14, .inl (nF Kd)))] := hD
  have hx1 := hs_le n x
  refine lv_if_eq (tgt := 32) hx hb d_Sig_isSink_5 (by decide) (fun c5 => ?_) (fun c5 => ?_)
  · skip
    have c5 : (hs n x) = 0 := (nI_eq0 (by omega)).mp c5
    refine lv_iconst (v := nI 0) hx hb d_Sig_isSink_32 rfl ?_
    exact W.zret (v := nI 0) (ty := .boolean) hx hb hr (k_narZ (by omega)) (fun t ht hW => ⟨⟨nI 0, (), rfl, (by rw [if_neg (by omega)]), by rw [ht]; exact hP, va_K.moved hW.alike hK, hD⟩, hS.F ht⟩) hS.2.2 d_Sig_isSink_33
  · skip
    have c5 : ¬ ((hs n x) = 0) := fun h => c5 ((nI_eq0 (by omega)).mpr h)
    obtain ⟨X, rfl, hXn, hXb⟩ := hs_of c5
    refine lv_aload_n hx hb d_Sig_isSink_8 rfl (lv_at hl 0 rfl) ?_
    refine va_get (D := (dC, dI)) (ci := 1) (v := .ref a_kind) (C := R_Sig) (T := F_Sig) (N := 8) hx hb hts (wi i_Sig) hown hK hP 0 rfl rfl 0 (by decide) (hts _ (mt 65 rfl rfl)) (fun _ h9 => h9) rfl d_Sig_isSink_9 ?_
    refine lv_iload_n hx hb d_Sig_isSink_12 rfl (lv_at hl 1 rfl) ?_
    refine k_ild hx hb hK hP 1 0 rfl rfl (by omega) (by decide) d_Sig_isSink_13 ?_
    have hb_2 := b_Kd X
    refine lv_iconst (v := nI 1) hx hb d_Sig_isSink_14 rfl ?_
    refine lv_icmp_eq (tgt := 28) hx hb d_Sig_isSink_15 (by decide) (fun c15 => ?_) (fun c15 => ?_)
    · skip
      have c15 : (Kd X) = 1 := (nI_eq (by omega) (by omega)).mp c15
      refine lv_iconst (v := nI 1) hx hb d_Sig_isSink_28 rfl ?_
      refine lv_goto (tgt := 33) hx hb d_Sig_isSink_29 (by decide) ?_
      exact W.zret (v := nI 1) (ty := .boolean) hx hb hr (k_narZ (by omega)) (fun t ht hW => ⟨⟨nI 1, (), rfl, (by rw [ix_nI hXb, if_pos (by omega)]), by rw [ht]; exact hP, va_K.moved hW.alike hK, hD⟩, hS.F ht⟩) hS.2.2 d_Sig_isSink_33
    · skip
      have c15 : ¬ ((Kd X) = 1) := fun h => c15 ((nI_eq (by omega) (by omega)).mpr h)
      refine lv_aload_n hx hb d_Sig_isSink_18 rfl (lv_at hl 0 rfl) ?_
      refine va_get (D := (dC, dI)) (ci := 1) (v := .ref a_kind) (C := R_Sig) (T := F_Sig) (N := 8) hx hb hts (wi i_Sig) hown hK hP 0 rfl rfl 0 (by decide) (hts _ (mt 65 rfl rfl)) (fun _ h9 => h9) rfl d_Sig_isSink_19 ?_
      refine lv_iload_n hx hb d_Sig_isSink_22 rfl (lv_at hl 1 rfl) ?_
      refine k_ild hx hb hK hP 1 0 rfl rfl (by omega) (by decide) d_Sig_isSink_23 ?_
      have hb_3 := b_Kd X
      refine lv_iconst (v := nI 2) hx hb d_Sig_isSink_24 rfl ?_
      refine lv_icmp_ne (tgt := 32) hx hb d_Sig_isSink_25 (by decide) (fun c25 => ?_) (fun c25 => ?_)
      · skip
        have c25 : ¬ ((Kd X) = 2) := fun h => c25 ((nI_eq (by omega) (by omega)).mpr h)
        refine lv_iconst (v := nI 0) hx hb d_Sig_isSink_32 rfl ?_
        exact W.zret (v := nI 0) (ty := .boolean) hx hb hr (k_narZ (by omega)) (fun t ht hW => ⟨⟨nI 0, (), rfl, (by rw [ix_nI hXb, if_neg (by omega)]), by rw [ht]; exact hP, va_K.moved hW.alike hK, hD⟩, hS.F ht⟩) hS.2.2 d_Sig_isSink_33
      · skip
        have c25 : (Kd X) = 2 := (nI_eq (by omega) (by omega)).mp c25
        refine lv_iconst (v := nI 1) hx hb d_Sig_isSink_28 rfl ?_
        refine lv_goto (tgt := 33) hx hb d_Sig_isSink_29 (by decide) ?_
        exact W.zret (v := nI 1) (ty := .boolean) hx hb hr (k_narZ (by omega)) (fun t ht hW => ⟨⟨nI 1, (), rfl, (by rw [ix_nI hXb, if_pos (by omega)]), by rw [ht]; exact hP, va_K.moved hW.alike hK, hD⟩, hS.F ht⟩) hS.2.2 d_Sig_isSink_33
set_option maxHeartbeats 4000000 in
set_option maxRecDepth 100000 in
theorem c_Sig_addPlain (l : Launch) (dC : Nat → ClassId) (dI : Nat → Nat → Nat) (cI cZ : ClassId) (a_sig a_kind a_width a_rword a_sop a_sa a_sb a_sc : Nat) (tt sz : Nat) (n : Nat) (Kd : Nat → Nat) (Wd : Nat → Nat) (Rw : Nat → Nat) (k0 : Nat) (w0 : Nat) (r0 : Int32) (b_n : n ≤ 14) (b_Kd : ∀ j, Kd j < 4) (b_Wd : ∀ j, Wd j < 9) (b_Rw : ∀ j, Rw j < 256) (hn : n < 14) (hk : k0 < 4) (hw : w0 ≤ 8) : Met l y_Sig_addPlain w_Sig_addPlain ({ frames := 1, cells := 0, slots := 0, locals := 20 }) (va_Pc [.ref a_sig, .int (nI k0), .int (nI w0), .int r0] (PW (dC, dI) classes [(cI, .int), (cZ, .boolean)] tt [(a_sig, .inr (1, [.ref a_kind, .ref a_width, .ref a_rword, .ref a_sop, .ref a_sa, .ref a_sb, .ref a_sc, .int (nI n)])), (a_kind, .inl (cI, 14, .inl (nF Kd))), (a_width, .inl (cI, 14, .inl (nF Wd))), (a_rword, .inl (cI, 14, .inl (nF Rw)))] sz)) (va_Qi (fun (r : Int32) (u : Unit) => (r = nI n)) (AT (dC, dI) classes [(cI, .int), (cZ, .boolean)] (va_A [(a_sig, .inr (1, [.ref a_kind, .ref a_width, .ref a_rword, .ref a_sop, .ref a_sa, .ref a_sb, .ref a_sc, .int (nI n)])), (a_kind, .inl (cI, 14, .inl (nF Kd))), (a_width, .inl (cI, 14, .inl (nF Wd))), (a_rword, .inl (cI, 14, .inl (nF Rw)))] sz) (fun (u : Unit) => [(a_sig, .inr (1, [.ref a_kind, .ref a_width, .ref a_rword, .ref a_sop, .ref a_sa, .ref a_sb, .ref a_sc, .int (nI (n + 1))])), (a_kind, .inl (cI, 14, .inl (nF (upN Kd n k0)))), (a_width, .inl (cI, 14, .inl (nF (upN Wd n w0)))), (a_rword, .inl (cI, 14, .inl (nF (upN Rw n (lowb r0 w0)))))])) (va_A [(a_sig, .inr (1, [.ref a_kind, .ref a_width, .ref a_rword, .ref a_sop, .ref a_sa, .ref a_sb, .ref a_sc, .int (nI n)])), (a_kind, .inl (cI, 14, .inl (nF Kd))), (a_width, .inl (cI, 14, .inl (nF Wd))), (a_rword, .inl (cI, 14, .inl (nF Rw)))] sz)) 0 0 (va_A [(a_sig, .inr (1, [.ref a_kind, .ref a_width, .ref a_rword, .ref a_sop, .ref a_sa, .ref a_sb, .ref a_sc, .int (nI n)])), (a_kind, .inl (cI, 14, .inl (nF Kd))), (a_width, .inl (cI, 14, .inl (nF Wd))), (a_rword, .inl (cI, 14, .inl (nF Rw)))] sz) := by
  refine Met.ofW (cc := b_Sig_addPlain) (maxL := 5) (ret := (some .int)) (by decide) rfl ?_
  intro p e s m args below meth c s₁ B hml hv
  obtain ⟨rfl, hsz, hP, hK, hD0, hE⟩ := hv
  have hx := B.exec
  have hb := B.bytes
  have hr := B.returns
  have hts := atoms_spec (ws := w_Sig_addPlain) B.pre
  have hown : s.vm.findClass R_Sig = some m.cls := findClass_of_methodNamed B.named
  have hlocks := B.notSynchronized
  subst hsz
  have hD := hD0.self (sz := s.heap.size)
  generalize hAe : va_A [(a_sig, .inr (1, [.ref a_kind, .ref a_width, .ref a_rword, .ref a_sop, .ref a_sa, .ref a_sb, .ref a_sc, .int (nI n)])), (a_kind, .inl (cI, 14, .inl (nF Kd))), (a_width, .inl (cI, 14, .inl (nF Wd))), (a_rword, .inl (cI, 14, .inl (nF Rw)))] s.heap.size = A at hD hE ⊢
  have hA : ∀ q : Nat, s.heap.size ≤ q → A q := fun q h => by rw [← hAe]; exact Or.inr h
  have hS : va_S A s.heap s.heap [] := va_S.rf
  have hP : va_P (dC, dI) classes [(a_sig, .inr (1, [.ref a_kind, .ref a_width, .ref a_rword, .ref a_sop, .ref a_sa, .ref a_sb, .ref a_sc, .int (nI n)])), (a_kind, .inl (cI, 14, .inl (nF Kd))), (a_width, .inl (cI, 14, .inl (nF Wd))), (a_rword, .inl (cI, 14, .inl (nF Rw)))] s.heap := hP
  have hl := lv_entry ([.ref a_sig, .int (nI k0), .int (nI w0), .int r0]) (n := 5) (Nat.le_of_ble_eq_true rfl)
  rw [lg_entry_eq]
  generalize (lg_sl ([.ref a_sig, .int (nI k0), .int (nI w0), .int r0]) ++ List.replicate (5 - (lg_sl ([.ref a_sig, .int (nI k0), .int (nI w0), .int r0])).length) Slot.unset).toArray = ls at hl ⊢
  have hl : lv_has ls 5 [(0, .ref a_sig), (1, .int (nI k0)), (2, .int (nI w0)), (3, .int r0)] := hl
  refine lv_aload_n hx hb d_Sig_addPlain_0 rfl (lv_at hl 0 rfl) ?_
  refine va_get (D := (dC, dI)) (ci := 1) (v := .int (nI n)) (C := R_Sig) (T := F_Sig) (N := 8) hx hb hts (wi i_Sig) hown hK hP 0 rfl rfl 7 (by decide) (hts _ (mt 83 rfl rfl)) (fun _ h9 => h9) rfl d_Sig_addPlain_1 ?_
  refine lv_istore (lv' := [(4, .int (nI n)), (0, .ref a_sig), (1, .int (nI k0)), (2, .int (nI w0)), (3, .int r0)]) hx hb d_Sig_addPlain_4 hl (by decide) rfl (fun ls hl => ?_)
  refine lv_aload_n hx hb d_Sig_addPlain_6 rfl (lv_at hl 1 rfl) ?_
  refine va_get (D := (dC, dI)) (ci := 1) (v := .ref a_kind) (C := R_Sig) (T := F_Sig) (N := 8) hx hb hts (wi i_Sig) hown hK hP 0 rfl rfl 0 (by decide) (hts _ (mt 65 rfl rfl)) (fun _ h9 => h9) rfl d_Sig_addPlain_7 ?_
  refine lv_iload hx hb d_Sig_addPlain_10 (lv_at hl 0 rfl) ?_
  refine lv_iload_n hx hb d_Sig_addPlain_12 rfl (lv_at hl 2 rfl) ?_
  refine k_ist hx hb hK hP hD hS 1 0 rfl rfl (by omega) (by decide) d_Sig_addPlain_13 (fun H locs hP hD hS => ?_)
  have bb_1 : ∀ j, upN Kd n k0 j < 4 := upN_lt b_Kd (by omega)
  have hP : va_P (dC, dI) classes [(a_sig, .inr (1, [.ref a_kind, .ref a_width, .ref a_rword, .ref a_sop, .ref a_sa, .ref a_sb, .ref a_sc, .int (nI n)])), (a_kind, .inl (cI, 14, .inl (nF (upN Kd n k0)))), (a_width, .inl (cI, 14, .inl (nF Wd))), (a_rword, .inl (cI, 14, .inl (nF Rw)))] H := hP
  have hD : va_D A [(a_sig, .inr (1, [.ref a_kind, .ref a_width, .ref a_rword, .ref a_sop, .ref a_sa, .ref a_sb, .ref a_sc, .int (nI n)])), (a_kind, .inl (cI, 14, .inl (nF (upN Kd n k0)))), (a_width, .inl (cI, 14, .inl (nF Wd))), (a_rword, .inl (cI, 14, .inl (nF Rw)))] := hD
  refine lv_aload_n hx hb d_Sig_addPlain_14 rfl (lv_at hl 1 rfl) ?_
  refine va_get (D := (dC, dI)) (ci := 1) (v := .ref a_width) (C := R_Sig) (T := F_Sig) (N := 8) hx hb hts (wi i_Sig) hown hK hP 0 rfl rfl 1 (by decide) (hts _ (mt 69 rfl rfl)) (fun _ h9 => h9) rfl d_Sig_addPlain_15 ?_
  refine lv_iload hx hb d_Sig_addPlain_18 (lv_at hl 0 rfl) ?_
  refine lv_iload_n hx hb d_Sig_addPlain_20 rfl (lv_at hl 3 rfl) ?_
  refine k_ist hx hb hK hP hD hS 2 0 rfl rfl (by omega) (by decide) d_Sig_addPlain_21 (fun H locs hP hD hS => ?_)
  have bb_2 : ∀ j, upN Wd n w0 j < 9 := upN_lt b_Wd (by omega)
  have hP : va_P (dC, dI) classes [(a_sig, .inr (1, [.ref a_kind, .ref a_width, .ref a_rword, .ref a_sop, .ref a_sa, .ref a_sb, .ref a_sc, .int (nI n)])), (a_kind, .inl (cI, 14, .inl (nF (upN Kd n k0)))), (a_width, .inl (cI, 14, .inl (nF (upN Wd n w0)))), (a_rword, .inl (cI, 14, .inl (nF Rw)))] H := hP
  have hD : va_D A [(a_sig, .inr (1, [.ref a_kind, .ref a_width, .ref a_rword, .ref a_sop, .ref a_sa, .ref a_sb, .ref a_sc, .int (nI n)])), (a_kind, .inl (cI, 14, .inl (nF (upN Kd n k0)))), (a_width, .inl (cI, 14, .inl (nF (upN Wd n w0)))), (a_rword, .inl (cI, 14, .inl (nF Rw)))] := hD
  refine lv_aload_n hx hb d_Sig_addPlain_22 rfl (lv_at hl 1 rfl) ?_
  refine va_get (D := (dC, dI)) (ci := 1) (v := .ref a_rword) (C := R_Sig) (T := F_Sig) (N := 8) hx hb hts (wi i_Sig) hown hK hP 0 rfl rfl 2 (by decide) (hts _ (mt 72 rfl rfl)) (fun _ h9 => h9) rfl d_Sig_addPlain_23 ?_
  refine lv_iload hx hb d_Sig_addPlain_26 (lv_at hl 0 rfl) ?_
  refine lv_iload_n hx hb d_Sig_addPlain_28 rfl (lv_at hl 4 rfl) ?_
  refine lv_iload_n hx hb d_Sig_addPlain_29 rfl (lv_at hl 3 rfl) ?_
  refine k_i (wr := [(a_sig, .inr (1, [.ref a_kind, .ref a_width, .ref a_rword, .ref a_sop, .ref a_sa, .ref a_sb, .ref a_sc, .int (nI n)])), (a_kind, .inl (cI, 14, .inl (nF (upN Kd n k0)))), (a_width, .inl (cI, 14, .inl (nF (upN Wd n w0)))), (a_rword, .inl (cI, 14, .inl (nF Rw)))]) (w2 := fun (u : Unit) => [(a_sig, .inr (1, [.ref a_kind, .ref a_width, .ref a_rword, .ref a_sop, .ref a_sa, .ref a_sb, .ref a_sc, .int (nI n)])), (a_kind, .inl (cI, 14, .inl (nF (upN Kd n k0)))), (a_width, .inl (cI, 14, .inl (nF (upN Wd n w0)))), (a_rword, .inl (cI, 14, .inl (nF Rw)))]) (va_runSN (As := [.int (nI w0)]) (rest := [.int r0, .int (nI n), .ref a_rword]) ⟨hx, hb, hml, hown, hts⟩ (c_Desk_maskOf l dC dI cI cZ  tt H.size  w0 (by omega)) ⟨va_cnB (host := "CircuitDesk") 1 hts (gd_N in_tl (mw 280 rfl rfl)) rfl rfl rfl hE.1 (hts _ (mt 41 rfl rfl)) (by decide +kernel) ⟨Nat.le_of_ble_eq_true rfl, Nat.le_of_ble_eq_true rfl⟩, hts _ (mt 279 rfl rfl), trivial⟩ (k_preS hK hP hD hS hA hE [] (by decide) rfl) rfl rfl hl.1 rfl (lv_room (Nat.le_of_ble_eq_true rfl)) d_Sig_addPlain_30 ⟨Nat.zero_le _, Nat.zero_le _⟩) hP hD hS hA [] [0, 1, 2, 3] [0, 1, 2, 3] rfl rfl (by decide) (by decide) (by decide) (fun _ => rfl) (fun r_3 u H locs hw hP hD hS => ?_)
  obtain rfl : (r_3 = nI (2 ^ w0 - 1)) := hw
  have hP : va_P (dC, dI) classes [(a_sig, .inr (1, [.ref a_kind, .ref a_width, .ref a_rword, .ref a_sop, .ref a_sa, .ref a_sb, .ref a_sc, .int (nI n)])), (a_kind, .inl (cI, 14, .inl (nF (upN Kd n k0)))), (a_width, .inl (cI, 14, .inl (nF (upN Wd n w0)))), (a_rword, .inl (cI, 14, .inl (nF Rw)))] H := hP
  have hD : va_D A [(a_sig, .inr (1, [.ref a_kind, .ref a_width, .ref a_rword, .ref a_sop, .ref a_sa, .ref a_sb, .ref a_sc, .int (nI n)])), (a_kind, .inl (cI, 14, .inl (nF (upN Kd n k0)))), (a_width, .inl (cI, 14, .inl (nF (upN Wd n w0)))), (a_rword, .inl (cI, 14, .inl (nF Rw)))] := hD
  refine lv_iand hx hb d_Sig_addPlain_33 ?_
  refine k_top (show r0 &&& (nI (2 ^ w0 - 1)) = nI (lowb r0 w0) from (lowb_row r0 hw)) ?_
  refine k_ist hx hb hK hP hD hS 3 0 rfl rfl (by omega) (by decide) d_Sig_addPlain_34 (fun H locs hP hD hS => ?_)
  have bb_4 : ∀ j, upN Rw n (lowb r0 w0) j < 256 := upN_lt b_Rw (by have := lowb_lt r0 w0; have := pow8 hw; omega)
  have hP : va_P (dC, dI) classes [(a_sig, .inr (1, [.ref a_kind, .ref a_width, .ref a_rword, .ref a_sop, .ref a_sa, .ref a_sb, .ref a_sc, .int (nI n)])), (a_kind, .inl (cI, 14, .inl (nF (upN Kd n k0)))), (a_width, .inl (cI, 14, .inl (nF (upN Wd n w0)))), (a_rword, .inl (cI, 14, .inl (nF (upN Rw n (lowb r0 w0)))))] H := hP
  have hD : va_D A [(a_sig, .inr (1, [.ref a_kind, .ref a_width, .ref a_rword, .ref a_sop, .ref a_sa, .ref a_sb, .ref a_sc, .int (nI n)])), (a_kind, .inl (cI, 14, .inl (nF (upN Kd n k0)))), (a_width, .inl (cI, 14, .inl (nF (upN Wd n w0)))), (a_rword, .inl (cI, 14, .inl (nF (upN Rw n (lowb r0 w0)))))] := hD
  refine lv_aload_n hx hb d_Sig_addPlain_35 rfl (lv_at hl 1 rfl) ?_
  refine lv_dup hx hb d_Sig_addPlain_36 rfl ?_
  refine va_get (D := (dC, dI)) (ci := 1) (v := .int (nI n)) (C := R_Sig) (T := F_Sig) (N := 8) hx hb hts (wi i_Sig) hown hK hP 0 rfl rfl 7 (by decide) (hts _ (mt 83 rfl rfl)) (fun _ h9 => h9) rfl d_Sig_addPlain_37 ?_
  refine lv_iconst (v := nI 1) hx hb d_Sig_addPlain_40 rfl ?_
  refine lv_iadd hx hb d_Sig_addPlain_41 ?_
  refine k_top (nI_add _ _) ?_
  refine va_put (D := (dC, dI)) (ci := 1) (v := .int (nI (n + 1))) (ty := .int) (C := R_Sig) (T := F_Sig) (N := 8) hx hb hts (wi i_Sig) t_Sig t_Sig_ok n_Sig hown hK hP hD hS 0 rfl rfl 7 (by decide) (hts _ (mt 83 rfl rfl)) (fun _ h9 => h9) rfl (by decide +kernel) rfl rfl (Nat.le_of_ble_eq_true rfl) d_Sig_addPlain_42 (fun H locs hP hD hS => ?_)
  have hP : va_P (dC, dI) classes [(a_sig, .inr (1, [.ref a_kind, .ref a_width, .ref a_rword, .ref a_sop, .ref a_sa, .ref a_sb, .ref a_sc, .int (nI (n + 1))])), (a_kind, .inl (cI, 14, .inl (nF (upN Kd n k0)))), (a_width, .inl (cI, 14, .inl (nF (upN Wd n w0)))), (a_rword, .inl (cI, 14, .inl (nF (upN Rw n (lowb r0 w0)))))] H := hP
  have hD : va_D A [(a_sig, .inr (1, [.ref a_kind, .ref a_width, .ref a_rword, .ref a_sop, .ref a_sa, .ref a_sb, .ref a_sc, .int (nI (n + 1))])), (a_kind, .inl (cI, 14, .inl (nF (upN Kd n k0)))), (a_width, .inl (cI, 14, .inl (nF (upN Wd n w0)))), (a_rword, .inl (cI, 14, .inl (nF (upN Rw n (lowb r0 w0)))))] := hD
  refine lv_iload hx hb d_Sig_addPlain_45 (lv_at hl 0 rfl) ?_
  exact W.iret (v := nI n) hx hb hr (fun t ht hW => ⟨⟨nI n, (), rfl, rfl, by rw [ht]; exact hP, va_K.moved hW.alike hK, hD⟩, hS.F ht⟩) hS.2.2 d_Sig_addPlain_47
set_option maxHeartbeats 4000000 in
set_option maxRecDepth 100000 in
theorem c_Sig_describeNode (l : Launch) (dC : Nat → ClassId) (dI : Nat → Nat → Nat) (cI cZ : ClassId) (a_sig a_kind a_width a_rword a_sop a_sa a_sb a_sc : Nat) (tt sz : Nat) (n : Nat) (Op : Nat → Nat) (Aa : Nat → Int32) (Ab : Nat → Int32) (Ac : Nat → Int32) (S : Nat) (o : Nat) (x : Int32) (y : Int32) (z : Int32) (b_n : n ≤ 14) (b_Op : ∀ j, Op j < 12) (hS14 : S < 14) (ho : o < 12) : Met l y_Sig_describeNode w_Sig_describeNode ({ frames := 0, cells := 0, slots := 0, locals := 0 }) (va_Pc [.ref a_sig, .int (nI S), .int (nI o), .int x, .int y, .int z] (PW (dC, dI) classes [(cI, .int), (cZ, .boolean)] tt [(a_sig, .inr (1, [.ref a_kind, .ref a_width, .ref a_rword, .ref a_sop, .ref a_sa, .ref a_sb, .ref a_sc, .int (nI n)])), (a_sop, .inl (cI, 14, .inl (nF Op))), (a_sa, .inl (cI, 14, .inl Aa)), (a_sb, .inl (cI, 14, .inl Ab)), (a_sc, .inl (cI, 14, .inl Ac))] sz)) (va_Qv (fun (u : Unit) => True) (AT (dC, dI) classes [(cI, .int), (cZ, .boolean)] (va_A [(a_sig, .inr (1, [.ref a_kind, .ref a_width, .ref a_rword, .ref a_sop, .ref a_sa, .ref a_sb, .ref a_sc, .int (nI n)])), (a_sop, .inl (cI, 14, .inl (nF Op))), (a_sa, .inl (cI, 14, .inl Aa)), (a_sb, .inl (cI, 14, .inl Ab)), (a_sc, .inl (cI, 14, .inl Ac))] sz) (fun (u : Unit) => [(a_sig, .inr (1, [.ref a_kind, .ref a_width, .ref a_rword, .ref a_sop, .ref a_sa, .ref a_sb, .ref a_sc, .int (nI n)])), (a_sop, .inl (cI, 14, .inl (nF (upN Op S o)))), (a_sa, .inl (cI, 14, .inl (upd Aa S x))), (a_sb, .inl (cI, 14, .inl (upd Ab S y))), (a_sc, .inl (cI, 14, .inl (upd Ac S z)))])) (va_A [(a_sig, .inr (1, [.ref a_kind, .ref a_width, .ref a_rword, .ref a_sop, .ref a_sa, .ref a_sb, .ref a_sc, .int (nI n)])), (a_sop, .inl (cI, 14, .inl (nF Op))), (a_sa, .inl (cI, 14, .inl Aa)), (a_sb, .inl (cI, 14, .inl Ab)), (a_sc, .inl (cI, 14, .inl Ac))] sz)) 0 0 (va_A [(a_sig, .inr (1, [.ref a_kind, .ref a_width, .ref a_rword, .ref a_sop, .ref a_sa, .ref a_sb, .ref a_sc, .int (nI n)])), (a_sop, .inl (cI, 14, .inl (nF Op))), (a_sa, .inl (cI, 14, .inl Aa)), (a_sb, .inl (cI, 14, .inl Ab)), (a_sc, .inl (cI, 14, .inl Ac))] sz) := by
  refine Met.ofW (cc := b_Sig_describeNode) (maxL := 6) (ret := none) (by decide) rfl ?_
  intro p e s m args below meth c s₁ B hml hv
  obtain ⟨rfl, hsz, hP, hK, hD0, hE⟩ := hv
  have hx := B.exec
  have hb := B.bytes
  have hr := B.returns
  have hts := atoms_spec (ws := w_Sig_describeNode) B.pre
  have hown : s.vm.findClass R_Sig = some m.cls := findClass_of_methodNamed B.named
  have hlocks := B.notSynchronized
  subst hsz
  have hD := hD0.self (sz := s.heap.size)
  generalize hAe : va_A [(a_sig, .inr (1, [.ref a_kind, .ref a_width, .ref a_rword, .ref a_sop, .ref a_sa, .ref a_sb, .ref a_sc, .int (nI n)])), (a_sop, .inl (cI, 14, .inl (nF Op))), (a_sa, .inl (cI, 14, .inl Aa)), (a_sb, .inl (cI, 14, .inl Ab)), (a_sc, .inl (cI, 14, .inl Ac))] s.heap.size = A at hD hE ⊢
  have hA : ∀ q : Nat, s.heap.size ≤ q → A q := fun q h => by rw [← hAe]; exact Or.inr h
  have hS : va_S A s.heap s.heap [] := va_S.rf
  have hP : va_P (dC, dI) classes [(a_sig, .inr (1, [.ref a_kind, .ref a_width, .ref a_rword, .ref a_sop, .ref a_sa, .ref a_sb, .ref a_sc, .int (nI n)])), (a_sop, .inl (cI, 14, .inl (nF Op))), (a_sa, .inl (cI, 14, .inl Aa)), (a_sb, .inl (cI, 14, .inl Ab)), (a_sc, .inl (cI, 14, .inl Ac))] s.heap := hP
  have hl := lv_entry ([.ref a_sig, .int (nI S), .int (nI o), .int x, .int y, .int z]) (n := 6) (Nat.le_of_ble_eq_true rfl)
  rw [lg_entry_eq]
  generalize (lg_sl ([.ref a_sig, .int (nI S), .int (nI o), .int x, .int y, .int z]) ++ List.replicate (6 - (lg_sl ([.ref a_sig, .int (nI S), .int (nI o), .int x, .int y, .int z])).length) Slot.unset).toArray = ls at hl ⊢
  have hl : lv_has ls 6 [(0, .ref a_sig), (1, .int (nI S)), (2, .int (nI o)), (3, .int x), (4, .int y), (5, .int z)] := hl
  refine lv_aload_n hx hb d_Sig_describeNode_0 rfl (lv_at hl 0 rfl) ?_
  refine va_get (D := (dC, dI)) (ci := 1) (v := .ref a_sop) (C := R_Sig) (T := F_Sig) (N := 8) hx hb hts (wi i_Sig) hown hK hP 0 rfl rfl 3 (by decide) (hts _ (mt 74 rfl rfl)) (fun _ h9 => h9) rfl d_Sig_describeNode_1 ?_
  refine lv_iload_n hx hb d_Sig_describeNode_4 rfl (lv_at hl 1 rfl) ?_
  refine lv_iload_n hx hb d_Sig_describeNode_5 rfl (lv_at hl 2 rfl) ?_
  refine k_ist hx hb hK hP hD hS 1 0 rfl rfl (by omega) (by decide) d_Sig_describeNode_6 (fun H locs hP hD hS => ?_)
  have bb_1 : ∀ j, upN Op S o j < 12 := upN_lt b_Op (by omega)
  have hP : va_P (dC, dI) classes [(a_sig, .inr (1, [.ref a_kind, .ref a_width, .ref a_rword, .ref a_sop, .ref a_sa, .ref a_sb, .ref a_sc, .int (nI n)])), (a_sop, .inl (cI, 14, .inl (nF (upN Op S o)))), (a_sa, .inl (cI, 14, .inl Aa)), (a_sb, .inl (cI, 14, .inl Ab)), (a_sc, .inl (cI, 14, .inl Ac))] H := hP
  have hD : va_D A [(a_sig, .inr (1, [.ref a_kind, .ref a_width, .ref a_rword, .ref a_sop, .ref a_sa, .ref a_sb, .ref a_sc, .int (nI n)])), (a_sop, .inl (cI, 14, .inl (nF (upN Op S o)))), (a_sa, .inl (cI, 14, .inl Aa)), (a_sb, .inl (cI, 14, .inl Ab)), (a_sc, .inl (cI, 14, .inl Ac))] := hD
  refine lv_aload_n hx hb d_Sig_describeNode_7 rfl (lv_at hl 0 rfl) ?_
  refine va_get (D := (dC, dI)) (ci := 1) (v := .ref a_sa) (C := R_Sig) (T := F_Sig) (N := 8) hx hb hts (wi i_Sig) hown hK hP 0 rfl rfl 4 (by decide) (hts _ (mt 77 rfl rfl)) (fun _ h9 => h9) rfl d_Sig_describeNode_8 ?_
  refine lv_iload_n hx hb d_Sig_describeNode_11 rfl (lv_at hl 1 rfl) ?_
  refine lv_iload_n hx hb d_Sig_describeNode_12 rfl (lv_at hl 3 rfl) ?_
  refine k_rst hx hb hK hP hD hS 2 0 rfl rfl (by omega) (by decide) d_Sig_describeNode_13 (fun H locs hP hD hS => ?_)
  have hP : va_P (dC, dI) classes [(a_sig, .inr (1, [.ref a_kind, .ref a_width, .ref a_rword, .ref a_sop, .ref a_sa, .ref a_sb, .ref a_sc, .int (nI n)])), (a_sop, .inl (cI, 14, .inl (nF (upN Op S o)))), (a_sa, .inl (cI, 14, .inl (upd Aa S x))), (a_sb, .inl (cI, 14, .inl Ab)), (a_sc, .inl (cI, 14, .inl Ac))] H := hP
  have hD : va_D A [(a_sig, .inr (1, [.ref a_kind, .ref a_width, .ref a_rword, .ref a_sop, .ref a_sa, .ref a_sb, .ref a_sc, .int (nI n)])), (a_sop, .inl (cI, 14, .inl (nF (upN Op S o)))), (a_sa, .inl (cI, 14, .inl (upd Aa S x))), (a_sb, .inl (cI, 14, .inl Ab)), (a_sc, .inl (cI, 14, .inl Ac))] := hD
  refine lv_aload_n hx hb d_Sig_describeNode_14 rfl (lv_at hl 0 rfl) ?_
  refine va_get (D := (dC, dI)) (ci := 1) (v := .ref a_sb) (C := R_Sig) (T := F_Sig) (N := 8) hx hb hts (wi i_Sig) hown hK hP 0 rfl rfl 5 (by decide) (hts _ (mt 79 rfl rfl)) (fun _ h9 => h9) rfl d_Sig_describeNode_15 ?_
  refine lv_iload_n hx hb d_Sig_describeNode_18 rfl (lv_at hl 1 rfl) ?_
  refine lv_iload hx hb d_Sig_describeNode_19 (lv_at hl 4 rfl) ?_
  refine k_rst hx hb hK hP hD hS 3 0 rfl rfl (by omega) (by decide) d_Sig_describeNode_21 (fun H locs hP hD hS => ?_)
  have hP : va_P (dC, dI) classes [(a_sig, .inr (1, [.ref a_kind, .ref a_width, .ref a_rword, .ref a_sop, .ref a_sa, .ref a_sb, .ref a_sc, .int (nI n)])), (a_sop, .inl (cI, 14, .inl (nF (upN Op S o)))), (a_sa, .inl (cI, 14, .inl (upd Aa S x))), (a_sb, .inl (cI, 14, .inl (upd Ab S y))), (a_sc, .inl (cI, 14, .inl Ac))] H := hP
  have hD : va_D A [(a_sig, .inr (1, [.ref a_kind, .ref a_width, .ref a_rword, .ref a_sop, .ref a_sa, .ref a_sb, .ref a_sc, .int (nI n)])), (a_sop, .inl (cI, 14, .inl (nF (upN Op S o)))), (a_sa, .inl (cI, 14, .inl (upd Aa S x))), (a_sb, .inl (cI, 14, .inl (upd Ab S y))), (a_sc, .inl (cI, 14, .inl Ac))] := hD
  refine lv_aload_n hx hb d_Sig_describeNode_22 rfl (lv_at hl 0 rfl) ?_
  refine va_get (D := (dC, dI)) (ci := 1) (v := .ref a_sc) (C := R_Sig) (T := F_Sig) (N := 8) hx hb hts (wi i_Sig) hown hK hP 0 rfl rfl 6 (by decide) (hts _ (mt 81 rfl rfl)) (fun _ h9 => h9) rfl d_Sig_describeNode_23 ?_
  refine lv_iload_n hx hb d_Sig_describeNode_26 rfl (lv_at hl 1 rfl) ?_
  refine lv_iload hx hb d_Sig_describeNode_27 (lv_at hl 5 rfl) ?_
  refine k_rst hx hb hK hP hD hS 4 0 rfl rfl (by omega) (by decide) d_Sig_describeNode_29 (fun H locs hP hD hS => ?_)
  have hP : va_P (dC, dI) classes [(a_sig, .inr (1, [.ref a_kind, .ref a_width, .ref a_rword, .ref a_sop, .ref a_sa, .ref a_sb, .ref a_sc, .int (nI n)])), (a_sop, .inl (cI, 14, .inl (nF (upN Op S o)))), (a_sa, .inl (cI, 14, .inl (upd Aa S x))), (a_sb, .inl (cI, 14, .inl (upd Ab S y))), (a_sc, .inl (cI, 14, .inl (upd Ac S z)))] H := hP
  have hD : va_D A [(a_sig, .inr (1, [.ref a_kind, .ref a_width, .ref a_rword, .ref a_sop, .ref a_sa, .ref a_sb, .ref a_sc, .int (nI n)])), (a_sop, .inl (cI, 14, .inl (nF (upN Op S o)))), (a_sa, .inl (cI, 14, .inl (upd Aa S x))), (a_sb, .inl (cI, 14, .inl (upd Ab S y))), (a_sc, .inl (cI, 14, .inl (upd Ac S z)))] := hD
  exact W.vret hx hb hr (fun t ht hW => ⟨⟨(), rfl, trivial, by rw [ht]; exact hP, va_K.moved hW.alike hK, hD⟩, hS.F ht⟩) hS.2.2 d_Sig_describeNode_30
set_option maxHeartbeats 4000000 in
set_option maxRecDepth 100000 in
theorem c_Sig_wider (l : Launch) (dC : Nat → ClassId) (dI : Nat → Nat → Nat) (cI cZ : ClassId) (a_sig a_kind a_width a_rword a_sop a_sa a_sb a_sc : Nat) (tt sz : Nat) (n : Nat) (Wd : Nat → Nat) (X : Nat) (Y : Nat) (b_n : n ≤ 14) (b_Wd : ∀ j, Wd j < 9) (hX : X < 14) (hY : Y < 14) : Met l y_Sig_wider w_Sig_wider ({ frames := 1, cells := 0, slots := 0, locals := 21 }) (va_Pc [.ref a_sig, .int (nI X), .int (nI Y)] (PW (dC, dI) classes [(cI, .int), (cZ, .boolean)] tt [(a_sig, .inr (1, [.ref a_kind, .ref a_width, .ref a_rword, .ref a_sop, .ref a_sa, .ref a_sb, .ref a_sc, .int (nI n)])), (a_width, .inl (cI, 14, .inl (nF Wd)))] sz)) (va_Qi (fun (r : Int32) (u : Unit) => (r = nI (max (Wd X) (Wd Y)))) (AT (dC, dI) classes [(cI, .int), (cZ, .boolean)] (va_A [(a_sig, .inr (1, [.ref a_kind, .ref a_width, .ref a_rword, .ref a_sop, .ref a_sa, .ref a_sb, .ref a_sc, .int (nI n)])), (a_width, .inl (cI, 14, .inl (nF Wd)))] sz) (fun (u : Unit) => [(a_sig, .inr (1, [.ref a_kind, .ref a_width, .ref a_rword, .ref a_sop, .ref a_sa, .ref a_sb, .ref a_sc, .int (nI n)])), (a_width, .inl (cI, 14, .inl (nF Wd)))])) (va_A [(a_sig, .inr (1, [.ref a_kind, .ref a_width, .ref a_rword, .ref a_sop, .ref a_sa, .ref a_sb, .ref a_sc, .int (nI n)])), (a_width, .inl (cI, 14, .inl (nF Wd)))] sz)) 0 0 (va_A [(a_sig, .inr (1, [.ref a_kind, .ref a_width, .ref a_rword, .ref a_sop, .ref a_sa, .ref a_sb, .ref a_sc, .int (nI n)])), (a_width, .inl (cI, 14, .inl (nF Wd)))] sz) := by
  refine Met.ofW (cc := b_Sig_wider) (maxL := 3) (ret := (some .int)) (by decide) rfl ?_
  intro p e s m args below meth c s₁ B hml hv
  obtain ⟨rfl, hsz, hP, hK, hD0, hE⟩ := hv
  have hx := B.exec
  have hb := B.bytes
  have hr := B.returns
  have hts := atoms_spec (ws := w_Sig_wider) B.pre
  have hown : s.vm.findClass R_Sig = some m.cls := findClass_of_methodNamed B.named
  have hlocks := B.notSynchronized
  subst hsz
  have hD := hD0.self (sz := s.heap.size)
  generalize hAe : va_A [(a_sig, .inr (1, [.ref a_kind, .ref a_width, .ref a_rword, .ref a_sop, .ref a_sa, .ref a_sb, .ref a_sc, .int (nI n)])), (a_width, .inl (cI, 14, .inl (nF Wd)))] s.heap.size = A at hD hE ⊢
  have hA : ∀ q : Nat, s.heap.size ≤ q → A q := fun q h => by rw [← hAe]; exact Or.inr h
  have hS : va_S A s.heap s.heap [] := va_S.rf
  have hP : va_P (dC, dI) classes [(a_sig, .inr (1, [.ref a_kind, .ref a_width, .ref a_rword, .ref a_sop, .ref a_sa, .ref a_sb, .ref a_sc, .int (nI n)])), (a_width, .inl (cI, 14, .inl (nF Wd)))] s.heap := hP
  have hl := lv_entry ([.ref a_sig, .int (nI X), .int (nI Y)]) (n := 3) (Nat.le_of_ble_eq_true rfl)
  rw [lg_entry_eq]
  generalize (lg_sl ([.ref a_sig, .int (nI X), .int (nI Y)]) ++ List.replicate (3 - (lg_sl ([.ref a_sig, .int (nI X), .int (nI Y)])).length) Slot.unset).toArray = ls at hl ⊢
  have hl : lv_has ls 3 [(0, .ref a_sig), (1, .int (nI X)), (2, .int (nI Y))] := hl
  refine lv_aload_n hx hb d_Sig_wider_0 rfl (lv_at hl 0 rfl) ?_
  refine va_get (D := (dC, dI)) (ci := 1) (v := .ref a_width) (C := R_Sig) (T := F_Sig) (N := 8) hx hb hts (wi i_Sig) hown hK hP 0 rfl rfl 1 (by decide) (hts _ (mt 69 rfl rfl)) (fun _ h9 => h9) rfl d_Sig_wider_1 ?_
  refine lv_iload_n hx hb d_Sig_wider_4 rfl (lv_at hl 1 rfl) ?_
  refine k_ild hx hb hK hP 1 0 rfl rfl (by omega) (by decide) d_Sig_wider_5 ?_
  have hb_1 := b_Wd X
  refine lv_aload_n hx hb d_Sig_wider_6 rfl (lv_at hl 0 rfl) ?_
  refine va_get (D := (dC, dI)) (ci := 1) (v := .ref a_width) (C := R_Sig) (T := F_Sig) (N := 8) hx hb hts (wi i_Sig) hown hK hP 0 rfl rfl 1 (by decide) (hts _ (mt 69 rfl rfl)) (fun _ h9 => h9) rfl d_Sig_wider_7 ?_
  refine lv_iload_n hx hb d_Sig_wider_10 rfl (lv_at hl 2 rfl) ?_
  refine k_ild hx hb hK hP 1 0 rfl rfl (by omega) (by decide) d_Sig_wider_11 ?_
  have hb_2 := b_Wd Y
  refine va_mmax hx hb (by rw [hml]; exact hl.1.symm) hown (hts _ (mt 303 rfl rfl)) (hts _ (mt 304 rfl rfl)) (hts _ (mt 48 rfl rfl)) (hts _ (mt 305 rfl rfl)) (Nat.le_of_ble_eq_true rfl) (Nat.le_of_ble_eq_true rfl) (Nat.zero_le _) (Nat.zero_le _) d_Sig_wider_12 ?_
  refine k_top (k_max (by omega) (by omega)) ?_
  exact W.iret (v := nI (max (Wd X) (Wd Y))) hx hb hr (fun t ht hW => ⟨⟨nI (max (Wd X) (Wd Y)), (), rfl, rfl, by rw [ht]; exact hP, va_K.moved hW.alike hK, hD⟩, hS.F ht⟩) hS.2.2 d_Sig_wider_15
