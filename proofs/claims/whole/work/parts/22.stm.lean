abbrev b_Stm_add : ByteArray := prog_6_method_7_code
def y_Stm_add : MethodName := ⟨"CircuitDesk$Statements", "add", "(III)I"⟩
def w_Stm_add : List Cond := .code y_Stm_add b_Stm_add 4 (some .int) :: lw_gw
theorem d_Stm_add_0 : decode b_Stm_add 0 = .ok (.aload_n 0, 1) := by decide +kernel
theorem d_Stm_add_1 : decode b_Stm_add 1 = .ok (.getfield 33, 3) := by decide +kernel
theorem d_Stm_add_4 : decode b_Stm_add 4 = .ok (.bipush 20, 2) := by decide +kernel
theorem d_Stm_add_6 : decode b_Stm_add 6 = .ok (.if_icmp .ne 6, 3) := by decide +kernel
theorem d_Stm_add_9 : decode b_Stm_add 9 = .ok (.bipush (-3), 2) := by decide +kernel
theorem d_Stm_add_11 : decode b_Stm_add 11 = .ok (.ireturn, 1) := by decide +kernel
theorem d_Stm_add_12 : decode b_Stm_add 12 = .ok (.aload_n 0, 1) := by decide +kernel
theorem d_Stm_add_13 : decode b_Stm_add 13 = .ok (.getfield 9, 3) := by decide +kernel
theorem d_Stm_add_16 : decode b_Stm_add 16 = .ok (.aload_n 0, 1) := by decide +kernel
theorem d_Stm_add_17 : decode b_Stm_add 17 = .ok (.getfield 33, 3) := by decide +kernel
theorem d_Stm_add_20 : decode b_Stm_add 20 = .ok (.iload_n 1, 1) := by decide +kernel
theorem d_Stm_add_21 : decode b_Stm_add 21 = .ok (.iastore, 1) := by decide +kernel
theorem d_Stm_add_22 : decode b_Stm_add 22 = .ok (.aload_n 0, 1) := by decide +kernel
theorem d_Stm_add_23 : decode b_Stm_add 23 = .ok (.getfield 15, 3) := by decide +kernel
theorem d_Stm_add_26 : decode b_Stm_add 26 = .ok (.aload_n 0, 1) := by decide +kernel
theorem d_Stm_add_27 : decode b_Stm_add 27 = .ok (.getfield 33, 3) := by decide +kernel
theorem d_Stm_add_30 : decode b_Stm_add 30 = .ok (.iload_n 2, 1) := by decide +kernel
theorem d_Stm_add_31 : decode b_Stm_add 31 = .ok (.iastore, 1) := by decide +kernel
theorem d_Stm_add_32 : decode b_Stm_add 32 = .ok (.aload_n 0, 1) := by decide +kernel
theorem d_Stm_add_33 : decode b_Stm_add 33 = .ok (.getfield 18, 3) := by decide +kernel
theorem d_Stm_add_36 : decode b_Stm_add 36 = .ok (.aload_n 0, 1) := by decide +kernel
theorem d_Stm_add_37 : decode b_Stm_add 37 = .ok (.getfield 33, 3) := by decide +kernel
theorem d_Stm_add_40 : decode b_Stm_add 40 = .ok (.iload_n 3, 1) := by decide +kernel
theorem d_Stm_add_41 : decode b_Stm_add 41 = .ok (.iastore, 1) := by decide +kernel
theorem d_Stm_add_42 : decode b_Stm_add 42 = .ok (.aload_n 0, 1) := by decide +kernel
theorem d_Stm_add_43 : decode b_Stm_add 43 = .ok (.dup, 1) := by decide +kernel
theorem d_Stm_add_44 : decode b_Stm_add 44 = .ok (.getfield 33, 3) := by decide +kernel
theorem d_Stm_add_47 : decode b_Stm_add 47 = .ok (.iconst 1, 1) := by decide +kernel
theorem d_Stm_add_48 : decode b_Stm_add 48 = .ok (.iadd, 1) := by decide +kernel
theorem d_Stm_add_49 : decode b_Stm_add 49 = .ok (.putfield 33, 3) := by decide +kernel
theorem d_Stm_add_52 : decode b_Stm_add 52 = .ok (.aload_n 0, 1) := by decide +kernel
theorem d_Stm_add_53 : decode b_Stm_add 53 = .ok (.getfield 33, 3) := by decide +kernel
theorem d_Stm_add_56 : decode b_Stm_add 56 = .ok (.ireturn, 1) := by decide +kernel
abbrev b_Stm_addSet : ByteArray := prog_6_method_2_code
def y_Stm_addSet : MethodName := ⟨"CircuitDesk$Statements", "addSet", "(II)I"⟩
def w_Stm_addSet : List Cond := .code y_Stm_addSet b_Stm_addSet 3 (some .int) :: lw_gw
theorem d_Stm_addSet_0 : decode b_Stm_addSet 0 = .ok (.aload_n 0, 1) := by decide +kernel
theorem d_Stm_addSet_1 : decode b_Stm_addSet 1 = .ok (.iconst 0, 1) := by decide +kernel
theorem d_Stm_addSet_2 : decode b_Stm_addSet 2 = .ok (.iload_n 1, 1) := by decide +kernel
theorem d_Stm_addSet_3 : decode b_Stm_addSet 3 = .ok (.iload_n 2, 1) := by decide +kernel
theorem d_Stm_addSet_4 : decode b_Stm_addSet 4 = .ok (.invokevirtual 25, 3) := by decide +kernel
theorem d_Stm_addSet_7 : decode b_Stm_addSet 7 = .ok (.ireturn, 1) := by decide +kernel
abbrev b_Stm_addWhen : ByteArray := prog_6_method_3_code
def y_Stm_addWhen : MethodName := ⟨"CircuitDesk$Statements", "addWhen", "(I)I"⟩
def w_Stm_addWhen : List Cond := .code y_Stm_addWhen b_Stm_addWhen 3 (some .int) :: lw_gw
theorem d_Stm_addWhen_0 : decode b_Stm_addWhen 0 = .ok (.aload_n 0, 1) := by decide +kernel
theorem d_Stm_addWhen_1 : decode b_Stm_addWhen 1 = .ok (.getfield 29, 3) := by decide +kernel
theorem d_Stm_addWhen_4 : decode b_Stm_addWhen 4 = .ok (.iconst 4, 1) := by decide +kernel
theorem d_Stm_addWhen_5 : decode b_Stm_addWhen 5 = .ok (.if_icmp .ne 6, 3) := by decide +kernel
theorem d_Stm_addWhen_8 : decode b_Stm_addWhen 8 = .ok (.bipush (-3), 2) := by decide +kernel
theorem d_Stm_addWhen_10 : decode b_Stm_addWhen 10 = .ok (.ireturn, 1) := by decide +kernel
theorem d_Stm_addWhen_11 : decode b_Stm_addWhen 11 = .ok (.aload_n 0, 1) := by decide +kernel
theorem d_Stm_addWhen_12 : decode b_Stm_addWhen 12 = .ok (.iconst 1, 1) := by decide +kernel
theorem d_Stm_addWhen_13 : decode b_Stm_addWhen 13 = .ok (.iload_n 1, 1) := by decide +kernel
theorem d_Stm_addWhen_14 : decode b_Stm_addWhen 14 = .ok (.iconst 0, 1) := by decide +kernel
theorem d_Stm_addWhen_15 : decode b_Stm_addWhen 15 = .ok (.invokevirtual 25, 3) := by decide +kernel
theorem d_Stm_addWhen_18 : decode b_Stm_addWhen 18 = .ok (.istore_n 2, 1) := by decide +kernel
theorem d_Stm_addWhen_19 : decode b_Stm_addWhen 19 = .ok (.iload_n 2, 1) := by decide +kernel
theorem d_Stm_addWhen_20 : decode b_Stm_addWhen 20 = .ok (.ifCond .lt 23, 3) := by decide +kernel
theorem d_Stm_addWhen_23 : decode b_Stm_addWhen 23 = .ok (.aload_n 0, 1) := by decide +kernel
theorem d_Stm_addWhen_24 : decode b_Stm_addWhen 24 = .ok (.getfield 21, 3) := by decide +kernel
theorem d_Stm_addWhen_27 : decode b_Stm_addWhen 27 = .ok (.aload_n 0, 1) := by decide +kernel
theorem d_Stm_addWhen_28 : decode b_Stm_addWhen 28 = .ok (.getfield 29, 3) := by decide +kernel
theorem d_Stm_addWhen_31 : decode b_Stm_addWhen 31 = .ok (.iconst 0, 1) := by decide +kernel
theorem d_Stm_addWhen_32 : decode b_Stm_addWhen 32 = .ok (.bastore, 1) := by decide +kernel
theorem d_Stm_addWhen_33 : decode b_Stm_addWhen 33 = .ok (.aload_n 0, 1) := by decide +kernel
theorem d_Stm_addWhen_34 : decode b_Stm_addWhen 34 = .ok (.dup, 1) := by decide +kernel
theorem d_Stm_addWhen_35 : decode b_Stm_addWhen 35 = .ok (.getfield 29, 3) := by decide +kernel
theorem d_Stm_addWhen_38 : decode b_Stm_addWhen 38 = .ok (.iconst 1, 1) := by decide +kernel
theorem d_Stm_addWhen_39 : decode b_Stm_addWhen 39 = .ok (.iadd, 1) := by decide +kernel
theorem d_Stm_addWhen_40 : decode b_Stm_addWhen 40 = .ok (.putfield 29, 3) := by decide +kernel
theorem d_Stm_addWhen_43 : decode b_Stm_addWhen 43 = .ok (.iload_n 2, 1) := by decide +kernel
theorem d_Stm_addWhen_44 : decode b_Stm_addWhen 44 = .ok (.ireturn, 1) := by decide +kernel
abbrev b_Stm_addElse : ByteArray := prog_6_method_4_code
def y_Stm_addElse : MethodName := ⟨"CircuitDesk$Statements", "addElse", "()I"⟩
def w_Stm_addElse : List Cond := .code y_Stm_addElse b_Stm_addElse 2 (some .int) :: lw_gw
theorem d_Stm_addElse_0 : decode b_Stm_addElse 0 = .ok (.aload_n 0, 1) := by decide +kernel
theorem d_Stm_addElse_1 : decode b_Stm_addElse 1 = .ok (.getfield 29, 3) := by decide +kernel
theorem d_Stm_addElse_4 : decode b_Stm_addElse 4 = .ok (.ifCond .eq 17, 3) := by decide +kernel
theorem d_Stm_addElse_7 : decode b_Stm_addElse 7 = .ok (.aload_n 0, 1) := by decide +kernel
theorem d_Stm_addElse_8 : decode b_Stm_addElse 8 = .ok (.getfield 21, 3) := by decide +kernel
theorem d_Stm_addElse_11 : decode b_Stm_addElse 11 = .ok (.aload_n 0, 1) := by decide +kernel
theorem d_Stm_addElse_12 : decode b_Stm_addElse 12 = .ok (.getfield 29, 3) := by decide +kernel
theorem d_Stm_addElse_15 : decode b_Stm_addElse 15 = .ok (.iconst 1, 1) := by decide +kernel
theorem d_Stm_addElse_16 : decode b_Stm_addElse 16 = .ok (.isub, 1) := by decide +kernel
theorem d_Stm_addElse_17 : decode b_Stm_addElse 17 = .ok (.baload, 1) := by decide +kernel
theorem d_Stm_addElse_18 : decode b_Stm_addElse 18 = .ok (.ifCond .eq 6, 3) := by decide +kernel
theorem d_Stm_addElse_21 : decode b_Stm_addElse 21 = .ok (.bipush (-2), 2) := by decide +kernel
theorem d_Stm_addElse_23 : decode b_Stm_addElse 23 = .ok (.ireturn, 1) := by decide +kernel
theorem d_Stm_addElse_24 : decode b_Stm_addElse 24 = .ok (.aload_n 0, 1) := by decide +kernel
theorem d_Stm_addElse_25 : decode b_Stm_addElse 25 = .ok (.iconst 2, 1) := by decide +kernel
theorem d_Stm_addElse_26 : decode b_Stm_addElse 26 = .ok (.iconst 0, 1) := by decide +kernel
theorem d_Stm_addElse_27 : decode b_Stm_addElse 27 = .ok (.iconst 0, 1) := by decide +kernel
theorem d_Stm_addElse_28 : decode b_Stm_addElse 28 = .ok (.invokevirtual 25, 3) := by decide +kernel
theorem d_Stm_addElse_31 : decode b_Stm_addElse 31 = .ok (.istore_n 1, 1) := by decide +kernel
theorem d_Stm_addElse_32 : decode b_Stm_addElse 32 = .ok (.iload_n 1, 1) := by decide +kernel
theorem d_Stm_addElse_33 : decode b_Stm_addElse 33 = .ok (.ifCond .lt 15, 3) := by decide +kernel
theorem d_Stm_addElse_36 : decode b_Stm_addElse 36 = .ok (.aload_n 0, 1) := by decide +kernel
theorem d_Stm_addElse_37 : decode b_Stm_addElse 37 = .ok (.getfield 21, 3) := by decide +kernel
theorem d_Stm_addElse_40 : decode b_Stm_addElse 40 = .ok (.aload_n 0, 1) := by decide +kernel
theorem d_Stm_addElse_41 : decode b_Stm_addElse 41 = .ok (.getfield 29, 3) := by decide +kernel
theorem d_Stm_addElse_44 : decode b_Stm_addElse 44 = .ok (.iconst 1, 1) := by decide +kernel
theorem d_Stm_addElse_45 : decode b_Stm_addElse 45 = .ok (.isub, 1) := by decide +kernel
theorem d_Stm_addElse_46 : decode b_Stm_addElse 46 = .ok (.iconst 1, 1) := by decide +kernel
theorem d_Stm_addElse_47 : decode b_Stm_addElse 47 = .ok (.bastore, 1) := by decide +kernel
theorem d_Stm_addElse_48 : decode b_Stm_addElse 48 = .ok (.iload_n 1, 1) := by decide +kernel
theorem d_Stm_addElse_49 : decode b_Stm_addElse 49 = .ok (.ireturn, 1) := by decide +kernel
abbrev b_Stm_addEnd : ByteArray := prog_6_method_5_code
def y_Stm_addEnd : MethodName := ⟨"CircuitDesk$Statements", "addEnd", "()I"⟩
def w_Stm_addEnd : List Cond := .code y_Stm_addEnd b_Stm_addEnd 2 (some .int) :: lw_gw
theorem d_Stm_addEnd_0 : decode b_Stm_addEnd 0 = .ok (.aload_n 0, 1) := by decide +kernel
theorem d_Stm_addEnd_1 : decode b_Stm_addEnd 1 = .ok (.getfield 29, 3) := by decide +kernel
theorem d_Stm_addEnd_4 : decode b_Stm_addEnd 4 = .ok (.ifCond .ne 6, 3) := by decide +kernel
theorem d_Stm_addEnd_7 : decode b_Stm_addEnd 7 = .ok (.bipush (-2), 2) := by decide +kernel
theorem d_Stm_addEnd_9 : decode b_Stm_addEnd 9 = .ok (.ireturn, 1) := by decide +kernel
theorem d_Stm_addEnd_10 : decode b_Stm_addEnd 10 = .ok (.aload_n 0, 1) := by decide +kernel
theorem d_Stm_addEnd_11 : decode b_Stm_addEnd 11 = .ok (.iconst 3, 1) := by decide +kernel
theorem d_Stm_addEnd_12 : decode b_Stm_addEnd 12 = .ok (.iconst 0, 1) := by decide +kernel
theorem d_Stm_addEnd_13 : decode b_Stm_addEnd 13 = .ok (.iconst 0, 1) := by decide +kernel
theorem d_Stm_addEnd_14 : decode b_Stm_addEnd 14 = .ok (.invokevirtual 25, 3) := by decide +kernel
theorem d_Stm_addEnd_17 : decode b_Stm_addEnd 17 = .ok (.istore_n 1, 1) := by decide +kernel
theorem d_Stm_addEnd_18 : decode b_Stm_addEnd 18 = .ok (.iload_n 1, 1) := by decide +kernel
theorem d_Stm_addEnd_19 : decode b_Stm_addEnd 19 = .ok (.ifCond .lt 13, 3) := by decide +kernel
theorem d_Stm_addEnd_22 : decode b_Stm_addEnd 22 = .ok (.aload_n 0, 1) := by decide +kernel
theorem d_Stm_addEnd_23 : decode b_Stm_addEnd 23 = .ok (.dup, 1) := by decide +kernel
theorem d_Stm_addEnd_24 : decode b_Stm_addEnd 24 = .ok (.getfield 29, 3) := by decide +kernel
theorem d_Stm_addEnd_27 : decode b_Stm_addEnd 27 = .ok (.iconst 1, 1) := by decide +kernel
theorem d_Stm_addEnd_28 : decode b_Stm_addEnd 28 = .ok (.isub, 1) := by decide +kernel
theorem d_Stm_addEnd_29 : decode b_Stm_addEnd 29 = .ok (.putfield 29, 3) := by decide +kernel
theorem d_Stm_addEnd_32 : decode b_Stm_addEnd 32 = .ok (.iload_n 1, 1) := by decide +kernel
theorem d_Stm_addEnd_33 : decode b_Stm_addEnd 33 = .ok (.ireturn, 1) := by decide +kernel
abbrev b_Stm_removeAll : ByteArray := prog_6_method_6_code
def y_Stm_removeAll : MethodName := ⟨"CircuitDesk$Statements", "removeAll", "()V"⟩
def w_Stm_removeAll : List Cond := .code y_Stm_removeAll b_Stm_removeAll 1 none :: lw_gw
theorem d_Stm_removeAll_0 : decode b_Stm_removeAll 0 = .ok (.aload_n 0, 1) := by decide +kernel
theorem d_Stm_removeAll_1 : decode b_Stm_removeAll 1 = .ok (.iconst 0, 1) := by decide +kernel
theorem d_Stm_removeAll_2 : decode b_Stm_removeAll 2 = .ok (.putfield 33, 3) := by decide +kernel
theorem d_Stm_removeAll_5 : decode b_Stm_removeAll 5 = .ok (.aload_n 0, 1) := by decide +kernel
theorem d_Stm_removeAll_6 : decode b_Stm_removeAll 6 = .ok (.iconst 0, 1) := by decide +kernel
theorem d_Stm_removeAll_7 : decode b_Stm_removeAll 7 = .ok (.putfield 29, 3) := by decide +kernel
theorem d_Stm_removeAll_10 : decode b_Stm_removeAll 10 = .ok (.return_, 1) := by decide +kernel
set_option maxHeartbeats 4000000 in
set_option maxRecDepth 100000 in
theorem c_Stm_add (l : Launch) (dC : Nat → ClassId) (dI : Nat → Nat → Nat) (cI cZ : ClassId) (a_stm a_sort a_subject a_source a_elseSeen : Nat) (tt sz : Nat) (ms : Nat) (ow : Nat) (So : Nat → Nat) (Su : Nat → Nat) (Sr : Nat → Nat) (i0 : Nat) (j0 : Nat) (k0 : Nat) (b_ms : ms ≤ 20) (b_ow : ow ≤ 4) (b_So : ∀ j, So j < 4) (b_Su : ∀ j, Su j < 14) (b_Sr : ∀ j, Sr j < 14) (hi : i0 < 4) (hj : j0 < 14) (hk : k0 < 14) : Met l y_Stm_add w_Stm_add ({ frames := 0, cells := 0, slots := 0, locals := 0 }) (va_Pc [.ref a_stm, .int (nI i0), .int (nI j0), .int (nI k0)] (PW (dC, dI) classes [(cI, .int), (cZ, .boolean)] tt [(a_stm, .inr (2, [.ref a_sort, .ref a_subject, .ref a_source, .int (nI ms), .int (nI ow), .ref a_elseSeen])), (a_sort, .inl (cI, 20, .inl (nF So))), (a_subject, .inl (cI, 20, .inl (nF Su))), (a_source, .inl (cI, 20, .inl (nF Sr)))] sz)) (va_Qi (fun (r : Int32) (u : Nat × (Nat → Nat) × (Nat → Nat) × (Nat → Nat)) => (u.1 ≤ 20) ∧ (∀ j, u.2.1 j < 4) ∧ (∀ j, u.2.2.1 j < 14) ∧ (∀ j, u.2.2.2 j < 14) ∧ ((ms = 20 ∧ (-3) = r ∧ ms = u.1 ∧ So = u.2.1 ∧ Su = u.2.2.1 ∧ Sr = u.2.2.2) ∨ (ms < 20 ∧ nI (ms + 1) = r ∧ ms + 1 = u.1 ∧ upN So ms i0 = u.2.1 ∧ upN Su ms j0 = u.2.2.1 ∧ upN Sr ms k0 = u.2.2.2))) (AT (dC, dI) classes [(cI, .int), (cZ, .boolean)] (va_A [(a_stm, .inr (2, [.ref a_sort, .ref a_subject, .ref a_source, .int (nI ms), .int (nI ow), .ref a_elseSeen])), (a_sort, .inl (cI, 20, .inl (nF So))), (a_subject, .inl (cI, 20, .inl (nF Su))), (a_source, .inl (cI, 20, .inl (nF Sr)))] sz) (fun (u : Nat × (Nat → Nat) × (Nat → Nat) × (Nat → Nat)) => [(a_stm, .inr (2, [.ref a_sort, .ref a_subject, .ref a_source, .int (nI u.1), .int (nI ow), .ref a_elseSeen])), (a_sort, .inl (cI, 20, .inl (nF u.2.1))), (a_subject, .inl (cI, 20, .inl (nF u.2.2.1))), (a_source, .inl (cI, 20, .inl (nF u.2.2.2)))])) (va_A [(a_stm, .inr (2, [.ref a_sort, .ref a_subject, .ref a_source, .int (nI ms), .int (nI ow), .ref a_elseSeen])), (a_sort, .inl (cI, 20, .inl (nF So))), (a_subject, .inl (cI, 20, .inl (nF Su))), (a_source, .inl (cI, 20, .inl (nF Sr)))] sz)) 0 0 (va_A [(a_stm, .inr (2, [.ref a_sort, .ref a_subject, .ref a_source, .int (nI ms), .int (nI ow), .ref a_elseSeen])), (a_sort, .inl (cI, 20, .inl (nF So))), (a_subject, .inl (cI, 20, .inl (nF Su))), (a_source, .inl (cI, 20, .inl (nF Sr)))] sz) := by
  refine Met.ofW (cc := b_Stm_add) (maxL := 4) (ret := (some .int)) (by decide) rfl ?_
  intro p e s m args below meth c s₁ B hml hv
  obtain ⟨rfl, hsz, hP, hK, hD0, hE⟩ := hv
  have hx := B.exec
  have hb := B.bytes
  have hr := B.returns
  have hts := atoms_spec (ws := w_Stm_add) B.pre
  have hown : s.vm.findClass R_Stm = some m.cls := findClass_of_methodNamed B.named
  have hlocks := B.notSynchronized
  subst hsz
  have hD := hD0.self (sz := s.heap.size)
  generalize hAe : va_A [(a_stm, .inr (2, [.ref a_sort, .ref a_subject, .ref a_source, .int (nI ms), .int (nI ow), .ref a_elseSeen])), (a_sort, .inl (cI, 20, .inl (nF So))), (a_subject, .inl (cI, 20, .inl (nF Su))), (a_source, .inl (cI, 20, .inl (nF Sr)))] s.heap.size = A at hD hE ⊢
  have hA : ∀ q : Nat, s.heap.size ≤ q → A q := fun q h => by rw [← hAe]; exact Or.inr h
  have hS : va_S A s.heap s.heap [] := va_S.rf
  have hP : va_P (dC, dI) classes [(a_stm, .inr (2, [.ref a_sort, .ref a_subject, .ref a_source, .int (nI ms), .int (nI ow), .ref a_elseSeen])), (a_sort, .inl (cI, 20, .inl (nF So))), (a_subject, .inl (cI, 20, .inl (nF Su))), (a_source, .inl (cI, 20, .inl (nF Sr)))] s.heap := hP
  have hl := lv_entry ([.ref a_stm, .int (nI i0), .int (nI j0), .int (nI k0)]) (n := 4) (Nat.le_of_ble_eq_true rfl)
  rw [lg_entry_eq]
  generalize (lg_sl ([.ref a_stm, .int (nI i0), .int (nI j0), .int (nI k0)]) ++ List.replicate (4 - (lg_sl ([.ref a_stm, .int (nI i0), .int (nI j0), .int (nI k0)])).length) Slot.unset).toArray = ls at hl ⊢
  have hl : lv_has ls 4 [(0, .ref a_stm), (1, .int (nI i0)), (2, .int (nI j0)), (3, .int (nI k0))] := hl
  refine lv_aload_n hx hb d_Stm_add_0 rfl (lv_at hl 0 rfl) ?_
  refine va_get (D := (dC, dI)) (ci := 2) (v := .int (nI ms)) (C := R_Stm) (T := F_Stm) (N := 6) hx hb hts (wi i_Stm) hown hK hP 0 rfl rfl 3 (by decide) (hts _ (mt 122 rfl rfl)) (fun _ h9 => h9) rfl d_Stm_add_1 ?_
  refine lv_bipush (v := nI 20) hx hb d_Stm_add_4 rfl ?_
  refine lv_icmp_ne (tgt := 12) hx hb d_Stm_add_6 (by decide) (fun c6 => ?_) (fun c6 => ?_)
  · skip
    have c6 : ¬ (ms = 20) := fun h => c6 ((nI_eq (by omega) (by omega)).mpr h)
    refine lv_aload_n hx hb d_Stm_add_12 rfl (lv_at hl 0 rfl) ?_
    refine va_get (D := (dC, dI)) (ci := 2) (v := .ref a_sort) (C := R_Stm) (T := F_Stm) (N := 6) hx hb hts (wi i_Stm) hown hK hP 0 rfl rfl 0 (by decide) (hts _ (mt 111 rfl rfl)) (fun _ h9 => h9) rfl d_Stm_add_13 ?_
    refine lv_aload_n hx hb d_Stm_add_16 rfl (lv_at hl 0 rfl) ?_
    refine va_get (D := (dC, dI)) (ci := 2) (v := .int (nI ms)) (C := R_Stm) (T := F_Stm) (N := 6) hx hb hts (wi i_Stm) hown hK hP 0 rfl rfl 3 (by decide) (hts _ (mt 122 rfl rfl)) (fun _ h9 => h9) rfl d_Stm_add_17 ?_
    refine lv_iload_n hx hb d_Stm_add_20 rfl (lv_at hl 1 rfl) ?_
    refine k_ist hx hb hK hP hD hS 1 0 rfl rfl (by omega) (by decide) d_Stm_add_21 (fun H locs hP hD hS => ?_)
    have bb_1 : ∀ j, upN So ms i0 j < 4 := upN_lt b_So (by omega)
    have hP : va_P (dC, dI) classes [(a_stm, .inr (2, [.ref a_sort, .ref a_subject, .ref a_source, .int (nI ms), .int (nI ow), .ref a_elseSeen])), (a_sort, .inl (cI, 20, .inl (nF (upN So ms i0)))), (a_subject, .inl (cI, 20, .inl (nF Su))), (a_source, .inl (cI, 20, .inl (nF Sr)))] H := hP
    have hD : va_D A [(a_stm, .inr (2, [.ref a_sort, .ref a_subject, .ref a_source, .int (nI ms), .int (nI ow), .ref a_elseSeen])), (a_sort, .inl (cI, 20, .inl (nF (upN So ms i0)))), (a_subject, .inl (cI, 20, .inl (nF Su))), (a_source, .inl (cI, 20, .inl (nF Sr)))] := hD
    refine lv_aload_n hx hb d_Stm_add_22 rfl (lv_at hl 0 rfl) ?_
    refine va_get (D := (dC, dI)) (ci := 2) (v := .ref a_subject) (C := R_Stm) (T := F_Stm) (N := 6) hx hb hts (wi i_Stm) hown hK hP 0 rfl rfl 1 (by decide) (hts _ (mt 114 rfl rfl)) (fun _ h9 => h9) rfl d_Stm_add_23 ?_
    refine lv_aload_n hx hb d_Stm_add_26 rfl (lv_at hl 0 rfl) ?_
    refine va_get (D := (dC, dI)) (ci := 2) (v := .int (nI ms)) (C := R_Stm) (T := F_Stm) (N := 6) hx hb hts (wi i_Stm) hown hK hP 0 rfl rfl 3 (by decide) (hts _ (mt 122 rfl rfl)) (fun _ h9 => h9) rfl d_Stm_add_27 ?_
    refine lv_iload_n hx hb d_Stm_add_30 rfl (lv_at hl 2 rfl) ?_
    refine k_ist hx hb hK hP hD hS 2 0 rfl rfl (by omega) (by decide) d_Stm_add_31 (fun H locs hP hD hS => ?_)
    have bb_2 : ∀ j, upN Su ms j0 j < 14 := upN_lt b_Su (by omega)
    have hP : va_P (dC, dI) classes [(a_stm, .inr (2, [.ref a_sort, .ref a_subject, .ref a_source, .int (nI ms), .int (nI ow), .ref a_elseSeen])), (a_sort, .inl (cI, 20, .inl (nF (upN So ms i0)))), (a_subject, .inl (cI, 20, .inl (nF (upN Su ms j0)))), (a_source, .inl (cI, 20, .inl (nF Sr)))] H := hP
    have hD : va_D A [(a_stm, .inr (2, [.ref a_sort, .ref a_subject, .ref a_source, .int (nI ms), .int (nI ow), .ref a_elseSeen])), (a_sort, .inl (cI, 20, .inl (nF (upN So ms i0)))), (a_subject, .inl (cI, 20, .inl (nF (upN Su ms j0)))), (a_source, .inl (cI, 20, .inl (nF Sr)))] := hD
    refine lv_aload_n hx hb d_Stm_add_32 rfl (lv_at hl 0 rfl) ?_
    refine va_get (D := (dC, dI)) (ci := 2) (v := .ref a_source) (C := R_Stm) (T := F_Stm) (N := 6) hx hb hts (wi i_Stm) hown hK hP 0 rfl rfl 2 (by decide) (hts _ (mt 117 rfl rfl)) (fun _ h9 => h9) rfl d_Stm_add_33 ?_
    refine lv_aload_n hx hb d_Stm_add_36 rfl (lv_at hl 0 rfl) ?_
    refine va_get (D := (dC, dI)) (ci := 2) (v := .int (nI ms)) (C := R_Stm) (T := F_Stm) (N := 6) hx hb hts (wi i_Stm) hown hK hP 0 rfl rfl 3 (by decide) (hts _ (mt 122 rfl rfl)) (fun _ h9 => h9) rfl d_Stm_add_37 ?_
    refine lv_iload_n hx hb d_Stm_add_40 rfl (lv_at hl 3 rfl) ?_
    refine k_ist hx hb hK hP hD hS 3 0 rfl rfl (by omega) (by decide) d_Stm_add_41 (fun H locs hP hD hS => ?_)
    have bb_3 : ∀ j, upN Sr ms k0 j < 14 := upN_lt b_Sr (by omega)
    have hP : va_P (dC, dI) classes [(a_stm, .inr (2, [.ref a_sort, .ref a_subject, .ref a_source, .int (nI ms), .int (nI ow), .ref a_elseSeen])), (a_sort, .inl (cI, 20, .inl (nF (upN So ms i0)))), (a_subject, .inl (cI, 20, .inl (nF (upN Su ms j0)))), (a_source, .inl (cI, 20, .inl (nF (upN Sr ms k0))))] H := hP
    have hD : va_D A [(a_stm, .inr (2, [.ref a_sort, .ref a_subject, .ref a_source, .int (nI ms), .int (nI ow), .ref a_elseSeen])), (a_sort, .inl (cI, 20, .inl (nF (upN So ms i0)))), (a_subject, .inl (cI, 20, .inl (nF (upN Su ms j0)))), (a_source, .inl (cI, 20, .inl (nF (upN Sr ms k0))))] := hD
    refine lv_aload_n hx hb d_Stm_add_42 rfl (lv_at hl 0 rfl) ?_
    refine lv_dup hx hb d_Stm_add_43 rfl ?_
    refine va_get (D := (dC, dI)) (ci := 2) (v := .int (nI ms)) (C := R_Stm) (T := F_Stm) (N := 6) hx hb hts (wi i_Stm) hown hK hP 0 rfl rfl 3 (by decide) (hts _ (mt 122 rfl rfl)) (fun _ h9 => h9) rfl d_Stm_add_44 ?_
    refine lv_iconst (v := nI 1) hx hb d_Stm_add_47 rfl ?_
    refine lv_iadd hx hb d_Stm_add_48 ?_
    refine k_top (nI_add _ _) ?_
    refine va_put (D := (dC, dI)) (ci := 2) (v := .int (nI (ms + 1))) (ty := .int) (C := R_Stm) (T := F_Stm) (N := 6) hx hb hts (wi i_Stm) t_Stm t_Stm_ok n_Stm hown hK hP hD hS 0 rfl rfl 3 (by decide) (hts _ (mt 122 rfl rfl)) (fun _ h9 => h9) rfl (by decide +kernel) rfl rfl (Nat.le_of_ble_eq_true rfl) d_Stm_add_49 (fun H locs hP hD hS => ?_)
    have hP : va_P (dC, dI) classes [(a_stm, .inr (2, [.ref a_sort, .ref a_subject, .ref a_source, .int (nI (ms + 1)), .int (nI ow), .ref a_elseSeen])), (a_sort, .inl (cI, 20, .inl (nF (upN So ms i0)))), (a_subject, .inl (cI, 20, .inl (nF (upN Su ms j0)))), (a_source, .inl (cI, 20, .inl (nF (upN Sr ms k0))))] H := hP
    have hD : va_D A [(a_stm, .inr (2, [.ref a_sort, .ref a_subject, .ref a_source, .int (nI (ms + 1)), .int (nI ow), .ref a_elseSeen])), (a_sort, .inl (cI, 20, .inl (nF (upN So ms i0)))), (a_subject, .inl (cI, 20, .inl (nF (upN Su ms j0)))), (a_source, .inl (cI, 20, .inl (nF (upN Sr ms k0))))] := hD
    refine lv_aload_n hx hb d_Stm_add_52 rfl (lv_at hl 0 rfl) ?_
    refine va_get (D := (dC, dI)) (ci := 2) (v := .int (nI (ms + 1))) (C := R_Stm) (T := F_Stm) (N := 6) hx hb hts (wi i_Stm) hown hK hP 0 rfl rfl 3 (by decide) (hts _ (mt 122 rfl rfl)) (fun _ h9 => h9) rfl d_Stm_add_53 ?_
    exact W.iret (v := nI (ms + 1)) hx hb hr (fun t ht hW => ⟨⟨nI (ms + 1), (ms + 1, upN So ms i0, upN Su ms j0, upN Sr ms k0), rfl, ⟨(show (ms + 1) ≤ 20 from by omega), bb_1, bb_2, bb_3, (show (ms = 20 ∧ (-3) = (nI (ms + 1)) ∧ ms = (ms + 1) ∧ So = (upN So ms i0) ∧ Su = (upN Su ms j0) ∧ Sr = (upN Sr ms k0)) ∨ (ms < 20 ∧ nI (ms + 1) = (nI (ms + 1)) ∧ ms + 1 = (ms + 1) ∧ upN So ms i0 = (upN So ms i0) ∧ upN Su ms j0 = (upN Su ms j0) ∧ upN Sr ms k0 = (upN Sr ms k0)) from (Or.inr ⟨by omega, rfl, rfl, rfl, rfl, rfl⟩))⟩, by rw [ht]; exact hP, va_K.moved hW.alike hK, hD⟩, hS.F ht⟩) hS.2.2 d_Stm_add_56
  · skip
    have c6 : ms = 20 := (nI_eq (by omega) (by omega)).mp c6
    refine lv_bipush (v := (-3 : Int32)) hx hb d_Stm_add_9 rfl ?_
    exact W.iret (v := (-3 : Int32)) hx hb hr (fun t ht hW => ⟨⟨(-3 : Int32), (ms, So, Su, Sr), rfl, ⟨(show ms ≤ 20 from by omega), b_So, b_Su, b_Sr, (show (ms = 20 ∧ (-3) = (-3 : Int32) ∧ ms = ms ∧ So = So ∧ Su = Su ∧ Sr = Sr) ∨ (ms < 20 ∧ nI (ms + 1) = (-3 : Int32) ∧ ms + 1 = ms ∧ upN So ms i0 = So ∧ upN Su ms j0 = Su ∧ upN Sr ms k0 = Sr) from (Or.inl ⟨by omega, rfl, rfl, rfl, rfl, rfl⟩))⟩, by rw [ht]; exact hP, va_K.moved hW.alike hK, hD⟩, hS.F ht⟩) hS.2.2 d_Stm_add_11
set_option maxHeartbeats 4000000 in
set_option maxRecDepth 100000 in
theorem c_Stm_addSet (l : Launch) (dC : Nat → ClassId) (dI : Nat → Nat → Nat) (cI cZ : ClassId) (a_stm a_sort a_subject a_source a_elseSeen : Nat) (tt sz : Nat) (ms : Nat) (ow : Nat) (So : Nat → Nat) (Su : Nat → Nat) (Sr : Nat → Nat) (j0 : Nat) (k0 : Nat) (b_ms : ms ≤ 20) (b_ow : ow ≤ 4) (b_So : ∀ j, So j < 4) (b_Su : ∀ j, Su j < 14) (b_Sr : ∀ j, Sr j < 14) (hj : j0 < 14) (hk : k0 < 14) : Met l y_Stm_addSet w_Stm_addSet ({ frames := 1, cells := 0, slots := 0, locals := 23 }) (va_Pc [.ref a_stm, .int (nI j0), .int (nI k0)] (PW (dC, dI) classes [(cI, .int), (cZ, .boolean)] tt [(a_stm, .inr (2, [.ref a_sort, .ref a_subject, .ref a_source, .int (nI ms), .int (nI ow), .ref a_elseSeen])), (a_sort, .inl (cI, 20, .inl (nF So))), (a_subject, .inl (cI, 20, .inl (nF Su))), (a_source, .inl (cI, 20, .inl (nF Sr)))] sz)) (va_Qi (fun (r : Int32) (u : Nat × (Nat → Nat) × (Nat → Nat) × (Nat → Nat)) => (u.1 ≤ 20) ∧ (∀ j, u.2.1 j < 4) ∧ (∀ j, u.2.2.1 j < 14) ∧ (∀ j, u.2.2.2 j < 14) ∧ ((ms = 20 ∧ (-3) = r ∧ ms = u.1 ∧ So = u.2.1 ∧ Su = u.2.2.1 ∧ Sr = u.2.2.2) ∨ (ms < 20 ∧ nI (ms + 1) = r ∧ ms + 1 = u.1 ∧ upN So ms 0 = u.2.1 ∧ upN Su ms j0 = u.2.2.1 ∧ upN Sr ms k0 = u.2.2.2))) (AT (dC, dI) classes [(cI, .int), (cZ, .boolean)] (va_A [(a_stm, .inr (2, [.ref a_sort, .ref a_subject, .ref a_source, .int (nI ms), .int (nI ow), .ref a_elseSeen])), (a_sort, .inl (cI, 20, .inl (nF So))), (a_subject, .inl (cI, 20, .inl (nF Su))), (a_source, .inl (cI, 20, .inl (nF Sr)))] sz) (fun (u : Nat × (Nat → Nat) × (Nat → Nat) × (Nat → Nat)) => [(a_stm, .inr (2, [.ref a_sort, .ref a_subject, .ref a_source, .int (nI u.1), .int (nI ow), .ref a_elseSeen])), (a_sort, .inl (cI, 20, .inl (nF u.2.1))), (a_subject, .inl (cI, 20, .inl (nF u.2.2.1))), (a_source, .inl (cI, 20, .inl (nF u.2.2.2)))])) (va_A [(a_stm, .inr (2, [.ref a_sort, .ref a_subject, .ref a_source, .int (nI ms), .int (nI ow), .ref a_elseSeen])), (a_sort, .inl (cI, 20, .inl (nF So))), (a_subject, .inl (cI, 20, .inl (nF Su))), (a_source, .inl (cI, 20, .inl (nF Sr)))] sz)) 0 0 (va_A [(a_stm, .inr (2, [.ref a_sort, .ref a_subject, .ref a_source, .int (nI ms), .int (nI ow), .ref a_elseSeen])), (a_sort, .inl (cI, 20, .inl (nF So))), (a_subject, .inl (cI, 20, .inl (nF Su))), (a_source, .inl (cI, 20, .inl (nF Sr)))] sz) := by
  refine Met.ofW (cc := b_Stm_addSet) (maxL := 3) (ret := (some .int)) (by decide) rfl ?_
  intro p e s m args below meth c s₁ B hml hv
  obtain ⟨rfl, hsz, hP, hK, hD0, hE⟩ := hv
  have hx := B.exec
  have hb := B.bytes
  have hr := B.returns
  have hts := atoms_spec (ws := w_Stm_addSet) B.pre
  have hown : s.vm.findClass R_Stm = some m.cls := findClass_of_methodNamed B.named
  have hlocks := B.notSynchronized
  subst hsz
  have hD := hD0.self (sz := s.heap.size)
  generalize hAe : va_A [(a_stm, .inr (2, [.ref a_sort, .ref a_subject, .ref a_source, .int (nI ms), .int (nI ow), .ref a_elseSeen])), (a_sort, .inl (cI, 20, .inl (nF So))), (a_subject, .inl (cI, 20, .inl (nF Su))), (a_source, .inl (cI, 20, .inl (nF Sr)))] s.heap.size = A at hD hE ⊢
  have hA : ∀ q : Nat, s.heap.size ≤ q → A q := fun q h => by rw [← hAe]; exact Or.inr h
  have hS : va_S A s.heap s.heap [] := va_S.rf
  have hP : va_P (dC, dI) classes [(a_stm, .inr (2, [.ref a_sort, .ref a_subject, .ref a_source, .int (nI ms), .int (nI ow), .ref a_elseSeen])), (a_sort, .inl (cI, 20, .inl (nF So))), (a_subject, .inl (cI, 20, .inl (nF Su))), (a_source, .inl (cI, 20, .inl (nF Sr)))] s.heap := hP
  have hl := lv_entry ([.ref a_stm, .int (nI j0), .int (nI k0)]) (n := 3) (Nat.le_of_ble_eq_true rfl)
  rw [lg_entry_eq]
  generalize (lg_sl ([.ref a_stm, .int (nI j0), .int (nI k0)]) ++ List.replicate (3 - (lg_sl ([.ref a_stm, .int (nI j0), .int (nI k0)])).length) Slot.unset).toArray = ls at hl ⊢
  have hl : lv_has ls 3 [(0, .ref a_stm), (1, .int (nI j0)), (2, .int (nI k0))] := hl
  refine lv_aload_n hx hb d_Stm_addSet_0 rfl (lv_at hl 0 rfl) ?_
  refine lv_iconst (v := nI 0) hx hb d_Stm_addSet_1 rfl ?_
  refine lv_iload_n hx hb d_Stm_addSet_2 rfl (lv_at hl 1 rfl) ?_
  refine lv_iload_n hx hb d_Stm_addSet_3 rfl (lv_at hl 2 rfl) ?_
  refine k_i (wr := []) (w2 := fun (u : Nat × (Nat → Nat) × (Nat → Nat) × (Nat → Nat)) => [(a_stm, .inr (2, [.ref a_sort, .ref a_subject, .ref a_source, .int (nI u.1), .int (nI ow), .ref a_elseSeen])), (a_sort, .inl (cI, 20, .inl (nF u.2.1))), (a_subject, .inl (cI, 20, .inl (nF u.2.2.1))), (a_source, .inl (cI, 20, .inl (nF u.2.2.2)))]) (va_runV (As := [.int (nI 0), .int (nI j0), .int (nI k0)]) (rest := []) ⟨hx, hb, hml, hown, hts⟩ (c_Stm_add l dC dI cI cZ a_stm a_sort a_subject a_source a_elseSeen tt s.heap.size ms ow So Su Sr 0 j0 k0 (by omega) (by omega) b_So b_Su b_Sr (by omega) (by omega) (by omega)) (cwV 3 hts (gd_V in_tl (mw 331 rfl rfl) (mw 333 rfl rfl) (mw 2 rfl rfl) (mw 43 rfl rfl) (mw 334 rfl rfl)) rfl rfl rfl (by decide +kernel) ⟨Nat.le_of_ble_eq_true rfl, Nat.le_of_ble_eq_true rfl⟩) (k_preV hK hP hD hS hA hE [0, 1, 2, 3] (by decide) rfl 2 0 rfl rfl) rfl rfl hl.1 rfl (lv_room (Nat.le_of_ble_eq_true rfl)) d_Stm_addSet_4 ⟨Nat.zero_le _, Nat.zero_le _⟩) hP hD hS hA [0, 1, 2, 3] [] [0, 1, 2, 3] rfl rfl (by decide) (by decide) (by decide) (fun _ => rfl) (fun r_5 u H locs hw hP hD hS => ?_)
  obtain ⟨msv_1, Sov_2, Suv_3, Srv_4⟩ := u
  obtain ⟨b_msv_1, b_Sov_2, b_Suv_3, b_Srv_4, ha_4⟩ : (msv_1 ≤ 20) ∧ (∀ j, Sov_2 j < 4) ∧ (∀ j, Suv_3 j < 14) ∧ (∀ j, Srv_4 j < 14) ∧ ((ms = 20 ∧ (-3) = r_5 ∧ ms = msv_1 ∧ So = Sov_2 ∧ Su = Suv_3 ∧ Sr = Srv_4) ∨ (ms < 20 ∧ nI (ms + 1) = r_5 ∧ ms + 1 = msv_1 ∧ upN So ms 0 = Sov_2 ∧ upN Su ms j0 = Suv_3 ∧ upN Sr ms k0 = Srv_4)) := hw
  have hP : va_P (dC, dI) classes [(a_stm, .inr (2, [.ref a_sort, .ref a_subject, .ref a_source, .int (nI msv_1), .int (nI ow), .ref a_elseSeen])), (a_sort, .inl (cI, 20, .inl (nF Sov_2))), (a_subject, .inl (cI, 20, .inl (nF Suv_3))), (a_source, .inl (cI, 20, .inl (nF Srv_4)))] H := hP
  have hD : va_D A [(a_stm, .inr (2, [.ref a_sort, .ref a_subject, .ref a_source, .int (nI msv_1), .int (nI ow), .ref a_elseSeen])), (a_sort, .inl (cI, 20, .inl (nF Sov_2))), (a_subject, .inl (cI, 20, .inl (nF Suv_3))), (a_source, .inl (cI, 20, .inl (nF Srv_4)))] := hD
  exact W.iret (v := r_5) hx hb hr (fun t ht hW => ⟨⟨r_5, (msv_1, Sov_2, Suv_3, Srv_4), rfl, ⟨(show msv_1 ≤ 20 from by omega), b_Sov_2, b_Suv_3, b_Srv_4, (show (ms = 20 ∧ (-3) = r_5 ∧ ms = msv_1 ∧ So = Sov_2 ∧ Su = Suv_3 ∧ Sr = Srv_4) ∨ (ms < 20 ∧ nI (ms + 1) = r_5 ∧ ms + 1 = msv_1 ∧ upN So ms 0 = Sov_2 ∧ upN Su ms j0 = Suv_3 ∧ upN Sr ms k0 = Srv_4) from ha_4)⟩, by rw [ht]; exact hP, va_K.moved hW.alike hK, hD⟩, hS.F ht⟩) hS.2.2 d_Stm_addSet_7
set_option maxHeartbeats 4000000 in
set_option maxRecDepth 100000 in
theorem c_Stm_addWhen (l : Launch) (dC : Nat → ClassId) (dI : Nat → Nat → Nat) (cI cZ : ClassId) (a_stm a_sort a_subject a_source a_elseSeen : Nat) (tt sz : Nat) (ms : Nat) (ow : Nat) (So : Nat → Nat) (Su : Nat → Nat) (Sr : Nat → Nat) (Es : Nat → Nat) (j0 : Nat) (b_ms : ms ≤ 20) (b_ow : ow ≤ 4) (b_So : ∀ j, So j < 4) (b_Su : ∀ j, Su j < 14) (b_Sr : ∀ j, Sr j < 14) (b_Es : ∀ j, Es j < 2) (hj : j0 < 14) : Met l y_Stm_addWhen w_Stm_addWhen ({ frames := 1, cells := 0, slots := 0, locals := 23 }) (va_Pc [.ref a_stm, .int (nI j0)] (PW (dC, dI) classes [(cI, .int), (cZ, .boolean)] tt [(a_stm, .inr (2, [.ref a_sort, .ref a_subject, .ref a_source, .int (nI ms), .int (nI ow), .ref a_elseSeen])), (a_sort, .inl (cI, 20, .inl (nF So))), (a_subject, .inl (cI, 20, .inl (nF Su))), (a_source, .inl (cI, 20, .inl (nF Sr))), (a_elseSeen, .inl (cZ, 4, .inl (nF Es)))] sz)) (va_Qi (fun (r : Int32) (u : Nat × Nat × (Nat → Nat) × (Nat → Nat) × (Nat → Nat) × (Nat → Nat)) => (u.1 ≤ 20) ∧ (u.2.1 ≤ 4) ∧ (∀ j, u.2.2.1 j < 4) ∧ (∀ j, u.2.2.2.1 j < 14) ∧ (∀ j, u.2.2.2.2.1 j < 14) ∧ (∀ j, u.2.2.2.2.2 j < 2) ∧ (((ow = 4 ∨ ms = 20) ∧ (-3) = r ∧ ms = u.1 ∧ So = u.2.2.1 ∧ Su = u.2.2.2.1 ∧ Sr = u.2.2.2.2.1 ∧ ow = u.2.1 ∧ Es = u.2.2.2.2.2) ∨ (ow < 4 ∧ ms < 20 ∧ nI (ms + 1) = r ∧ ms + 1 = u.1 ∧ upN So ms 1 = u.2.2.1 ∧ upN Su ms j0 = u.2.2.2.1 ∧ upN Sr ms 0 = u.2.2.2.2.1 ∧ ow + 1 = u.2.1 ∧ upN Es ow 0 = u.2.2.2.2.2))) (AT (dC, dI) classes [(cI, .int), (cZ, .boolean)] (va_A [(a_stm, .inr (2, [.ref a_sort, .ref a_subject, .ref a_source, .int (nI ms), .int (nI ow), .ref a_elseSeen])), (a_sort, .inl (cI, 20, .inl (nF So))), (a_subject, .inl (cI, 20, .inl (nF Su))), (a_source, .inl (cI, 20, .inl (nF Sr))), (a_elseSeen, .inl (cZ, 4, .inl (nF Es)))] sz) (fun (u : Nat × Nat × (Nat → Nat) × (Nat → Nat) × (Nat → Nat) × (Nat → Nat)) => [(a_stm, .inr (2, [.ref a_sort, .ref a_subject, .ref a_source, .int (nI u.1), .int (nI u.2.1), .ref a_elseSeen])), (a_sort, .inl (cI, 20, .inl (nF u.2.2.1))), (a_subject, .inl (cI, 20, .inl (nF u.2.2.2.1))), (a_source, .inl (cI, 20, .inl (nF u.2.2.2.2.1))), (a_elseSeen, .inl (cZ, 4, .inl (nF u.2.2.2.2.2)))])) (va_A [(a_stm, .inr (2, [.ref a_sort, .ref a_subject, .ref a_source, .int (nI ms), .int (nI ow), .ref a_elseSeen])), (a_sort, .inl (cI, 20, .inl (nF So))), (a_subject, .inl (cI, 20, .inl (nF Su))), (a_source, .inl (cI, 20, .inl (nF Sr))), (a_elseSeen, .inl (cZ, 4, .inl (nF Es)))] sz)) 0 0 (va_A [(a_stm, .inr (2, [.ref a_sort, .ref a_subject, .ref a_source, .int (nI ms), .int (nI ow), .ref a_elseSeen])), (a_sort, .inl (cI, 20, .inl (nF So))), (a_subject, .inl (cI, 20, .inl (nF Su))), (a_source, .inl (cI, 20, .inl (nF Sr))), (a_elseSeen, .inl (cZ, 4, .inl (nF Es)))] sz) := by
  refine Met.ofW (cc := b_Stm_addWhen) (maxL := 3) (ret := (some .int)) (by decide) rfl ?_
  intro p e s m args below meth c s₁ B hml hv
  obtain ⟨rfl, hsz, hP, hK, hD0, hE⟩ := hv
  have hx := B.exec
  have hb := B.bytes
  have hr := B.returns
  have hts := atoms_spec (ws := w_Stm_addWhen) B.pre
  have hown : s.vm.findClass R_Stm = some m.cls := findClass_of_methodNamed B.named
  have hlocks := B.notSynchronized
  subst hsz
  have hD := hD0.self (sz := s.heap.size)
  generalize hAe : va_A [(a_stm, .inr (2, [.ref a_sort, .ref a_subject, .ref a_source, .int (nI ms), .int (nI ow), .ref a_elseSeen])), (a_sort, .inl (cI, 20, .inl (nF So))), (a_subject, .inl (cI, 20, .inl (nF Su))), (a_source, .inl (cI, 20, .inl (nF Sr))), (a_elseSeen, .inl (cZ, 4, .inl (nF Es)))] s.heap.size = A at hD hE ⊢
  have hA : ∀ q : Nat, s.heap.size ≤ q → A q := fun q h => by rw [← hAe]; exact Or.inr h
  have hS : va_S A s.heap s.heap [] := va_S.rf
  have hP : va_P (dC, dI) classes [(a_stm, .inr (2, [.ref a_sort, .ref a_subject, .ref a_source, .int (nI ms), .int (nI ow), .ref a_elseSeen])), (a_sort, .inl (cI, 20, .inl (nF So))), (a_subject, .inl (cI, 20, .inl (nF Su))), (a_source, .inl (cI, 20, .inl (nF Sr))), (a_elseSeen, .inl (cZ, 4, .inl (nF Es)))] s.heap := hP
  have hl := lv_entry ([.ref a_stm, .int (nI j0)]) (n := 3) (Nat.le_of_ble_eq_true rfl)
  rw [lg_entry_eq]
  generalize (lg_sl ([.ref a_stm, .int (nI j0)]) ++ List.replicate (3 - (lg_sl ([.ref a_stm, .int (nI j0)])).length) Slot.unset).toArray = ls at hl ⊢
  have hl : lv_has ls 3 [(0, .ref a_stm), (1, .int (nI j0))] := hl
  refine lv_aload_n hx hb d_Stm_addWhen_0 rfl (lv_at hl 0 rfl) ?_
  refine va_get (D := (dC, dI)) (ci := 2) (v := .int (nI ow)) (C := R_Stm) (T := F_Stm) (N := 6) hx hb hts (wi i_Stm) hown hK hP 0 rfl rfl 4 (by decide) (hts _ (mt 124 rfl rfl)) (fun _ h9 => h9) rfl d_Stm_addWhen_1 ?_
  refine lv_iconst (v := nI 4) hx hb d_Stm_addWhen_4 rfl ?_
  refine lv_icmp_ne (tgt := 11) hx hb d_Stm_addWhen_5 (by decide) (fun c5 => ?_) (fun c5 => ?_)
  · skip
    have c5 : ¬ (ow = 4) := fun h => c5 ((nI_eq (by omega) (by omega)).mpr h)
    refine lv_aload_n hx hb d_Stm_addWhen_11 rfl (lv_at hl 0 rfl) ?_
    refine lv_iconst (v := nI 1) hx hb d_Stm_addWhen_12 rfl ?_
    refine lv_iload_n hx hb d_Stm_addWhen_13 rfl (lv_at hl 1 rfl) ?_
    refine lv_iconst (v := nI 0) hx hb d_Stm_addWhen_14 rfl ?_
    refine k_i (wr := [(a_elseSeen, .inl (cZ, 4, .inl (nF Es)))]) (w2 := fun (u : Nat × (Nat → Nat) × (Nat → Nat) × (Nat → Nat)) => [(a_stm, .inr (2, [.ref a_sort, .ref a_subject, .ref a_source, .int (nI u.1), .int (nI ow), .ref a_elseSeen])), (a_sort, .inl (cI, 20, .inl (nF u.2.1))), (a_subject, .inl (cI, 20, .inl (nF u.2.2.1))), (a_source, .inl (cI, 20, .inl (nF u.2.2.2))), (a_elseSeen, .inl (cZ, 4, .inl (nF Es)))]) (va_runV (As := [.int (nI 1), .int (nI j0), .int (nI 0)]) (rest := []) ⟨hx, hb, hml, hown, hts⟩ (c_Stm_add l dC dI cI cZ a_stm a_sort a_subject a_source a_elseSeen tt s.heap.size ms ow So Su Sr 1 j0 0 (by omega) (by omega) b_So b_Su b_Sr (by omega) (by omega) (by omega)) (cwV 3 hts (gd_V in_tl (mw 331 rfl rfl) (mw 333 rfl rfl) (mw 2 rfl rfl) (mw 43 rfl rfl) (mw 334 rfl rfl)) rfl rfl rfl (by decide +kernel) ⟨Nat.le_of_ble_eq_true rfl, Nat.le_of_ble_eq_true rfl⟩) (k_preV hK hP hD hS hA hE [0, 1, 2, 3] (by decide) rfl 2 0 rfl rfl) rfl rfl hl.1 rfl (lv_room (Nat.le_of_ble_eq_true rfl)) d_Stm_addWhen_15 ⟨Nat.zero_le _, Nat.zero_le _⟩) hP hD hS hA [0, 1, 2, 3] [4] [1, 2, 3, 4, 0] rfl rfl (by decide) (by decide) (by decide) (fun _ => rfl) (fun r_5 u H locs hw hP hD hS => ?_)
    obtain ⟨msv_1, Sov_2, Suv_3, Srv_4⟩ := u
    obtain ⟨b_msv_1, b_Sov_2, b_Suv_3, b_Srv_4, ha_15⟩ : (msv_1 ≤ 20) ∧ (∀ j, Sov_2 j < 4) ∧ (∀ j, Suv_3 j < 14) ∧ (∀ j, Srv_4 j < 14) ∧ ((ms = 20 ∧ (-3) = r_5 ∧ ms = msv_1 ∧ So = Sov_2 ∧ Su = Suv_3 ∧ Sr = Srv_4) ∨ (ms < 20 ∧ nI (ms + 1) = r_5 ∧ ms + 1 = msv_1 ∧ upN So ms 1 = Sov_2 ∧ upN Su ms j0 = Suv_3 ∧ upN Sr ms 0 = Srv_4)) := hw
    have hP : va_P (dC, dI) classes [(a_stm, .inr (2, [.ref a_sort, .ref a_subject, .ref a_source, .int (nI msv_1), .int (nI ow), .ref a_elseSeen])), (a_sort, .inl (cI, 20, .inl (nF Sov_2))), (a_subject, .inl (cI, 20, .inl (nF Suv_3))), (a_source, .inl (cI, 20, .inl (nF Srv_4))), (a_elseSeen, .inl (cZ, 4, .inl (nF Es)))] H := hP
    have hD : va_D A [(a_stm, .inr (2, [.ref a_sort, .ref a_subject, .ref a_source, .int (nI msv_1), .int (nI ow), .ref a_elseSeen])), (a_sort, .inl (cI, 20, .inl (nF Sov_2))), (a_subject, .inl (cI, 20, .inl (nF Suv_3))), (a_source, .inl (cI, 20, .inl (nF Srv_4))), (a_elseSeen, .inl (cZ, 4, .inl (nF Es)))] := hD
    rcases ha_15 with ⟨h20, hr3, q1, q2, q3, q4⟩ | ⟨h20, hr3, q1, q2, q3, q4⟩ <;> subst hr3 <;> subst q1 <;> subst q2 <;> subst q3 <;> subst q4
    · skip
      have hP : va_P (dC, dI) classes [(a_stm, .inr (2, [.ref a_sort, .ref a_subject, .ref a_source, .int (nI ms), .int (nI ow), .ref a_elseSeen])), (a_sort, .inl (cI, 20, .inl (nF So))), (a_subject, .inl (cI, 20, .inl (nF Su))), (a_source, .inl (cI, 20, .inl (nF Sr))), (a_elseSeen, .inl (cZ, 4, .inl (nF Es)))] H := hP
      have hD : va_D A [(a_stm, .inr (2, [.ref a_sort, .ref a_subject, .ref a_source, .int (nI ms), .int (nI ow), .ref a_elseSeen])), (a_sort, .inl (cI, 20, .inl (nF So))), (a_subject, .inl (cI, 20, .inl (nF Su))), (a_source, .inl (cI, 20, .inl (nF Sr))), (a_elseSeen, .inl (cZ, 4, .inl (nF Es)))] := hD
      refine lv_istore_n (lv' := [(2, .int (-3 : Int32)), (0, .ref a_stm), (1, .int (nI j0))]) hx hb d_Stm_addWhen_18 rfl hl (by decide) rfl (fun ls hl => ?_)
      refine lv_iload_n hx hb d_Stm_addWhen_19 rfl (lv_at hl 0 rfl) ?_
      refine lv_if_lt (tgt := 43) hx hb d_Stm_addWhen_20 (by decide) (fun c20 => ?_) (fun c20 => ?_)
      · skip
        have c20 : (-3 : Int32).toInt < 0 := (ri_lt rfl rfl).mp c20
        refine lv_iload_n hx hb d_Stm_addWhen_43 rfl (lv_at hl 0 rfl) ?_
        exact W.iret (v := (-3 : Int32)) hx hb hr (fun t ht hW => ⟨⟨(-3 : Int32), (ms, ow, So, Su, Sr, Es), rfl, ⟨(show ms ≤ 20 from by omega), (show ow ≤ 4 from by omega), b_Sov_2, b_Suv_3, b_Srv_4, b_Es, (show ((ow = 4 ∨ ms = 20) ∧ (-3) = (-3 : Int32) ∧ ms = ms ∧ So = So ∧ Su = Su ∧ Sr = Sr ∧ ow = ow ∧ Es = Es) ∨ (ow < 4 ∧ ms < 20 ∧ nI (ms + 1) = (-3 : Int32) ∧ ms + 1 = ms ∧ upN So ms 1 = So ∧ upN Su ms j0 = Su ∧ upN Sr ms 0 = Sr ∧ ow + 1 = ow ∧ upN Es ow 0 = Es) from (Or.inl ⟨Or.inr h20, rfl, rfl, rfl, rfl, rfl, rfl, rfl⟩))⟩, by rw [ht]; exact hP, va_K.moved hW.alike hK, hD⟩, hS.F ht⟩) hS.2.2 d_Stm_addWhen_44
      · skip
        have c20 : ¬ ((-3 : Int32).toInt < 0) := fun h => c20 ((ri_lt rfl rfl).mpr h)
        exact absurd c20 (by decide)
    · skip
      have hP : va_P (dC, dI) classes [(a_stm, .inr (2, [.ref a_sort, .ref a_subject, .ref a_source, .int (nI (ms + 1)), .int (nI ow), .ref a_elseSeen])), (a_sort, .inl (cI, 20, .inl (nF (upN So ms 1)))), (a_subject, .inl (cI, 20, .inl (nF (upN Su ms j0)))), (a_source, .inl (cI, 20, .inl (nF (upN Sr ms 0)))), (a_elseSeen, .inl (cZ, 4, .inl (nF Es)))] H := hP
      have hD : va_D A [(a_stm, .inr (2, [.ref a_sort, .ref a_subject, .ref a_source, .int (nI (ms + 1)), .int (nI ow), .ref a_elseSeen])), (a_sort, .inl (cI, 20, .inl (nF (upN So ms 1)))), (a_subject, .inl (cI, 20, .inl (nF (upN Su ms j0)))), (a_source, .inl (cI, 20, .inl (nF (upN Sr ms 0)))), (a_elseSeen, .inl (cZ, 4, .inl (nF Es)))] := hD
      refine lv_istore_n (lv' := [(2, .int (nI (ms + 1))), (0, .ref a_stm), (1, .int (nI j0))]) hx hb d_Stm_addWhen_18 rfl hl (by decide) rfl (fun ls hl => ?_)
      refine lv_iload_n hx hb d_Stm_addWhen_19 rfl (lv_at hl 0 rfl) ?_
      refine lv_if_lt (tgt := 43) hx hb d_Stm_addWhen_20 (by decide) (fun c20 => ?_) (fun c20 => ?_)
      · skip
        have c20 : False := (nI_lt0 (by omega)).mp c20
        exact absurd c20 (fun h => h)
      · skip
        have c20 : ¬ (False) := fun h => c20 ((nI_lt0 (by omega)).mpr h)
        refine lv_aload_n hx hb d_Stm_addWhen_23 rfl (lv_at hl 1 rfl) ?_
        refine va_get (D := (dC, dI)) (ci := 2) (v := .ref a_elseSeen) (C := R_Stm) (T := F_Stm) (N := 6) hx hb hts (wi i_Stm) hown hK hP 0 rfl rfl 5 (by decide) (hts _ (mt 126 rfl rfl)) (fun _ h9 => h9) rfl d_Stm_addWhen_24 ?_
        refine lv_aload_n hx hb d_Stm_addWhen_27 rfl (lv_at hl 1 rfl) ?_
        refine va_get (D := (dC, dI)) (ci := 2) (v := .int (nI ow)) (C := R_Stm) (T := F_Stm) (N := 6) hx hb hts (wi i_Stm) hown hK hP 0 rfl rfl 4 (by decide) (hts _ (mt 124 rfl rfl)) (fun _ h9 => h9) rfl d_Stm_addWhen_28 ?_
        refine lv_iconst (v := nI 0) hx hb d_Stm_addWhen_31 rfl ?_
        refine k_zst hx hb hK hP hD hS 4 1 rfl rfl (by omega) (by decide) (by omega) d_Stm_addWhen_32 (fun H locs hP hD hS => ?_)
        have bb_6 : ∀ j, upN Es ow 0 j < 2 := upN_lt b_Es (by omega)
        have hP : va_P (dC, dI) classes [(a_stm, .inr (2, [.ref a_sort, .ref a_subject, .ref a_source, .int (nI (ms + 1)), .int (nI ow), .ref a_elseSeen])), (a_sort, .inl (cI, 20, .inl (nF (upN So ms 1)))), (a_subject, .inl (cI, 20, .inl (nF (upN Su ms j0)))), (a_source, .inl (cI, 20, .inl (nF (upN Sr ms 0)))), (a_elseSeen, .inl (cZ, 4, .inl (nF (upN Es ow 0))))] H := hP
        have hD : va_D A [(a_stm, .inr (2, [.ref a_sort, .ref a_subject, .ref a_source, .int (nI (ms + 1)), .int (nI ow), .ref a_elseSeen])), (a_sort, .inl (cI, 20, .inl (nF (upN So ms 1)))), (a_subject, .inl (cI, 20, .inl (nF (upN Su ms j0)))), (a_source, .inl (cI, 20, .inl (nF (upN Sr ms 0)))), (a_elseSeen, .inl (cZ, 4, .inl (nF (upN Es ow 0))))] := hD
        refine lv_aload_n hx hb d_Stm_addWhen_33 rfl (lv_at hl 1 rfl) ?_
        refine lv_dup hx hb d_Stm_addWhen_34 rfl ?_
        refine va_get (D := (dC, dI)) (ci := 2) (v := .int (nI ow)) (C := R_Stm) (T := F_Stm) (N := 6) hx hb hts (wi i_Stm) hown hK hP 0 rfl rfl 4 (by decide) (hts _ (mt 124 rfl rfl)) (fun _ h9 => h9) rfl d_Stm_addWhen_35 ?_
        refine lv_iconst (v := nI 1) hx hb d_Stm_addWhen_38 rfl ?_
        refine lv_iadd hx hb d_Stm_addWhen_39 ?_
        refine k_top (nI_add _ _) ?_
        refine va_put (D := (dC, dI)) (ci := 2) (v := .int (nI (ow + 1))) (ty := .int) (C := R_Stm) (T := F_Stm) (N := 6) hx hb hts (wi i_Stm) t_Stm t_Stm_ok n_Stm hown hK hP hD hS 0 rfl rfl 4 (by decide) (hts _ (mt 124 rfl rfl)) (fun _ h9 => h9) rfl (by decide +kernel) rfl rfl (Nat.le_of_ble_eq_true rfl) d_Stm_addWhen_40 (fun H locs hP hD hS => ?_)
        have hP : va_P (dC, dI) classes [(a_stm, .inr (2, [.ref a_sort, .ref a_subject, .ref a_source, .int (nI (ms + 1)), .int (nI (ow + 1)), .ref a_elseSeen])), (a_sort, .inl (cI, 20, .inl (nF (upN So ms 1)))), (a_subject, .inl (cI, 20, .inl (nF (upN Su ms j0)))), (a_source, .inl (cI, 20, .inl (nF (upN Sr ms 0)))), (a_elseSeen, .inl (cZ, 4, .inl (nF (upN Es ow 0))))] H := hP
        have hD : va_D A [(a_stm, .inr (2, [.ref a_sort, .ref a_subject, .ref a_source, .int (nI (ms + 1)), .int (nI (ow + 1)), .ref a_elseSeen])), (a_sort, .inl (cI, 20, .inl (nF (upN So ms 1)))), (a_subject, .inl (cI, 20, .inl (nF (upN Su ms j0)))), (a_source, .inl (cI, 20, .inl (nF (upN Sr ms 0)))), (a_elseSeen, .inl (cZ, 4, .inl (nF (upN Es ow 0))))] := hD
        refine lv_iload_n hx hb d_Stm_addWhen_43 rfl (lv_at hl 0 rfl) ?_
        exact W.iret (v := nI (ms + 1)) hx hb hr (fun t ht hW => ⟨⟨nI (ms + 1), (ms + 1, ow + 1, upN So ms 1, upN Su ms j0, upN Sr ms 0, upN Es ow 0), rfl, ⟨(show (ms + 1) ≤ 20 from by omega), (show (ow + 1) ≤ 4 from by omega), b_Sov_2, b_Suv_3, b_Srv_4, bb_6, (show ((ow = 4 ∨ ms = 20) ∧ (-3) = (nI (ms + 1)) ∧ ms = (ms + 1) ∧ So = (upN So ms 1) ∧ Su = (upN Su ms j0) ∧ Sr = (upN Sr ms 0) ∧ ow = (ow + 1) ∧ Es = (upN Es ow 0)) ∨ (ow < 4 ∧ ms < 20 ∧ nI (ms + 1) = (nI (ms + 1)) ∧ ms + 1 = (ms + 1) ∧ upN So ms 1 = (upN So ms 1) ∧ upN Su ms j0 = (upN Su ms j0) ∧ upN Sr ms 0 = (upN Sr ms 0) ∧ ow + 1 = (ow + 1) ∧ upN Es ow 0 = (upN Es ow 0)) from (Or.inr ⟨by omega, h20, rfl, rfl, rfl, rfl, rfl, rfl, rfl⟩))⟩, by rw [ht]; exact hP, va_K.moved hW.alike hK, hD⟩, hS.F ht⟩) hS.2.2 d_Stm_addWhen_44
  · skip
    have c5 : ow = 4 := (nI_eq (by omega) (by omega)).mp c5
    refine lv_bipush (v := (-3 : Int32)) hx hb d_Stm_addWhen_8 rfl ?_
    exact W.iret (v := (-3 : Int32)) hx hb hr (fun t ht hW => ⟨⟨(-3 : Int32), (ms, ow, So, Su, Sr, Es), rfl, ⟨(show ms ≤ 20 from by omega), (show ow ≤ 4 from by omega), b_So, b_Su, b_Sr, b_Es, (show ((ow = 4 ∨ ms = 20) ∧ (-3) = (-3 : Int32) ∧ ms = ms ∧ So = So ∧ Su = Su ∧ Sr = Sr ∧ ow = ow ∧ Es = Es) ∨ (ow < 4 ∧ ms < 20 ∧ nI (ms + 1) = (-3 : Int32) ∧ ms + 1 = ms ∧ upN So ms 1 = So ∧ upN Su ms j0 = Su ∧ upN Sr ms 0 = Sr ∧ ow + 1 = ow ∧ upN Es ow 0 = Es) from (Or.inl ⟨Or.inl c5, rfl, rfl, rfl, rfl, rfl, rfl, rfl⟩))⟩, by rw [ht]; exact hP, va_K.moved hW.alike hK, hD⟩, hS.F ht⟩) hS.2.2 d_Stm_addWhen_10
set_option maxHeartbeats 4000000 in
set_option maxRecDepth 100000 in
theorem c_Stm_addElse (l : Launch) (dC : Nat → ClassId) (dI : Nat → Nat → Nat) (cI cZ : ClassId) (a_stm a_sort a_subject a_source a_elseSeen : Nat) (tt sz : Nat) (ms : Nat) (ow : Nat) (So : Nat → Nat) (Su : Nat → Nat) (Sr : Nat → Nat) (Es : Nat → Nat) (b_ms : ms ≤ 20) (b_ow : ow ≤ 4) (b_So : ∀ j, So j < 4) (b_Su : ∀ j, Su j < 14) (b_Sr : ∀ j, Sr j < 14) (b_Es : ∀ j, Es j < 2) : Met l y_Stm_addElse w_Stm_addElse ({ frames := 1, cells := 0, slots := 0, locals := 23 }) (va_Pc [.ref a_stm] (PW (dC, dI) classes [(cI, .int), (cZ, .boolean)] tt [(a_stm, .inr (2, [.ref a_sort, .ref a_subject, .ref a_source, .int (nI ms), .int (nI ow), .ref a_elseSeen])), (a_sort, .inl (cI, 20, .inl (nF So))), (a_subject, .inl (cI, 20, .inl (nF Su))), (a_source, .inl (cI, 20, .inl (nF Sr))), (a_elseSeen, .inl (cZ, 4, .inl (nF Es)))] sz)) (va_Qi (fun (r : Int32) (u : Nat × (Nat → Nat) × (Nat → Nat) × (Nat → Nat) × (Nat → Nat)) => (u.1 ≤ 20) ∧ (∀ j, u.2.1 j < 4) ∧ (∀ j, u.2.2.1 j < 14) ∧ (∀ j, u.2.2.2.1 j < 14) ∧ (∀ j, u.2.2.2.2 j < 2) ∧ (((ow = 0 ∨ ¬ Es (ow - 1) = 0) ∧ (-2) = r ∧ ms = u.1 ∧ So = u.2.1 ∧ Su = u.2.2.1 ∧ Sr = u.2.2.2.1 ∧ Es = u.2.2.2.2) ∨ (0 < ow ∧ Es (ow - 1) = 0 ∧ ((ms = 20 ∧ (-3) = r ∧ ms = u.1 ∧ So = u.2.1 ∧ Su = u.2.2.1 ∧ Sr = u.2.2.2.1 ∧ Es = u.2.2.2.2) ∨ (ms < 20 ∧ nI (ms + 1) = r ∧ ms + 1 = u.1 ∧ upN So ms 2 = u.2.1 ∧ upN Su ms 0 = u.2.2.1 ∧ upN Sr ms 0 = u.2.2.2.1 ∧ upN Es (ow - 1) 1 = u.2.2.2.2))))) (AT (dC, dI) classes [(cI, .int), (cZ, .boolean)] (va_A [(a_stm, .inr (2, [.ref a_sort, .ref a_subject, .ref a_source, .int (nI ms), .int (nI ow), .ref a_elseSeen])), (a_sort, .inl (cI, 20, .inl (nF So))), (a_subject, .inl (cI, 20, .inl (nF Su))), (a_source, .inl (cI, 20, .inl (nF Sr))), (a_elseSeen, .inl (cZ, 4, .inl (nF Es)))] sz) (fun (u : Nat × (Nat → Nat) × (Nat → Nat) × (Nat → Nat) × (Nat → Nat)) => [(a_stm, .inr (2, [.ref a_sort, .ref a_subject, .ref a_source, .int (nI u.1), .int (nI ow), .ref a_elseSeen])), (a_sort, .inl (cI, 20, .inl (nF u.2.1))), (a_subject, .inl (cI, 20, .inl (nF u.2.2.1))), (a_source, .inl (cI, 20, .inl (nF u.2.2.2.1))), (a_elseSeen, .inl (cZ, 4, .inl (nF u.2.2.2.2)))])) (va_A [(a_stm, .inr (2, [.ref a_sort, .ref a_subject, .ref a_source, .int (nI ms), .int (nI ow), .ref a_elseSeen])), (a_sort, .inl (cI, 20, .inl (nF So))), (a_subject, .inl (cI, 20, .inl (nF Su))), (a_source, .inl (cI, 20, .inl (nF Sr))), (a_elseSeen, .inl (cZ, 4, .inl (nF Es)))] sz)) 0 0 (va_A [(a_stm, .inr (2, [.ref a_sort, .ref a_subject, .ref a_source, .int (nI ms), .int (nI ow), .ref a_elseSeen])), (a_sort, .inl (cI, 20, .inl (nF So))), (a_subject, .inl (cI, 20, .inl (nF Su))), (a_source, .inl (cI, 20, .inl (nF Sr))), (a_elseSeen, .inl (cZ, 4, .inl (nF Es)))] sz) := by
  refine Met.ofW (cc := b_Stm_addElse) (maxL := 2) (ret := (some .int)) (by decide) rfl ?_
  intro p e s m args below meth c s₁ B hml hv
  obtain ⟨rfl, hsz, hP, hK, hD0, hE⟩ := hv
  have hx := B.exec
  have hb := B.bytes
  have hr := B.returns
  have hts := atoms_spec (ws := w_Stm_addElse) B.pre
  have hown : s.vm.findClass R_Stm = some m.cls := findClass_of_methodNamed B.named
  have hlocks := B.notSynchronized
  subst hsz
  have hD := hD0.self (sz := s.heap.size)
  generalize hAe : va_A [(a_stm, .inr (2, [.ref a_sort, .ref a_subject, .ref a_source, .int (nI ms), .int (nI ow), .ref a_elseSeen])), (a_sort, .inl (cI, 20, .inl (nF So))), (a_subject, .inl (cI, 20, .inl (nF Su))), (a_source, .inl (cI, 20, .inl (nF Sr))), (a_elseSeen, .inl (cZ, 4, .inl (nF Es)))] s.heap.size = A at hD hE ⊢
  have hA : ∀ q : Nat, s.heap.size ≤ q → A q := fun q h => by rw [← hAe]; exact Or.inr h
  have hS : va_S A s.heap s.heap [] := va_S.rf
  have hP : va_P (dC, dI) classes [(a_stm, .inr (2, [.ref a_sort, .ref a_subject, .ref a_source, .int (nI ms), .int (nI ow), .ref a_elseSeen])), (a_sort, .inl (cI, 20, .inl (nF So))), (a_subject, .inl (cI, 20, .inl (nF Su))), (a_source, .inl (cI, 20, .inl (nF Sr))), (a_elseSeen, .inl (cZ, 4, .inl (nF Es)))] s.heap := hP
  have hl := lv_entry ([.ref a_stm]) (n := 2) (Nat.le_of_ble_eq_true rfl)
  rw [lg_entry_eq]
  generalize (lg_sl ([.ref a_stm]) ++ List.replicate (2 - (lg_sl ([.ref a_stm])).length) Slot.unset).toArray = ls at hl ⊢
  have hl : lv_has ls 2 [(0, .ref a_stm)] := hl
  refine lv_aload_n hx hb d_Stm_addElse_0 rfl (lv_at hl 0 rfl) ?_
  refine va_get (D := (dC, dI)) (ci := 2) (v := .int (nI ow)) (C := R_Stm) (T := F_Stm) (N := 6) hx hb hts (wi i_Stm) hown hK hP 0 rfl rfl 4 (by decide) (hts _ (mt 124 rfl rfl)) (fun _ h9 => h9) rfl d_Stm_addElse_1 ?_
  refine lv_if_eq (tgt := 21) hx hb d_Stm_addElse_4 (by decide) (fun c4 => ?_) (fun c4 => ?_)
  · skip
    have c4 : ow = 0 := (nI_eq0 (by omega)).mp c4
    have hz : ow = 0 ∨ ¬ Es (ow - 1) = 0 := by omega
    refine lv_bipush (v := (-2 : Int32)) hx hb d_Stm_addElse_21 rfl ?_
    exact W.iret (v := (-2 : Int32)) hx hb hr (fun t ht hW => ⟨⟨(-2 : Int32), (ms, So, Su, Sr, Es), rfl, ⟨(show ms ≤ 20 from by omega), b_So, b_Su, b_Sr, b_Es, (show ((ow = 0 ∨ ¬ Es (ow - 1) = 0) ∧ (-2) = (-2 : Int32) ∧ ms = ms ∧ So = So ∧ Su = Su ∧ Sr = Sr ∧ Es = Es) ∨ (0 < ow ∧ Es (ow - 1) = 0 ∧ ((ms = 20 ∧ (-3) = (-2 : Int32) ∧ ms = ms ∧ So = So ∧ Su = Su ∧ Sr = Sr ∧ Es = Es) ∨ (ms < 20 ∧ nI (ms + 1) = (-2 : Int32) ∧ ms + 1 = ms ∧ upN So ms 2 = So ∧ upN Su ms 0 = Su ∧ upN Sr ms 0 = Sr ∧ upN Es (ow - 1) 1 = Es))) from (Or.inl ⟨hz, rfl, rfl, rfl, rfl, rfl, rfl⟩))⟩, by rw [ht]; exact hP, va_K.moved hW.alike hK, hD⟩, hS.F ht⟩) hS.2.2 d_Stm_addElse_23
  · skip
    have c4 : ¬ (ow = 0) := fun h => c4 ((nI_eq0 (by omega)).mpr h)
    refine lv_aload_n hx hb d_Stm_addElse_7 rfl (lv_at hl 0 rfl) ?_
    refine va_get (D := (dC, dI)) (ci := 2) (v := .ref a_elseSeen) (C := R_Stm) (T := F_Stm) (N := 6) hx hb hts (wi i_Stm) hown hK hP 0 rfl rfl 5 (by decide) (hts _ (mt 126 rfl rfl)) (fun _ h9 => h9) rfl d_Stm_addElse_8 ?_
    refine lv_aload_n hx hb d_Stm_addElse_11 rfl (lv_at hl 0 rfl) ?_
    refine va_get (D := (dC, dI)) (ci := 2) (v := .int (nI ow)) (C := R_Stm) (T := F_Stm) (N := 6) hx hb hts (wi i_Stm) hown hK hP 0 rfl rfl 4 (by decide) (hts _ (mt 124 rfl rfl)) (fun _ h9 => h9) rfl d_Stm_addElse_12 ?_
    refine lv_iconst (v := nI 1) hx hb d_Stm_addElse_15 rfl ?_
    refine lv_isub hx hb d_Stm_addElse_16 ?_
    refine k_top (pk_sub (by omega)) ?_
    refine k_zld hx hb hK hP 4 1 rfl rfl (by omega) (by decide) d_Stm_addElse_17 ?_
    have hb_1 := b_Es (ow - 1)
    refine lv_if_eq (tgt := 24) hx hb d_Stm_addElse_18 (by decide) (fun c18 => ?_) (fun c18 => ?_)
    · skip
      have c18 : (Es (ow - 1)) = 0 := (nI_eq0 (by omega)).mp c18
      refine lv_aload_n hx hb d_Stm_addElse_24 rfl (lv_at hl 0 rfl) ?_
      refine lv_iconst (v := nI 2) hx hb d_Stm_addElse_25 rfl ?_
      refine lv_iconst (v := nI 0) hx hb d_Stm_addElse_26 rfl ?_
      refine lv_iconst (v := nI 0) hx hb d_Stm_addElse_27 rfl ?_
      refine k_i (wr := [(a_elseSeen, .inl (cZ, 4, .inl (nF Es)))]) (w2 := fun (u : Nat × (Nat → Nat) × (Nat → Nat) × (Nat → Nat)) => [(a_stm, .inr (2, [.ref a_sort, .ref a_subject, .ref a_source, .int (nI u.1), .int (nI ow), .ref a_elseSeen])), (a_sort, .inl (cI, 20, .inl (nF u.2.1))), (a_subject, .inl (cI, 20, .inl (nF u.2.2.1))), (a_source, .inl (cI, 20, .inl (nF u.2.2.2))), (a_elseSeen, .inl (cZ, 4, .inl (nF Es)))]) (va_runV (As := [.int (nI 2), .int (nI 0), .int (nI 0)]) (rest := []) ⟨hx, hb, hml, hown, hts⟩ (c_Stm_add l dC dI cI cZ a_stm a_sort a_subject a_source a_elseSeen tt s.heap.size ms ow So Su Sr 2 0 0 (by omega) (by omega) b_So b_Su b_Sr (by omega) (by omega) (by omega)) (cwV 3 hts (gd_V in_tl (mw 331 rfl rfl) (mw 333 rfl rfl) (mw 2 rfl rfl) (mw 43 rfl rfl) (mw 334 rfl rfl)) rfl rfl rfl (by decide +kernel) ⟨Nat.le_of_ble_eq_true rfl, Nat.le_of_ble_eq_true rfl⟩) (k_preV hK hP hD hS hA hE [0, 1, 2, 3] (by decide) rfl 2 0 rfl rfl) rfl rfl hl.1 rfl (lv_room (Nat.le_of_ble_eq_true rfl)) d_Stm_addElse_28 ⟨Nat.zero_le _, Nat.zero_le _⟩) hP hD hS hA [0, 1, 2, 3] [4] [1, 2, 3, 4, 0] rfl rfl (by decide) (by decide) (by decide) (fun _ => rfl) (fun r_6 u H locs hw hP hD hS => ?_)
      obtain ⟨msv_2, Sov_3, Suv_4, Srv_5⟩ := u
      obtain ⟨b_msv_2, b_Sov_3, b_Suv_4, b_Srv_5, ha_28⟩ : (msv_2 ≤ 20) ∧ (∀ j, Sov_3 j < 4) ∧ (∀ j, Suv_4 j < 14) ∧ (∀ j, Srv_5 j < 14) ∧ ((ms = 20 ∧ (-3) = r_6 ∧ ms = msv_2 ∧ So = Sov_3 ∧ Su = Suv_4 ∧ Sr = Srv_5) ∨ (ms < 20 ∧ nI (ms + 1) = r_6 ∧ ms + 1 = msv_2 ∧ upN So ms 2 = Sov_3 ∧ upN Su ms 0 = Suv_4 ∧ upN Sr ms 0 = Srv_5)) := hw
      have hP : va_P (dC, dI) classes [(a_stm, .inr (2, [.ref a_sort, .ref a_subject, .ref a_source, .int (nI msv_2), .int (nI ow), .ref a_elseSeen])), (a_sort, .inl (cI, 20, .inl (nF Sov_3))), (a_subject, .inl (cI, 20, .inl (nF Suv_4))), (a_source, .inl (cI, 20, .inl (nF Srv_5))), (a_elseSeen, .inl (cZ, 4, .inl (nF Es)))] H := hP
      have hD : va_D A [(a_stm, .inr (2, [.ref a_sort, .ref a_subject, .ref a_source, .int (nI msv_2), .int (nI ow), .ref a_elseSeen])), (a_sort, .inl (cI, 20, .inl (nF Sov_3))), (a_subject, .inl (cI, 20, .inl (nF Suv_4))), (a_source, .inl (cI, 20, .inl (nF Srv_5))), (a_elseSeen, .inl (cZ, 4, .inl (nF Es)))] := hD
      rcases ha_28 with ⟨h20, hr3, q1, q2, q3, q4⟩ | ⟨h20, hr3, q1, q2, q3, q4⟩ <;> subst hr3 <;> subst q1 <;> subst q2 <;> subst q3 <;> subst q4
      · skip
        have hP : va_P (dC, dI) classes [(a_stm, .inr (2, [.ref a_sort, .ref a_subject, .ref a_source, .int (nI ms), .int (nI ow), .ref a_elseSeen])), (a_sort, .inl (cI, 20, .inl (nF So))), (a_subject, .inl (cI, 20, .inl (nF Su))), (a_source, .inl (cI, 20, .inl (nF Sr))), (a_elseSeen, .inl (cZ, 4, .inl (nF Es)))] H := hP
        have hD : va_D A [(a_stm, .inr (2, [.ref a_sort, .ref a_subject, .ref a_source, .int (nI ms), .int (nI ow), .ref a_elseSeen])), (a_sort, .inl (cI, 20, .inl (nF So))), (a_subject, .inl (cI, 20, .inl (nF Su))), (a_source, .inl (cI, 20, .inl (nF Sr))), (a_elseSeen, .inl (cZ, 4, .inl (nF Es)))] := hD
        refine lv_istore_n (lv' := [(1, .int (-3 : Int32)), (0, .ref a_stm)]) hx hb d_Stm_addElse_31 rfl hl (by decide) rfl (fun ls hl => ?_)
        refine lv_iload_n hx hb d_Stm_addElse_32 rfl (lv_at hl 0 rfl) ?_
        refine lv_if_lt (tgt := 48) hx hb d_Stm_addElse_33 (by decide) (fun c33 => ?_) (fun c33 => ?_)
        · skip
          have c33 : (-3 : Int32).toInt < 0 := (ri_lt rfl rfl).mp c33
          refine lv_iload_n hx hb d_Stm_addElse_48 rfl (lv_at hl 0 rfl) ?_
          exact W.iret (v := (-3 : Int32)) hx hb hr (fun t ht hW => ⟨⟨(-3 : Int32), (ms, So, Su, Sr, Es), rfl, ⟨(show ms ≤ 20 from by omega), b_Sov_3, b_Suv_4, b_Srv_5, b_Es, (show ((ow = 0 ∨ ¬ Es (ow - 1) = 0) ∧ (-2) = (-3 : Int32) ∧ ms = ms ∧ So = So ∧ Su = Su ∧ Sr = Sr ∧ Es = Es) ∨ (0 < ow ∧ Es (ow - 1) = 0 ∧ ((ms = 20 ∧ (-3) = (-3 : Int32) ∧ ms = ms ∧ So = So ∧ Su = Su ∧ Sr = Sr ∧ Es = Es) ∨ (ms < 20 ∧ nI (ms + 1) = (-3 : Int32) ∧ ms + 1 = ms ∧ upN So ms 2 = So ∧ upN Su ms 0 = Su ∧ upN Sr ms 0 = Sr ∧ upN Es (ow - 1) 1 = Es))) from (Or.inr ⟨by omega, c18, Or.inl ⟨h20, rfl, rfl, rfl, rfl, rfl, rfl⟩⟩))⟩, by rw [ht]; exact hP, va_K.moved hW.alike hK, hD⟩, hS.F ht⟩) hS.2.2 d_Stm_addElse_49
        · skip
          have c33 : ¬ ((-3 : Int32).toInt < 0) := fun h => c33 ((ri_lt rfl rfl).mpr h)
          exact absurd c33 (by decide)
      · skip
        have hP : va_P (dC, dI) classes [(a_stm, .inr (2, [.ref a_sort, .ref a_subject, .ref a_source, .int (nI (ms + 1)), .int (nI ow), .ref a_elseSeen])), (a_sort, .inl (cI, 20, .inl (nF (upN So ms 2)))), (a_subject, .inl (cI, 20, .inl (nF (upN Su ms 0)))), (a_source, .inl (cI, 20, .inl (nF (upN Sr ms 0)))), (a_elseSeen, .inl (cZ, 4, .inl (nF Es)))] H := hP
        have hD : va_D A [(a_stm, .inr (2, [.ref a_sort, .ref a_subject, .ref a_source, .int (nI (ms + 1)), .int (nI ow), .ref a_elseSeen])), (a_sort, .inl (cI, 20, .inl (nF (upN So ms 2)))), (a_subject, .inl (cI, 20, .inl (nF (upN Su ms 0)))), (a_source, .inl (cI, 20, .inl (nF (upN Sr ms 0)))), (a_elseSeen, .inl (cZ, 4, .inl (nF Es)))] := hD
        refine lv_istore_n (lv' := [(1, .int (nI (ms + 1))), (0, .ref a_stm)]) hx hb d_Stm_addElse_31 rfl hl (by decide) rfl (fun ls hl => ?_)
        refine lv_iload_n hx hb d_Stm_addElse_32 rfl (lv_at hl 0 rfl) ?_
        refine lv_if_lt (tgt := 48) hx hb d_Stm_addElse_33 (by decide) (fun c33 => ?_) (fun c33 => ?_)
        · skip
          have c33 : False := (nI_lt0 (by omega)).mp c33
          exact absurd c33 (fun h => h)
        · skip
          have c33 : ¬ (False) := fun h => c33 ((nI_lt0 (by omega)).mpr h)
          refine lv_aload_n hx hb d_Stm_addElse_36 rfl (lv_at hl 1 rfl) ?_
          refine va_get (D := (dC, dI)) (ci := 2) (v := .ref a_elseSeen) (C := R_Stm) (T := F_Stm) (N := 6) hx hb hts (wi i_Stm) hown hK hP 0 rfl rfl 5 (by decide) (hts _ (mt 126 rfl rfl)) (fun _ h9 => h9) rfl d_Stm_addElse_37 ?_
          refine lv_aload_n hx hb d_Stm_addElse_40 rfl (lv_at hl 1 rfl) ?_
          refine va_get (D := (dC, dI)) (ci := 2) (v := .int (nI ow)) (C := R_Stm) (T := F_Stm) (N := 6) hx hb hts (wi i_Stm) hown hK hP 0 rfl rfl 4 (by decide) (hts _ (mt 124 rfl rfl)) (fun _ h9 => h9) rfl d_Stm_addElse_41 ?_
          refine lv_iconst (v := nI 1) hx hb d_Stm_addElse_44 rfl ?_
          refine lv_isub hx hb d_Stm_addElse_45 ?_
          refine k_top (pk_sub (by omega)) ?_
          refine lv_iconst (v := nI 1) hx hb d_Stm_addElse_46 rfl ?_
          refine k_zst hx hb hK hP hD hS 4 1 rfl rfl (by omega) (by decide) (by omega) d_Stm_addElse_47 (fun H locs hP hD hS => ?_)
          have bb_7 : ∀ j, upN Es (ow - 1) 1 j < 2 := upN_lt b_Es (by omega)
          have hP : va_P (dC, dI) classes [(a_stm, .inr (2, [.ref a_sort, .ref a_subject, .ref a_source, .int (nI (ms + 1)), .int (nI ow), .ref a_elseSeen])), (a_sort, .inl (cI, 20, .inl (nF (upN So ms 2)))), (a_subject, .inl (cI, 20, .inl (nF (upN Su ms 0)))), (a_source, .inl (cI, 20, .inl (nF (upN Sr ms 0)))), (a_elseSeen, .inl (cZ, 4, .inl (nF (upN Es (ow - 1) 1))))] H := hP
          have hD : va_D A [(a_stm, .inr (2, [.ref a_sort, .ref a_subject, .ref a_source, .int (nI (ms + 1)), .int (nI ow), .ref a_elseSeen])), (a_sort, .inl (cI, 20, .inl (nF (upN So ms 2)))), (a_subject, .inl (cI, 20, .inl (nF (upN Su ms 0)))), (a_source, .inl (cI, 20, .inl (nF (upN Sr ms 0)))), (a_elseSeen, .inl (cZ, 4, .inl (nF (upN Es (ow - 1) 1))))] := hD
          refine lv_iload_n hx hb d_Stm_addElse_48 rfl (lv_at hl 0 rfl) ?_
          exact W.iret (v := nI (ms + 1)) hx hb hr (fun t ht hW => ⟨⟨nI (ms + 1), (ms + 1, upN So ms 2, upN Su ms 0, upN Sr ms 0, upN Es (ow - 1) 1), rfl, ⟨(show (ms + 1) ≤ 20 from by omega), b_Sov_3, b_Suv_4, b_Srv_5, bb_7, (show ((ow = 0 ∨ ¬ Es (ow - 1) = 0) ∧ (-2) = (nI (ms + 1)) ∧ ms = (ms + 1) ∧ So = (upN So ms 2) ∧ Su = (upN Su ms 0) ∧ Sr = (upN Sr ms 0) ∧ Es = (upN Es (ow - 1) 1)) ∨ (0 < ow ∧ Es (ow - 1) = 0 ∧ ((ms = 20 ∧ (-3) = (nI (ms + 1)) ∧ ms = (ms + 1) ∧ So = (upN So ms 2) ∧ Su = (upN Su ms 0) ∧ Sr = (upN Sr ms 0) ∧ Es = (upN Es (ow - 1) 1)) ∨ (ms < 20 ∧ nI (ms + 1) = (nI (ms + 1)) ∧ ms + 1 = (ms + 1) ∧ upN So ms 2 = (upN So ms 2) ∧ upN Su ms 0 = (upN Su ms 0) ∧ upN Sr ms 0 = (upN Sr ms 0) ∧ upN Es (ow - 1) 1 = (upN Es (ow - 1) 1)))) from (Or.inr ⟨by omega, c18, Or.inr ⟨h20, rfl, rfl, rfl, rfl, rfl, rfl⟩⟩))⟩, by rw [ht]; exact hP, va_K.moved hW.alike hK, hD⟩, hS.F ht⟩) hS.2.2 d_Stm_addElse_49
    · skip
      have c18 : ¬ ((Es (ow - 1)) = 0) := fun h => c18 ((nI_eq0 (by omega)).mpr h)
      have hz : ow = 0 ∨ ¬ Es (ow - 1) = 0 := by omega
      refine lv_bipush (v := (-2 : Int32)) hx hb d_Stm_addElse_21 rfl ?_
      exact W.iret (v := (-2 : Int32)) hx hb hr (fun t ht hW => ⟨⟨(-2 : Int32), (ms, So, Su, Sr, Es), rfl, ⟨(show ms ≤ 20 from by omega), b_So, b_Su, b_Sr, b_Es, (show ((ow = 0 ∨ ¬ Es (ow - 1) = 0) ∧ (-2) = (-2 : Int32) ∧ ms = ms ∧ So = So ∧ Su = Su ∧ Sr = Sr ∧ Es = Es) ∨ (0 < ow ∧ Es (ow - 1) = 0 ∧ ((ms = 20 ∧ (-3) = (-2 : Int32) ∧ ms = ms ∧ So = So ∧ Su = Su ∧ Sr = Sr ∧ Es = Es) ∨ (ms < 20 ∧ nI (ms + 1) = (-2 : Int32) ∧ ms + 1 = ms ∧ upN So ms 2 = So ∧ upN Su ms 0 = Su ∧ upN Sr ms 0 = Sr ∧ upN Es (ow - 1) 1 = Es))) from (Or.inl ⟨hz, rfl, rfl, rfl, rfl, rfl, rfl⟩))⟩, by rw [ht]; exact hP, va_K.moved hW.alike hK, hD⟩, hS.F ht⟩) hS.2.2 d_Stm_addElse_23
set_option maxHeartbeats 4000000 in
set_option maxRecDepth 100000 in
theorem c_Stm_addEnd (l : Launch) (dC : Nat → ClassId) (dI : Nat → Nat → Nat) (cI cZ : ClassId) (a_stm a_sort a_subject a_source a_elseSeen : Nat) (tt sz : Nat) (ms : Nat) (ow : Nat) (So : Nat → Nat) (Su : Nat → Nat) (Sr : Nat → Nat) (b_ms : ms ≤ 20) (b_ow : ow ≤ 4) (b_So : ∀ j, So j < 4) (b_Su : ∀ j, Su j < 14) (b_Sr : ∀ j, Sr j < 14) : Met l y_Stm_addEnd w_Stm_addEnd ({ frames := 1, cells := 0, slots := 0, locals := 23 }) (va_Pc [.ref a_stm] (PW (dC, dI) classes [(cI, .int), (cZ, .boolean)] tt [(a_stm, .inr (2, [.ref a_sort, .ref a_subject, .ref a_source, .int (nI ms), .int (nI ow), .ref a_elseSeen])), (a_sort, .inl (cI, 20, .inl (nF So))), (a_subject, .inl (cI, 20, .inl (nF Su))), (a_source, .inl (cI, 20, .inl (nF Sr)))] sz)) (va_Qi (fun (r : Int32) (u : Nat × Nat × (Nat → Nat) × (Nat → Nat) × (Nat → Nat)) => (u.1 ≤ 20) ∧ (u.2.1 ≤ 4) ∧ (∀ j, u.2.2.1 j < 4) ∧ (∀ j, u.2.2.2.1 j < 14) ∧ (∀ j, u.2.2.2.2 j < 14) ∧ ((ow = 0 ∧ (-2) = r ∧ ms = u.1 ∧ So = u.2.2.1 ∧ Su = u.2.2.2.1 ∧ Sr = u.2.2.2.2 ∧ ow = u.2.1) ∨ (0 < ow ∧ ((ms = 20 ∧ (-3) = r ∧ ms = u.1 ∧ So = u.2.2.1 ∧ Su = u.2.2.2.1 ∧ Sr = u.2.2.2.2 ∧ ow = u.2.1) ∨ (ms < 20 ∧ nI (ms + 1) = r ∧ ms + 1 = u.1 ∧ upN So ms 3 = u.2.2.1 ∧ upN Su ms 0 = u.2.2.2.1 ∧ upN Sr ms 0 = u.2.2.2.2 ∧ ow - 1 = u.2.1))))) (AT (dC, dI) classes [(cI, .int), (cZ, .boolean)] (va_A [(a_stm, .inr (2, [.ref a_sort, .ref a_subject, .ref a_source, .int (nI ms), .int (nI ow), .ref a_elseSeen])), (a_sort, .inl (cI, 20, .inl (nF So))), (a_subject, .inl (cI, 20, .inl (nF Su))), (a_source, .inl (cI, 20, .inl (nF Sr)))] sz) (fun (u : Nat × Nat × (Nat → Nat) × (Nat → Nat) × (Nat → Nat)) => [(a_stm, .inr (2, [.ref a_sort, .ref a_subject, .ref a_source, .int (nI u.1), .int (nI u.2.1), .ref a_elseSeen])), (a_sort, .inl (cI, 20, .inl (nF u.2.2.1))), (a_subject, .inl (cI, 20, .inl (nF u.2.2.2.1))), (a_source, .inl (cI, 20, .inl (nF u.2.2.2.2)))])) (va_A [(a_stm, .inr (2, [.ref a_sort, .ref a_subject, .ref a_source, .int (nI ms), .int (nI ow), .ref a_elseSeen])), (a_sort, .inl (cI, 20, .inl (nF So))), (a_subject, .inl (cI, 20, .inl (nF Su))), (a_source, .inl (cI, 20, .inl (nF Sr)))] sz)) 0 0 (va_A [(a_stm, .inr (2, [.ref a_sort, .ref a_subject, .ref a_source, .int (nI ms), .int (nI ow), .ref a_elseSeen])), (a_sort, .inl (cI, 20, .inl (nF So))), (a_subject, .inl (cI, 20, .inl (nF Su))), (a_source, .inl (cI, 20, .inl (nF Sr)))] sz) := by
  refine Met.ofW (cc := b_Stm_addEnd) (maxL := 2) (ret := (some .int)) (by decide) rfl ?_
  intro p e s m args below meth c s₁ B hml hv
  obtain ⟨rfl, hsz, hP, hK, hD0, hE⟩ := hv
  have hx := B.exec
  have hb := B.bytes
  have hr := B.returns
  have hts := atoms_spec (ws := w_Stm_addEnd) B.pre
  have hown : s.vm.findClass R_Stm = some m.cls := findClass_of_methodNamed B.named
  have hlocks := B.notSynchronized
  subst hsz
  have hD := hD0.self (sz := s.heap.size)
  generalize hAe : va_A [(a_stm, .inr (2, [.ref a_sort, .ref a_subject, .ref a_source, .int (nI ms), .int (nI ow), .ref a_elseSeen])), (a_sort, .inl (cI, 20, .inl (nF So))), (a_subject, .inl (cI, 20, .inl (nF Su))), (a_source, .inl (cI, 20, .inl (nF Sr)))] s.heap.size = A at hD hE ⊢
  have hA : ∀ q : Nat, s.heap.size ≤ q → A q := fun q h => by rw [← hAe]; exact Or.inr h
  have hS : va_S A s.heap s.heap [] := va_S.rf
  have hP : va_P (dC, dI) classes [(a_stm, .inr (2, [.ref a_sort, .ref a_subject, .ref a_source, .int (nI ms), .int (nI ow), .ref a_elseSeen])), (a_sort, .inl (cI, 20, .inl (nF So))), (a_subject, .inl (cI, 20, .inl (nF Su))), (a_source, .inl (cI, 20, .inl (nF Sr)))] s.heap := hP
  have hl := lv_entry ([.ref a_stm]) (n := 2) (Nat.le_of_ble_eq_true rfl)
  rw [lg_entry_eq]
  generalize (lg_sl ([.ref a_stm]) ++ List.replicate (2 - (lg_sl ([.ref a_stm])).length) Slot.unset).toArray = ls at hl ⊢
  have hl : lv_has ls 2 [(0, .ref a_stm)] := hl
  refine lv_aload_n hx hb d_Stm_addEnd_0 rfl (lv_at hl 0 rfl) ?_
  refine va_get (D := (dC, dI)) (ci := 2) (v := .int (nI ow)) (C := R_Stm) (T := F_Stm) (N := 6) hx hb hts (wi i_Stm) hown hK hP 0 rfl rfl 4 (by decide) (hts _ (mt 124 rfl rfl)) (fun _ h9 => h9) rfl d_Stm_addEnd_1 ?_
  refine lv_if_ne (tgt := 10) hx hb d_Stm_addEnd_4 (by decide) (fun c4 => ?_) (fun c4 => ?_)
  · skip
    have c4 : ¬ (ow = 0) := fun h => c4 ((nI_eq0 (by omega)).mpr h)
    refine lv_aload_n hx hb d_Stm_addEnd_10 rfl (lv_at hl 0 rfl) ?_
    refine lv_iconst (v := nI 3) hx hb d_Stm_addEnd_11 rfl ?_
    refine lv_iconst (v := nI 0) hx hb d_Stm_addEnd_12 rfl ?_
    refine lv_iconst (v := nI 0) hx hb d_Stm_addEnd_13 rfl ?_
    refine k_i (wr := []) (w2 := fun (u : Nat × (Nat → Nat) × (Nat → Nat) × (Nat → Nat)) => [(a_stm, .inr (2, [.ref a_sort, .ref a_subject, .ref a_source, .int (nI u.1), .int (nI ow), .ref a_elseSeen])), (a_sort, .inl (cI, 20, .inl (nF u.2.1))), (a_subject, .inl (cI, 20, .inl (nF u.2.2.1))), (a_source, .inl (cI, 20, .inl (nF u.2.2.2)))]) (va_runV (As := [.int (nI 3), .int (nI 0), .int (nI 0)]) (rest := []) ⟨hx, hb, hml, hown, hts⟩ (c_Stm_add l dC dI cI cZ a_stm a_sort a_subject a_source a_elseSeen tt s.heap.size ms ow So Su Sr 3 0 0 (by omega) (by omega) b_So b_Su b_Sr (by omega) (by omega) (by omega)) (cwV 3 hts (gd_V in_tl (mw 331 rfl rfl) (mw 333 rfl rfl) (mw 2 rfl rfl) (mw 43 rfl rfl) (mw 334 rfl rfl)) rfl rfl rfl (by decide +kernel) ⟨Nat.le_of_ble_eq_true rfl, Nat.le_of_ble_eq_true rfl⟩) (k_preV hK hP hD hS hA hE [0, 1, 2, 3] (by decide) rfl 2 0 rfl rfl) rfl rfl hl.1 rfl (lv_room (Nat.le_of_ble_eq_true rfl)) d_Stm_addEnd_14 ⟨Nat.zero_le _, Nat.zero_le _⟩) hP hD hS hA [0, 1, 2, 3] [] [0, 1, 2, 3] rfl rfl (by decide) (by decide) (by decide) (fun _ => rfl) (fun r_5 u H locs hw hP hD hS => ?_)
    obtain ⟨msv_1, Sov_2, Suv_3, Srv_4⟩ := u
    obtain ⟨b_msv_1, b_Sov_2, b_Suv_3, b_Srv_4, ha_14⟩ : (msv_1 ≤ 20) ∧ (∀ j, Sov_2 j < 4) ∧ (∀ j, Suv_3 j < 14) ∧ (∀ j, Srv_4 j < 14) ∧ ((ms = 20 ∧ (-3) = r_5 ∧ ms = msv_1 ∧ So = Sov_2 ∧ Su = Suv_3 ∧ Sr = Srv_4) ∨ (ms < 20 ∧ nI (ms + 1) = r_5 ∧ ms + 1 = msv_1 ∧ upN So ms 3 = Sov_2 ∧ upN Su ms 0 = Suv_3 ∧ upN Sr ms 0 = Srv_4)) := hw
    have hP : va_P (dC, dI) classes [(a_stm, .inr (2, [.ref a_sort, .ref a_subject, .ref a_source, .int (nI msv_1), .int (nI ow), .ref a_elseSeen])), (a_sort, .inl (cI, 20, .inl (nF Sov_2))), (a_subject, .inl (cI, 20, .inl (nF Suv_3))), (a_source, .inl (cI, 20, .inl (nF Srv_4)))] H := hP
    have hD : va_D A [(a_stm, .inr (2, [.ref a_sort, .ref a_subject, .ref a_source, .int (nI msv_1), .int (nI ow), .ref a_elseSeen])), (a_sort, .inl (cI, 20, .inl (nF Sov_2))), (a_subject, .inl (cI, 20, .inl (nF Suv_3))), (a_source, .inl (cI, 20, .inl (nF Srv_4)))] := hD
    rcases ha_14 with ⟨h20, hr3, q1, q2, q3, q4⟩ | ⟨h20, hr3, q1, q2, q3, q4⟩ <;> subst hr3 <;> subst q1 <;> subst q2 <;> subst q3 <;> subst q4
    · skip
      have hP : va_P (dC, dI) classes [(a_stm, .inr (2, [.ref a_sort, .ref a_subject, .ref a_source, .int (nI ms), .int (nI ow), .ref a_elseSeen])), (a_sort, .inl (cI, 20, .inl (nF So))), (a_subject, .inl (cI, 20, .inl (nF Su))), (a_source, .inl (cI, 20, .inl (nF Sr)))] H := hP
      have hD : va_D A [(a_stm, .inr (2, [.ref a_sort, .ref a_subject, .ref a_source, .int (nI ms), .int (nI ow), .ref a_elseSeen])), (a_sort, .inl (cI, 20, .inl (nF So))), (a_subject, .inl (cI, 20, .inl (nF Su))), (a_source, .inl (cI, 20, .inl (nF Sr)))] := hD
      refine lv_istore_n (lv' := [(1, .int (-3 : Int32)), (0, .ref a_stm)]) hx hb d_Stm_addEnd_17 rfl hl (by decide) rfl (fun ls hl => ?_)
      refine lv_iload_n hx hb d_Stm_addEnd_18 rfl (lv_at hl 0 rfl) ?_
      refine lv_if_lt (tgt := 32) hx hb d_Stm_addEnd_19 (by decide) (fun c19 => ?_) (fun c19 => ?_)
      · skip
        have c19 : (-3 : Int32).toInt < 0 := (ri_lt rfl rfl).mp c19
        refine lv_iload_n hx hb d_Stm_addEnd_32 rfl (lv_at hl 0 rfl) ?_
        exact W.iret (v := (-3 : Int32)) hx hb hr (fun t ht hW => ⟨⟨(-3 : Int32), (ms, ow, So, Su, Sr), rfl, ⟨(show ms ≤ 20 from by omega), (show ow ≤ 4 from by omega), b_Sov_2, b_Suv_3, b_Srv_4, (show (ow = 0 ∧ (-2) = (-3 : Int32) ∧ ms = ms ∧ So = So ∧ Su = Su ∧ Sr = Sr ∧ ow = ow) ∨ (0 < ow ∧ ((ms = 20 ∧ (-3) = (-3 : Int32) ∧ ms = ms ∧ So = So ∧ Su = Su ∧ Sr = Sr ∧ ow = ow) ∨ (ms < 20 ∧ nI (ms + 1) = (-3 : Int32) ∧ ms + 1 = ms ∧ upN So ms 3 = So ∧ upN Su ms 0 = Su ∧ upN Sr ms 0 = Sr ∧ ow - 1 = ow))) from (Or.inr ⟨by omega, Or.inl ⟨h20, rfl, rfl, rfl, rfl, rfl, rfl⟩⟩))⟩, by rw [ht]; exact hP, va_K.moved hW.alike hK, hD⟩, hS.F ht⟩) hS.2.2 d_Stm_addEnd_33
      · skip
        have c19 : ¬ ((-3 : Int32).toInt < 0) := fun h => c19 ((ri_lt rfl rfl).mpr h)
        exact absurd c19 (by decide)
    · skip
      have hP : va_P (dC, dI) classes [(a_stm, .inr (2, [.ref a_sort, .ref a_subject, .ref a_source, .int (nI (ms + 1)), .int (nI ow), .ref a_elseSeen])), (a_sort, .inl (cI, 20, .inl (nF (upN So ms 3)))), (a_subject, .inl (cI, 20, .inl (nF (upN Su ms 0)))), (a_source, .inl (cI, 20, .inl (nF (upN Sr ms 0))))] H := hP
      have hD : va_D A [(a_stm, .inr (2, [.ref a_sort, .ref a_subject, .ref a_source, .int (nI (ms + 1)), .int (nI ow), .ref a_elseSeen])), (a_sort, .inl (cI, 20, .inl (nF (upN So ms 3)))), (a_subject, .inl (cI, 20, .inl (nF (upN Su ms 0)))), (a_source, .inl (cI, 20, .inl (nF (upN Sr ms 0))))] := hD
      refine lv_istore_n (lv' := [(1, .int (nI (ms + 1))), (0, .ref a_stm)]) hx hb d_Stm_addEnd_17 rfl hl (by decide) rfl (fun ls hl => ?_)
      refine lv_iload_n hx hb d_Stm_addEnd_18 rfl (lv_at hl 0 rfl) ?_
      refine lv_if_lt (tgt := 32) hx hb d_Stm_addEnd_19 (by decide) (fun c19 => ?_) (fun c19 => ?_)
      · skip
        have c19 : False := (nI_lt0 (by omega)).mp c19
        exact absurd c19 (fun h => h)
      · skip
        have c19 : ¬ (False) := fun h => c19 ((nI_lt0 (by omega)).mpr h)
        refine lv_aload_n hx hb d_Stm_addEnd_22 rfl (lv_at hl 1 rfl) ?_
        refine lv_dup hx hb d_Stm_addEnd_23 rfl ?_
        refine va_get (D := (dC, dI)) (ci := 2) (v := .int (nI ow)) (C := R_Stm) (T := F_Stm) (N := 6) hx hb hts (wi i_Stm) hown hK hP 0 rfl rfl 4 (by decide) (hts _ (mt 124 rfl rfl)) (fun _ h9 => h9) rfl d_Stm_addEnd_24 ?_
        refine lv_iconst (v := nI 1) hx hb d_Stm_addEnd_27 rfl ?_
        refine lv_isub hx hb d_Stm_addEnd_28 ?_
        refine k_top (pk_sub (by omega)) ?_
        refine va_put (D := (dC, dI)) (ci := 2) (v := .int (nI (ow - 1))) (ty := .int) (C := R_Stm) (T := F_Stm) (N := 6) hx hb hts (wi i_Stm) t_Stm t_Stm_ok n_Stm hown hK hP hD hS 0 rfl rfl 4 (by decide) (hts _ (mt 124 rfl rfl)) (fun _ h9 => h9) rfl (by decide +kernel) rfl rfl (Nat.le_of_ble_eq_true rfl) d_Stm_addEnd_29 (fun H locs hP hD hS => ?_)
        have hP : va_P (dC, dI) classes [(a_stm, .inr (2, [.ref a_sort, .ref a_subject, .ref a_source, .int (nI (ms + 1)), .int (nI (ow - 1)), .ref a_elseSeen])), (a_sort, .inl (cI, 20, .inl (nF (upN So ms 3)))), (a_subject, .inl (cI, 20, .inl (nF (upN Su ms 0)))), (a_source, .inl (cI, 20, .inl (nF (upN Sr ms 0))))] H := hP
        have hD : va_D A [(a_stm, .inr (2, [.ref a_sort, .ref a_subject, .ref a_source, .int (nI (ms + 1)), .int (nI (ow - 1)), .ref a_elseSeen])), (a_sort, .inl (cI, 20, .inl (nF (upN So ms 3)))), (a_subject, .inl (cI, 20, .inl (nF (upN Su ms 0)))), (a_source, .inl (cI, 20, .inl (nF (upN Sr ms 0))))] := hD
        refine lv_iload_n hx hb d_Stm_addEnd_32 rfl (lv_at hl 0 rfl) ?_
        exact W.iret (v := nI (ms + 1)) hx hb hr (fun t ht hW => ⟨⟨nI (ms + 1), (ms + 1, ow - 1, upN So ms 3, upN Su ms 0, upN Sr ms 0), rfl, ⟨(show (ms + 1) ≤ 20 from by omega), (show (ow - 1) ≤ 4 from by omega), b_Sov_2, b_Suv_3, b_Srv_4, (show (ow = 0 ∧ (-2) = (nI (ms + 1)) ∧ ms = (ms + 1) ∧ So = (upN So ms 3) ∧ Su = (upN Su ms 0) ∧ Sr = (upN Sr ms 0) ∧ ow = (ow - 1)) ∨ (0 < ow ∧ ((ms = 20 ∧ (-3) = (nI (ms + 1)) ∧ ms = (ms + 1) ∧ So = (upN So ms 3) ∧ Su = (upN Su ms 0) ∧ Sr = (upN Sr ms 0) ∧ ow = (ow - 1)) ∨ (ms < 20 ∧ nI (ms + 1) = (nI (ms + 1)) ∧ ms + 1 = (ms + 1) ∧ upN So ms 3 = (upN So ms 3) ∧ upN Su ms 0 = (upN Su ms 0) ∧ upN Sr ms 0 = (upN Sr ms 0) ∧ ow - 1 = (ow - 1)))) from (Or.inr ⟨by omega, Or.inr ⟨h20, rfl, rfl, rfl, rfl, rfl, rfl⟩⟩))⟩, by rw [ht]; exact hP, va_K.moved hW.alike hK, hD⟩, hS.F ht⟩) hS.2.2 d_Stm_addEnd_33
  · skip
    have c4 : ow = 0 := (nI_eq0 (by omega)).mp c4
    refine lv_bipush (v := (-2 : Int32)) hx hb d_Stm_addEnd_7 rfl ?_
    exact W.iret (v := (-2 : Int32)) hx hb hr (fun t ht hW => ⟨⟨(-2 : Int32), (ms, ow, So, Su, Sr), rfl, ⟨(show ms ≤ 20 from by omega), (show ow ≤ 4 from by omega), b_So, b_Su, b_Sr, (show (ow = 0 ∧ (-2) = (-2 : Int32) ∧ ms = ms ∧ So = So ∧ Su = Su ∧ Sr = Sr ∧ ow = ow) ∨ (0 < ow ∧ ((ms = 20 ∧ (-3) = (-2 : Int32) ∧ ms = ms ∧ So = So ∧ Su = Su ∧ Sr = Sr ∧ ow = ow) ∨ (ms < 20 ∧ nI (ms + 1) = (-2 : Int32) ∧ ms + 1 = ms ∧ upN So ms 3 = So ∧ upN Su ms 0 = Su ∧ upN Sr ms 0 = Sr ∧ ow - 1 = ow))) from (Or.inl ⟨c4, rfl, rfl, rfl, rfl, rfl, rfl⟩))⟩, by rw [ht]; exact hP, va_K.moved hW.alike hK, hD⟩, hS.F ht⟩) hS.2.2 d_Stm_addEnd_9
set_option maxHeartbeats 4000000 in
set_option maxRecDepth 100000 in
theorem c_Stm_removeAll (l : Launch) (dC : Nat → ClassId) (dI : Nat → Nat → Nat) (cI cZ : ClassId) (a_stm a_sort a_subject a_source a_elseSeen : Nat) (tt sz : Nat) (ms : Nat) (ow : Nat) (b_ms : ms ≤ 20) (b_ow : ow ≤ 4) : Met l y_Stm_removeAll w_Stm_removeAll ({ frames := 0, cells := 0, slots := 0, locals := 0 }) (va_Pc [.ref a_stm] (PW (dC, dI) classes [(cI, .int), (cZ, .boolean)] tt [(a_stm, .inr (2, [.ref a_sort, .ref a_subject, .ref a_source, .int (nI ms), .int (nI ow), .ref a_elseSeen]))] sz)) (va_Qv (fun (u : Unit) => True) (AT (dC, dI) classes [(cI, .int), (cZ, .boolean)] (va_A [(a_stm, .inr (2, [.ref a_sort, .ref a_subject, .ref a_source, .int (nI ms), .int (nI ow), .ref a_elseSeen]))] sz) (fun (u : Unit) => [(a_stm, .inr (2, [.ref a_sort, .ref a_subject, .ref a_source, .int (nI 0), .int (nI 0), .ref a_elseSeen]))])) (va_A [(a_stm, .inr (2, [.ref a_sort, .ref a_subject, .ref a_source, .int (nI ms), .int (nI ow), .ref a_elseSeen]))] sz)) 0 0 (va_A [(a_stm, .inr (2, [.ref a_sort, .ref a_subject, .ref a_source, .int (nI ms), .int (nI ow), .ref a_elseSeen]))] sz) := by
  refine Met.ofW (cc := b_Stm_removeAll) (maxL := 1) (ret := none) (by decide) rfl ?_
  intro p e s m args below meth c s₁ B hml hv
  obtain ⟨rfl, hsz, hP, hK, hD0, hE⟩ := hv
  have hx := B.exec
  have hb := B.bytes
  have hr := B.returns
  have hts := atoms_spec (ws := w_Stm_removeAll) B.pre
  have hown : s.vm.findClass R_Stm = some m.cls := findClass_of_methodNamed B.named
  have hlocks := B.notSynchronized
  subst hsz
  have hD := hD0.self (sz := s.heap.size)
  generalize hAe : va_A [(a_stm, .inr (2, [.ref a_sort, .ref a_subject, .ref a_source, .int (nI ms), .int (nI ow), .ref a_elseSeen]))] s.heap.size = A at hD hE ⊢
  have hA : ∀ q : Nat, s.heap.size ≤ q → A q := fun q h => by rw [← hAe]; exact Or.inr h
  have hS : va_S A s.heap s.heap [] := va_S.rf
  have hP : va_P (dC, dI) classes [(a_stm, .inr (2, [.ref a_sort, .ref a_subject, .ref a_source, .int (nI ms), .int (nI ow), .ref a_elseSeen]))] s.heap := hP
  have hl := lv_entry ([.ref a_stm]) (n := 1) (Nat.le_of_ble_eq_true rfl)
  rw [lg_entry_eq]
  generalize (lg_sl ([.ref a_stm]) ++ List.replicate (1 - (lg_sl ([.ref a_stm])).length) Slot.unset).toArray = ls at hl ⊢
  have hl : lv_has ls 1 [(0, .ref a_stm)] := hl
  refine lv_aload_n hx hb d_Stm_removeAll_0 rfl (lv_at hl 0 rfl) ?_
  refine lv_iconst (v := nI 0) hx hb d_Stm_removeAll_1 rfl ?_
  refine va_put (D := (dC, dI)) (ci := 2) (v := .int (nI 0)) (ty := .int) (C := R_Stm) (T := F_Stm) (N := 6) hx hb hts (wi i_Stm) t_Stm t_Stm_ok n_Stm hown hK hP hD hS 0 rfl rfl 3 (by decide) (hts _ (mt 122 rfl rfl)) (fun _ h9 => h9) rfl (by decide +kernel) rfl rfl (Nat.le_of_ble_eq_true rfl) d_Stm_removeAll_2 (fun H locs hP hD hS => ?_)
  have hP : va_P (dC, dI) classes [(a_stm, .inr (2, [.ref a_sort, .ref a_subject, .ref a_source, .int (nI 0), .int (nI ow), .ref a_elseSeen]))] H := hP
  have hD : va_D A [(a_stm, .inr (2, [.ref a_sort, .ref a_subject, .ref a_source, .int (nI 0), .int (nI ow), .ref a_elseSeen]))] := hD
  refine lv_aload_n hx hb d_Stm_removeAll_5 rfl (lv_at hl 0 rfl) ?_
  refine lv_iconst (v := nI 0) hx hb d_Stm_removeAll_6 rfl ?_
  refine va_put (D := (dC, dI)) (ci := 2) (v := .int (nI 0)) (ty := .int) (C := R_Stm) (T := F_Stm) (N := 6) hx hb hts (wi i_Stm) t_Stm t_Stm_ok n_Stm hown hK hP hD hS 0 rfl rfl 4 (by decide) (hts _ (mt 124 rfl rfl)) (fun _ h9 => h9) rfl (by decide +kernel) rfl rfl (Nat.le_of_ble_eq_true rfl) d_Stm_removeAll_7 (fun H locs hP hD hS => ?_)
  have hP : va_P (dC, dI) classes [(a_stm, .inr (2, [.ref a_sort, .ref a_subject, .ref a_source, .int (nI 0), .int (nI 0), .ref a_elseSeen]))] H := hP
  have hD : va_D A [(a_stm, .inr (2, [.ref a_sort, .ref a_subject, .ref a_source, .int (nI 0), .int (nI 0), .ref a_elseSeen]))] := hD
  exact W.vret hx hb hr (fun t ht hW => ⟨⟨(), rfl, trivial, by rw [ht]; exact hP, va_K.moved hW.alike hK, hD⟩, hS.F ht⟩) hS.2.2 d_Stm_removeAll_10
