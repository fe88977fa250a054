abbrev b_Net_depthOf : ByteArray := prog_3_method_11_code
def y_Net_depthOf : MethodName := ⟨"CircuitDesk$Net", "depthOf", "(I)I"⟩
def w_Net_depthOf : List Cond := .code y_Net_depthOf b_Net_depthOf 2 (some .int) :: lw_gw
theorem d_Net_depthOf_0 : decode b_Net_depthOf 0 = .ok (.aload_n 0, 1) := by decide +kernel
theorem d_Net_depthOf_1 : decode b_Net_depthOf 1 = .ok (.getfield 15, 3) := by decide +kernel
theorem d_Net_depthOf_4 : decode b_Net_depthOf 4 = .ok (.iload_n 1, 1) := by decide +kernel
theorem d_Net_depthOf_5 : decode b_Net_depthOf 5 = .ok (.iconst 1, 1) := by decide +kernel
theorem d_Net_depthOf_6 : decode b_Net_depthOf 6 = .ok (.ishr, 1) := by decide +kernel
theorem d_Net_depthOf_7 : decode b_Net_depthOf 7 = .ok (.iaload, 1) := by decide +kernel
theorem d_Net_depthOf_8 : decode b_Net_depthOf 8 = .ok (.ireturn, 1) := by decide +kernel
abbrev b_Net_valueOf : ByteArray := prog_3_method_14_code
def y_Net_valueOf : MethodName := ⟨"CircuitDesk$Net", "valueOf", "(I)I"⟩
def w_Net_valueOf : List Cond := .code y_Net_valueOf b_Net_valueOf 2 (some .int) :: lw_gw
theorem d_Net_valueOf_0 : decode b_Net_valueOf 0 = .ok (.aload_n 0, 1) := by decide +kernel
theorem d_Net_valueOf_1 : decode b_Net_valueOf 1 = .ok (.getfield 18, 3) := by decide +kernel
theorem d_Net_valueOf_4 : decode b_Net_valueOf 4 = .ok (.iload_n 1, 1) := by decide +kernel
theorem d_Net_valueOf_5 : decode b_Net_valueOf 5 = .ok (.iconst 1, 1) := by decide +kernel
theorem d_Net_valueOf_6 : decode b_Net_valueOf 6 = .ok (.ishr, 1) := by decide +kernel
theorem d_Net_valueOf_7 : decode b_Net_valueOf 7 = .ok (.iaload, 1) := by decide +kernel
theorem d_Net_valueOf_8 : decode b_Net_valueOf 8 = .ok (.iload_n 1, 1) := by decide +kernel
theorem d_Net_valueOf_9 : decode b_Net_valueOf 9 = .ok (.iconst 1, 1) := by decide +kernel
theorem d_Net_valueOf_10 : decode b_Net_valueOf 10 = .ok (.iand, 1) := by decide +kernel
theorem d_Net_valueOf_11 : decode b_Net_valueOf 11 = .ok (.ixor, 1) := by decide +kernel
theorem d_Net_valueOf_12 : decode b_Net_valueOf 12 = .ok (.ireturn, 1) := by decide +kernel
abbrev b_Net_putWord : ByteArray := prog_3_method_12_code
def y_Net_putWord : MethodName := ⟨"CircuitDesk$Net", "putWord", "(II)V"⟩
def w_Net_putWord : List Cond := .code y_Net_putWord b_Net_putWord 5 none :: lw_gw
theorem d_Net_putWord_0 : decode b_Net_putWord 0 = .ok (.iconst 1, 1) := by decide +kernel
theorem d_Net_putWord_1 : decode b_Net_putWord 1 = .ok (.iload_n 1, 1) := by decide +kernel
theorem d_Net_putWord_2 : decode b_Net_putWord 2 = .ok (.bipush 8, 2) := by decide +kernel
theorem d_Net_putWord_4 : decode b_Net_putWord 4 = .ok (.imul, 1) := by decide +kernel
theorem d_Net_putWord_5 : decode b_Net_putWord 5 = .ok (.iadd, 1) := by decide +kernel
theorem d_Net_putWord_6 : decode b_Net_putWord 6 = .ok (.istore_n 3, 1) := by decide +kernel
theorem d_Net_putWord_7 : decode b_Net_putWord 7 = .ok (.iconst 0, 1) := by decide +kernel
theorem d_Net_putWord_8 : decode b_Net_putWord 8 = .ok (.istore 4, 2) := by decide +kernel
theorem d_Net_putWord_10 : decode b_Net_putWord 10 = .ok (.iload 4, 2) := by decide +kernel
theorem d_Net_putWord_12 : decode b_Net_putWord 12 = .ok (.bipush 8, 2) := by decide +kernel
theorem d_Net_putWord_14 : decode b_Net_putWord 14 = .ok (.if_icmp .ge 24, 3) := by decide +kernel
theorem d_Net_putWord_17 : decode b_Net_putWord 17 = .ok (.aload_n 0, 1) := by decide +kernel
theorem d_Net_putWord_18 : decode b_Net_putWord 18 = .ok (.getfield 18, 3) := by decide +kernel
theorem d_Net_putWord_21 : decode b_Net_putWord 21 = .ok (.iload_n 3, 1) := by decide +kernel
theorem d_Net_putWord_22 : decode b_Net_putWord 22 = .ok (.iload 4, 2) := by decide +kernel
theorem d_Net_putWord_24 : decode b_Net_putWord 24 = .ok (.iadd, 1) := by decide +kernel
theorem d_Net_putWord_25 : decode b_Net_putWord 25 = .ok (.iload_n 2, 1) := by decide +kernel
theorem d_Net_putWord_26 : decode b_Net_putWord 26 = .ok (.iload 4, 2) := by decide +kernel
theorem d_Net_putWord_28 : decode b_Net_putWord 28 = .ok (.ishr, 1) := by decide +kernel
theorem d_Net_putWord_29 : decode b_Net_putWord 29 = .ok (.iconst 1, 1) := by decide +kernel
theorem d_Net_putWord_30 : decode b_Net_putWord 30 = .ok (.iand, 1) := by decide +kernel
theorem d_Net_putWord_31 : decode b_Net_putWord 31 = .ok (.iastore, 1) := by decide +kernel
theorem d_Net_putWord_32 : decode b_Net_putWord 32 = .ok (.iinc 4 1, 3) := by decide +kernel
theorem d_Net_putWord_35 : decode b_Net_putWord 35 = .ok (.goto (-25), 3) := by decide +kernel
theorem d_Net_putWord_38 : decode b_Net_putWord 38 = .ok (.aload_n 0, 1) := by decide +kernel
theorem d_Net_putWord_39 : decode b_Net_putWord 39 = .ok (.iconst 0, 1) := by decide +kernel
theorem d_Net_putWord_40 : decode b_Net_putWord 40 = .ok (.putfield 37, 3) := by decide +kernel
theorem d_Net_putWord_43 : decode b_Net_putWord 43 = .ok (.return_, 1) := by decide +kernel
abbrev b_Net_wordOf : ByteArray := prog_3_method_15_code
def y_Net_wordOf : MethodName := ⟨"CircuitDesk$Net", "wordOf", "([III)I"⟩
def w_Net_wordOf : List Cond := .code y_Net_wordOf b_Net_wordOf 6 (some .int) :: lw_gw
theorem d_Net_wordOf_0 : decode b_Net_wordOf 0 = .ok (.iconst 0, 1) := by decide +kernel
theorem d_Net_wordOf_1 : decode b_Net_wordOf 1 = .ok (.istore 4, 2) := by decide +kernel
theorem d_Net_wordOf_3 : decode b_Net_wordOf 3 = .ok (.iconst 0, 1) := by decide +kernel
theorem d_Net_wordOf_4 : decode b_Net_wordOf 4 = .ok (.istore 5, 2) := by decide +kernel
theorem d_Net_wordOf_6 : decode b_Net_wordOf 6 = .ok (.iload 5, 2) := by decide +kernel
theorem d_Net_wordOf_8 : decode b_Net_wordOf 8 = .ok (.iload_n 3, 1) := by decide +kernel
theorem d_Net_wordOf_9 : decode b_Net_wordOf 9 = .ok (.if_icmp .ge 30, 3) := by decide +kernel
theorem d_Net_wordOf_12 : decode b_Net_wordOf 12 = .ok (.iload 4, 2) := by decide +kernel
theorem d_Net_wordOf_14 : decode b_Net_wordOf 14 = .ok (.aload_n 0, 1) := by decide +kernel
theorem d_Net_wordOf_15 : decode b_Net_wordOf 15 = .ok (.aload_n 1, 1) := by decide +kernel
theorem d_Net_wordOf_16 : decode b_Net_wordOf 16 = .ok (.iload_n 2, 1) := by decide +kernel
theorem d_Net_wordOf_17 : decode b_Net_wordOf 17 = .ok (.bipush 8, 2) := by decide +kernel
theorem d_Net_wordOf_19 : decode b_Net_wordOf 19 = .ok (.imul, 1) := by decide +kernel
theorem d_Net_wordOf_20 : decode b_Net_wordOf 20 = .ok (.iload 5, 2) := by decide +kernel
theorem d_Net_wordOf_22 : decode b_Net_wordOf 22 = .ok (.iadd, 1) := by decide +kernel
theorem d_Net_wordOf_23 : decode b_Net_wordOf 23 = .ok (.iaload, 1) := by decide +kernel
theorem d_Net_wordOf_24 : decode b_Net_wordOf 24 = .ok (.invokevirtual 57, 3) := by decide +kernel
theorem d_Net_wordOf_27 : decode b_Net_wordOf 27 = .ok (.iload 5, 2) := by decide +kernel
theorem d_Net_wordOf_29 : decode b_Net_wordOf 29 = .ok (.ishl, 1) := by decide +kernel
theorem d_Net_wordOf_30 : decode b_Net_wordOf 30 = .ok (.ior, 1) := by decide +kernel
theorem d_Net_wordOf_31 : decode b_Net_wordOf 31 = .ok (.istore 4, 2) := by decide +kernel
theorem d_Net_wordOf_33 : decode b_Net_wordOf 33 = .ok (.iinc 5 1, 3) := by decide +kernel
theorem d_Net_wordOf_36 : decode b_Net_wordOf 36 = .ok (.goto (-30), 3) := by decide +kernel
theorem d_Net_wordOf_39 : decode b_Net_wordOf 39 = .ok (.iload 4, 2) := by decide +kernel
theorem d_Net_wordOf_41 : decode b_Net_wordOf 41 = .ok (.ireturn, 1) := by decide +kernel
set_option maxHeartbeats 4000000 in
set_option maxRecDepth 100000 in
theorem c_Net_depthOf (l : Launch) (dC : Nat → ClassId) (dI : Nat → Nat → Nat) (cI cZ : ClassId) (a_net a_pairs a_depths a_values a_slots : Nat) (tt sz : Nat) (g : Nat) (gd : Nat) (st : Nat) (Dp : Nat → Nat) (X : Nat) (b_g : g ≤ 1280) (b_gd : gd < 1400) (b_st : st ≤ 1) (b_Dp : ∀ j, Dp j < 1400) (hX : X / 2 < 1393) (hXb : X < 2147483648) : Met l y_Net_depthOf w_Net_depthOf ({ frames := 0, cells := 0, slots := 0, locals := 0 }) (va_Pc [.ref a_net, .int (nI X)] (PW (dC, dI) classes [(cI, .int), (cZ, .boolean)] tt [(a_net, .inr (0, [.int (nI g), .int (nI gd), .ref a_pairs, .ref a_depths, .ref a_values, .ref a_slots, .int (nI st)])), (a_depths, .inl (cI, 1393, .inl (nF Dp)))] sz)) (va_Qi (fun (r : Int32) (u : Unit) => (r = nI (Dp (X / 2)))) (AT (dC, dI) classes [(cI, .int), (cZ, .boolean)] (va_A [(a_net, .inr (0, [.int (nI g), .int (nI gd), .ref a_pairs, .ref a_depths, .ref a_values, .ref a_slots, .int (nI st)])), (a_depths, .inl (cI, 1393, .inl (nF Dp)))] sz) (fun (u : Unit) => [(a_net, .inr (0, [.int (nI g), .int (nI gd), .ref a_pairs, .ref a_depths, .ref a_values, .ref a_slots, .int (nI st)])), (a_depths, .inl (cI, 1393, .inl (nF Dp)))])) (va_A [(a_net, .inr (0, [.int (nI g), .int (nI gd), .ref a_pairs, .ref a_depths, .ref a_values, .ref a_slots, .int (nI st)])), (a_depths, .inl (cI, 1393, .inl (nF Dp)))] sz)) 0 0 (va_A [(a_net, .inr (0, [.int (nI g), .int (nI gd), .ref a_pairs, .ref a_depths, .ref a_values, .ref a_slots, .int (nI st)])), (a_depths, .inl (cI, 1393, .inl (nF Dp)))] sz) := by
  refine Met.ofW (cc := b_Net_depthOf) (maxL := 2) (ret := (some .int)) (by decide) rfl ?_
  intro p e s m args below meth c s₁ B hml hv
  obtain ⟨rfl, hsz, hP, hK, hD0, hE⟩ := hv
  have hx := B.exec
  have hb := B.bytes
  have hr := B.returns
  have hts := atoms_spec (ws := w_Net_depthOf) B.pre
  have hown : s.vm.findClass R_Net = some m.cls := findClass_of_methodNamed B.named
  have hlocks := B.notSynchronized
  subst hsz
  have hD := hD0.self (sz := s.heap.size)
  generalize hAe : va_A [(a_net, .inr (0, [.int (nI g), .int (nI gd), .ref a_pairs, .ref a_depths, .ref a_values, .ref a_slots, .int (nI st)])), (a_depths, .inl (cI, 1393, .inl (nF Dp)))] s.heap.size = A at hD hE ⊢
  have hA : ∀ q : Nat, s.heap.size ≤ q → A q := fun q h => by rw [← hAe]; exact Or.inr h
  have hS : va_S A s.heap s.heap [] := va_S.rf
  have hP : va_P (dC, dI) classes [(a_net, .inr (0, [.int (nI g), .int (nI gd), .ref a_pairs, .ref a_depths, .ref a_values, .ref a_slots, .int (nI st)])), (a_depths, .inl (cI, 1393, .inl (nF Dp)))] s.heap := hP
  have hl := lv_entry ([.ref a_net, .int (nI X)]) (n := 2) (Nat.le_of_ble_eq_true rfl)
  rw [lg_entry_eq]
  generalize (lg_sl ([.ref a_net, .int (nI X)]) ++ List.replicate (2 - (lg_sl ([.ref a_net, .int (nI X)])).length) Slot.unset).toArray = ls at hl ⊢
  have hl : lv_has ls 2 [(0, .ref a_net), (1, .int (nI X))] := hl
  refine lv_aload_n hx hb d_Net_depthOf_0 rfl (lv_at hl 0 rfl) ?_
  refine va_get (D := (dC, dI)) (ci := 0) (v := .ref a_depths) (C := R_Net) (T := F_Net) (N := 7) hx hb hts (wi i_Net) hown hK hP 0 rfl rfl 3 (by decide) (hts _ (mt 181 rfl rfl)) (fun _ h9 => h9) rfl d_Net_depthOf_1 ?_
  refine lv_iload_n hx hb d_Net_depthOf_4 rfl (lv_at hl 1 rfl) ?_
  refine lv_iconst (v := nI 1) hx hb d_Net_depthOf_5 rfl ?_
  refine lv_ishr hx hb d_Net_depthOf_6 ?_
  refine k_top (nI_shr (by omega) (by omega)) ?_
  refine k_ild hx hb hK hP 1 0 rfl rfl (show X / 2 ^ 1 < 1393 from hX) (by decide) d_Net_depthOf_7 ?_
  have hb_1 := b_Dp (X / 2 ^ 1)
  exact W.iret (v := nI (Dp (X / 2 ^ 1))) hx hb hr (fun t ht hW => ⟨⟨nI (Dp (X / 2 ^ 1)), (), rfl, rfl, by rw [ht]; exact hP, va_K.moved hW.alike hK, hD⟩, hS.F ht⟩) hS.2.2 d_Net_depthOf_8
set_option maxHeartbeats 4000000 in
set_option maxRecDepth 100000 in
theorem c_Net_valueOf (l : Launch) (dC : Nat → ClassId) (dI : Nat → Nat → Nat) (cI cZ : ClassId) (a_net a_pairs a_depths a_values a_slots : Nat) (tt sz : Nat) (g : Nat) (gd : Nat) (st : Nat) (Vv : Nat → Nat) (X : Nat) (b_g : g ≤ 1280) (b_gd : gd < 1400) (b_st : st ≤ 1) (b_Vv : ∀ j, Vv j < 2) (hX : X / 2 < 1393) (hXb : X < 2147483648) : Met l y_Net_valueOf w_Net_valueOf ({ frames := 0, cells := 0, slots := 0, locals := 0 }) (va_Pc [.ref a_net, .int (nI X)] (PW (dC, dI) classes [(cI, .int), (cZ, .boolean)] tt [(a_net, .inr (0, [.int (nI g), .int (nI gd), .ref a_pairs, .ref a_depths, .ref a_values, .ref a_slots, .int (nI st)])), (a_values, .inl (cI, 1393, .inl (nF Vv)))] sz)) (va_Qi (fun (r : Int32) (u : Unit) => (r = nI ((Vv (X / 2) + X % 2) % 2))) (AT (dC, dI) classes [(cI, .int), (cZ, .boolean)] (va_A [(a_net, .inr (0, [.int (nI g), .int (nI gd), .ref a_pairs, .ref a_depths, .ref a_values, .ref a_slots, .int (nI st)])), (a_values, .inl (cI, 1393, .inl (nF Vv)))] sz) (fun (u : Unit) => [(a_net, .inr (0, [.int (nI g), .int (nI gd), .ref a_pairs, .ref a_depths, .ref a_values, .ref a_slots, .int (nI st)])), (a_values, .inl (cI, 1393, .inl (nF Vv)))])) (va_A [(a_net, .inr (0, [.int (nI g), .int (nI gd), .ref a_pairs, .ref a_depths, .ref a_values, .ref a_slots, .int (nI st)])), (a_values, .inl (cI, 1393, .inl (nF Vv)))] sz)) 0 0 (va_A [(a_net, .inr (0, [.int (nI g), .int (nI gd), .ref a_pairs, .ref a_depths, .ref a_values, .ref a_slots, .int (nI st)])), (a_values, .inl (cI, 1393, .inl (nF Vv)))] sz) := by
  refine Met.ofW (cc := b_Net_valueOf) (maxL := 2) (ret := (some .int)) (by decide) rfl ?_
  intro p e s m args below meth c s₁ B hml hv
  obtain ⟨rfl, hsz, hP, hK, hD0, hE⟩ := hv
  have hx := B.exec
  have hb := B.bytes
  have hr := B.returns
  have hts := atoms_spec (ws := w_Net_valueOf) B.pre
  have hown : s.vm.findClass R_Net = some m.cls := findClass_of_methodNamed B.named
  have hlocks := B.notSynchronized
  subst hsz
  have hD := hD0.self (sz := s.heap.size)
  generalize hAe : va_A [(a_net, .inr (0, [.int (nI g), .int (nI gd), .ref a_pairs, .ref a_depths, .ref a_values, .ref a_slots, .int (nI st)])), (a_values, .inl (cI, 1393, .inl (nF Vv)))] s.heap.size = A at hD hE ⊢
  have hA : ∀ q : Nat, s.heap.size ≤ q → A q := fun q h => by rw [← hAe]; exact Or.inr h
  have hS : va_S A s.heap s.heap [] := va_S.rf
  have hP : va_P (dC, dI) classes [(a_net, .inr (0, [.int (nI g), .int (nI gd), .ref a_pairs, .ref a_depths, .ref a_values, .ref a_slots, .int (nI st)])), (a_values, .inl (cI, 1393, .inl (nF Vv)))] s.heap := hP
  have hl := lv_entry ([.ref a_net, .int (nI X)]) (n := 2) (Nat.le_of_ble_eq_true rfl)
  rw [lg_entry_eq]
  generalize (lg_sl ([.ref a_net, .int (nI X)]) ++ List.replicate (2 - (lg_sl ([.ref a_net, .int (nI X)])).length) Slot.unset).toArray = ls at hl ⊢
  have hl : lv_has ls 2 [(0, .ref a_net), (1, .int (nI X))] := hl
  refine lv_aload_n hx hb d_Net_valueOf_0 rfl (lv_at hl 0 rfl) ?_
  refine va_get (D := (dC, dI)) (ci := 0) (v := .ref a_values) (C := R_Net) (T := F_Net) (N := 7) hx hb hts (wi i_Net) hown hK hP 0 rfl rfl 4 (by decide) (hts _ (mt 182 rfl rfl)) (fun _ h9 => h9) rfl d_Net_valueOf_1 ?_
  refine lv_iload_n hx hb d_Net_valueOf_4 rfl (lv_at hl 1 rfl) ?_
  refine lv_iconst (v := nI 1) hx hb d_Net_valueOf_5 rfl ?_
  refine lv_ishr hx hb d_Net_valueOf_6 ?_
  refine k_top (nI_shr (by omega) (by omega)) ?_
  refine k_ild hx hb hK hP 1 0 rfl rfl (show X / 2 ^ 1 < 1393 from hX) (by decide) d_Net_valueOf_7 ?_
  have hb_1 := b_Vv (X / 2 ^ 1)
  refine lv_iload_n hx hb d_Net_valueOf_8 rfl (lv_at hl 1 rfl) ?_
  refine lv_iconst (v := nI 1) hx hb d_Net_valueOf_9 rfl ?_
  refine lv_iand hx hb d_Net_valueOf_10 ?_
  refine k_top (nI_and _ _) ?_
  refine lv_ixor hx hb d_Net_valueOf_11 ?_
  refine k_top (nI_xor _ _) ?_
  exact W.iret (v := nI ((Vv (X / 2 ^ 1)) ^^^ (X &&& 1))) hx hb hr (fun t ht hW => ⟨⟨nI ((Vv (X / 2 ^ 1)) ^^^ (X &&& 1)), (), rfl, (by rw [and1, bx1 (b_Vv _) (by omega)]), by rw [ht]; exact hP, va_K.moved hW.alike hK, hD⟩, hS.F ht⟩) hS.2.2 d_Net_valueOf_12
set_option maxHeartbeats 4000000 in
set_option maxRecDepth 100000 in
theorem c_Net_putWord (l : Launch) (dC : Nat → ClassId) (dI : Nat → Nat → Nat) (cI cZ : ClassId) (a_net a_pairs a_depths a_values a_slots : Nat) (tt sz : Nat) (g : Nat) (gd : Nat) (st : Nat) (Vv : Nat → Nat) (S : Nat) (w : Nat) (b_g : g ≤ 1280) (b_gd : gd < 1400) (b_st : st ≤ 1) (b_Vv : ∀ j, Vv j < 2) (hS14 : S < 14) (hw : w < 2147483648) : Met l y_Net_putWord w_Net_putWord ({ frames := 0, cells := 0, slots := 0, locals := 0 }) (va_Pc [.ref a_net, .int (nI S), .int (nI w)] (PW (dC, dI) classes [(cI, .int), (cZ, .boolean)] tt [(a_net, .inr (0, [.int (nI g), .int (nI gd), .ref a_pairs, .ref a_depths, .ref a_values, .ref a_slots, .int (nI st)])), (a_values, .inl (cI, 1393, .inl (nF Vv)))] sz)) (va_Qv (fun (u : Unit) => True) (AT (dC, dI) classes [(cI, .int), (cZ, .boolean)] (va_A [(a_net, .inr (0, [.int (nI g), .int (nI gd), .ref a_pairs, .ref a_depths, .ref a_values, .ref a_slots, .int (nI st)])), (a_values, .inl (cI, 1393, .inl (nF Vv)))] sz) (fun (u : Unit) => [(a_net, .inr (0, [.int (nI g), .int (nI gd), .ref a_pairs, .ref a_depths, .ref a_values, .ref a_slots, .int (nI 0)])), (a_values, .inl (cI, 1393, .inl (nF (putW Vv S w 8))))])) (va_A [(a_net, .inr (0, [.int (nI g), .int (nI gd), .ref a_pairs, .ref a_depths, .ref a_values, .ref a_slots, .int (nI st)])), (a_values, .inl (cI, 1393, .inl (nF Vv)))] sz)) 0 0 (va_A [(a_net, .inr (0, [.int (nI g), .int (nI gd), .ref a_pairs, .ref a_depths, .ref a_values, .ref a_slots, .int (nI st)])), (a_values, .inl (cI, 1393, .inl (nF Vv)))] sz) := by
  refine Met.ofW (cc := b_Net_putWord) (maxL := 5) (ret := none) (by decide) rfl ?_
  intro p e s m args below meth c s₁ B hml hv
  obtain ⟨rfl, hsz, hP, hK, hD0, hE⟩ := hv
  have hx := B.exec
  have hb := B.bytes
  have hr := B.returns
  have hts := atoms_spec (ws := w_Net_putWord) B.pre
  have hown : s.vm.findClass R_Net = some m.cls := findClass_of_methodNamed B.named
  have hlocks := B.notSynchronized
  subst hsz
  have hD := hD0.self (sz := s.heap.size)
  generalize hAe : va_A [(a_net, .inr (0, [.int (nI g), .int (nI gd), .ref a_pairs, .ref a_depths, .ref a_values, .ref a_slots, .int (nI st)])), (a_values, .inl (cI, 1393, .inl (nF Vv)))] s.heap.size = A at hD hE ⊢
  have hA : ∀ q : Nat, s.heap.size ≤ q → A q := fun q h => by rw [← hAe]; exact Or.inr h
  have hS : va_S A s.heap s.heap [] := va_S.rf
  have hP : va_P (dC, dI) classes [(a_net, .inr (0, [.int (nI g), .int (nI gd), .ref a_pairs, .ref a_depths, .ref a_values, .ref a_slots, .int (nI st)])), (a_values, .inl (cI, 1393, .inl (nF Vv)))] s.heap := hP
  have hl := lv_entry ([.ref a_net, .int (nI S), .int (nI w)]) (n := 5) (Nat.le_of_ble_eq_true rfl)
  rw [lg_entry_eq]
  generalize (lg_sl ([.ref a_net, .int (nI S), .int (nI w)]) ++ List.replicate (5 - (lg_sl ([.ref a_net, .int (nI S), .int (nI w)])).length) Slot.unset).toArray = ls at hl ⊢
  have hl : lv_has ls 5 [(0, .ref a_net), (1, .int (nI S)), (2, .int (nI w))] := hl
  refine lv_iconst (v := nI 1) hx hb d_Net_putWord_0 rfl ?_
  refine lv_iload_n hx hb d_Net_putWord_1 rfl (lv_at hl 1 rfl) ?_
  refine lv_bipush (v := nI 8) hx hb d_Net_putWord_2 rfl ?_
  refine lv_imul hx hb d_Net_putWord_4 ?_
  refine k_top (pk_mul _ _) ?_
  refine lv_iadd hx hb d_Net_putWord_5 ?_
  refine k_top (nI_add _ _) ?_
  refine lv_istore_n (lv' := [(3, .int (nI (1 + (S * 8)))), (0, .ref a_net), (1, .int (nI S)), (2, .int (nI w))]) hx hb d_Net_putWord_6 rfl hl (by decide) rfl (fun ls hl => ?_)
  refine lv_iconst (v := nI 0) hx hb d_Net_putWord_7 rfl ?_
  refine lv_istore (lv' := [(4, .int (nI 0)), (3, .int (nI (1 + (S * 8)))), (0, .ref a_net), (1, .int (nI S)), (2, .int (nI w))]) hx hb d_Net_putWord_8 hl (by decide) rfl (fun ls hl => ?_)
  have hI_1 : (∀ j, Vv j < 2) ∧ (Vv = putW Vv S w 0) ∧ (0 ≤ 8) := ⟨b_Vv, (putW_0 Vv S w), (by omega)⟩
  refine k_loop (σ := Nat × (Nat → Nat)) (D := (dC, dI)) (cl := classes) (A := A) (H0 := s.heap) (fun x => [(a_net, .inr (0, [.int (nI g), .int (nI gd), .ref a_pairs, .ref a_depths, .ref a_values, .ref a_slots, .int (nI st)])), (a_values, .inl (cI, 1393, .inl (nF x.2)))]) (fun x => [(4, .int (nI x.1)), (3, .int (nI (1 + (S * 8)))), (0, .ref a_net), (1, .int (nI S)), (2, .int (nI w))]) (fun x => (∀ j, x.2 j < 2) ∧ (x.2 = putW Vv S w x.1) ∧ (x.1 ≤ 8)) (fun x => 8 - x.1) ?_ (0, Vv) hI_1 hP hD hS (lv_sub hl [0, 1, 2, 3, 4] rfl)
  rintro ⟨b, V1⟩ hI ih_2 H locs ls hP hD hS hl
  obtain ⟨b_V1, hv, hb8⟩ : (∀ j, V1 j < 2) ∧ (V1 = putW Vv S w b) ∧ (b ≤ 8) := hI
  have hP : va_P (dC, dI) classes [(a_net, .inr (0, [.int (nI g), .int (nI gd), .ref a_pairs, .ref a_depths, .ref a_values, .ref a_slots, .int (nI st)])), (a_values, .inl (cI, 1393, .inl (nF V1)))] H := hP
  have hD : va_D A [(a_net, .inr (0, [.int (nI g), .int (nI gd), .ref a_pairs, .ref a_depths, .ref a_values, .ref a_slots, .int (nI st)])), (a_values, .inl (cI, 1393, .inl (nF V1)))] := hD
  have hl : lv_has ls 5 [(4, .int (nI b)), (3, .int (nI (1 + (S * 8)))), (0, .ref a_net), (1, .int (nI S)), (2, .int (nI w))] := hl
  refine lv_iload hx hb d_Net_putWord_10 (lv_at hl 0 rfl) ?_
  refine lv_bipush (v := nI 8) hx hb d_Net_putWord_12 rfl ?_
  refine lv_icmp_ge (tgt := 38) hx hb d_Net_putWord_14 (by decide) (fun c14 => ?_) (fun c14 => ?_)
  · skip
    have c14 : 8 ≤ b := (nI_leI (by omega) (by omega)).mp c14
    obtain rfl : b = 8 := by omega
    subst hv
    refine lv_aload_n hx hb d_Net_putWord_38 rfl (lv_at hl 2 rfl) ?_
    refine lv_iconst (v := nI 0) hx hb d_Net_putWord_39 rfl ?_
    refine va_put (D := (dC, dI)) (ci := 0) (v := .int (nI 0)) (ty := .boolean) (C := R_Net) (T := F_Net) (N := 7) hx hb hts (wi i_Net) t_Net t_Net_ok n_Net hown hK hP hD hS 0 rfl rfl 6 (by decide) (hts _ (mt 184 rfl rfl)) (fun _ h9 => h9) rfl (by decide +kernel) (k_narZ (by omega)) (k_fitZ (by omega)) (Nat.le_of_ble_eq_true rfl) d_Net_putWord_40 (fun H locs hP hD hS => ?_)
    have hP : va_P (dC, dI) classes [(a_net, .inr (0, [.int (nI g), .int (nI gd), .ref a_pairs, .ref a_depths, .ref a_values, .ref a_slots, .int (nI 0)])), (a_values, .inl (cI, 1393, .inl (nF (putW Vv S w 8))))] H := hP
    have hD : va_D A [(a_net, .inr (0, [.int (nI g), .int (nI gd), .ref a_pairs, .ref a_depths, .ref a_values, .ref a_slots, .int (nI 0)])), (a_values, .inl (cI, 1393, .inl (nF (putW Vv S w 8))))] := hD
    exact W.vret hx hb hr (fun t ht hW => ⟨⟨(), rfl, trivial, by rw [ht]; exact hP, va_K.moved hW.alike hK, hD⟩, hS.F ht⟩) hS.2.2 d_Net_putWord_43
  · skip
    have c14 : ¬ (8 ≤ b) := fun h => c14 ((nI_leI (by omega) (by omega)).mpr h)
    refine lv_aload_n hx hb d_Net_putWord_17 rfl (lv_at hl 2 rfl) ?_
    refine va_get (D := (dC, dI)) (ci := 0) (v := .ref a_values) (C := R_Net) (T := F_Net) (N := 7) hx hb hts (wi i_Net) hown hK hP 0 rfl rfl 4 (by decide) (hts _ (mt 182 rfl rfl)) (fun _ h9 => h9) rfl d_Net_putWord_18 ?_
    refine lv_iload_n hx hb d_Net_putWord_21 rfl (lv_at hl 1 rfl) ?_
    refine lv_iload hx hb d_Net_putWord_22 (lv_at hl 0 rfl) ?_
    refine lv_iadd hx hb d_Net_putWord_24 ?_
    refine k_top (nI_add _ _) ?_
    refine lv_iload_n hx hb d_Net_putWord_25 rfl (lv_at hl 4 rfl) ?_
    refine lv_iload hx hb d_Net_putWord_26 (lv_at hl 0 rfl) ?_
    refine lv_ishr hx hb d_Net_putWord_28 ?_
    refine k_top (nI_shr (by omega) (by omega)) ?_
    refine lv_iconst (v := nI 1) hx hb d_Net_putWord_29 rfl ?_
    refine lv_iand hx hb d_Net_putWord_30 ?_
    refine k_top (nI_and _ _) ?_
    refine k_ist hx hb hK hP hD hS 1 0 rfl rfl (by omega) (by decide) d_Net_putWord_31 (fun H locs hP hD hS => ?_)
    have bb_3 : ∀ j, upN V1 ((1 + (S * 8)) + b) ((w / 2 ^ b) &&& 1) j < 2 := upN_lt b_V1 (by rw [and1]; omega)
    have hP : va_P (dC, dI) classes [(a_net, .inr (0, [.int (nI g), .int (nI gd), .ref a_pairs, .ref a_depths, .ref a_values, .ref a_slots, .int (nI st)])), (a_values, .inl (cI, 1393, .inl (nF (upN V1 ((1 + (S * 8)) + b) ((w / 2 ^ b) &&& 1)))))] H := hP
    have hD : va_D A [(a_net, .inr (0, [.int (nI g), .int (nI gd), .ref a_pairs, .ref a_depths, .ref a_values, .ref a_slots, .int (nI st)])), (a_values, .inl (cI, 1393, .inl (nF (upN V1 ((1 + (S * 8)) + b) ((w / 2 ^ b) &&& 1)))))] := hD
    refine lv_iinc (v := nI (b + 1)) (lv' := [(4, .int (nI (b + 1))), (3, .int (nI (1 + (S * 8)))), (0, .ref a_net), (1, .int (nI S)), (2, .int (nI w))]) hx hb d_Net_putWord_32 hl (k := 0) rfl (k_inc _ 1) (by decide) rfl (fun ls hl => ?_)
    refine lv_goto (tgt := 10) hx hb d_Net_putWord_35 (by decide) ?_
    have hI_4 : (∀ j, (upN V1 ((1 + (S * 8)) + b) ((w / 2 ^ b) &&& 1)) j < 2) ∧ ((upN V1 ((1 + (S * 8)) + b) ((w / 2 ^ b) &&& 1)) = putW Vv S w (b + 1)) ∧ ((b + 1) ≤ 8) := ⟨bb_3, (by rw [hv]; exact putW_s Vv S w b), (by omega)⟩
    exact ih_2 (b + 1, upN V1 ((1 + (S * 8)) + b) ((w / 2 ^ b) &&& 1)) hI_4 (show 8 - (b + 1) < 8 - b from by omega) _ _ _ hP hD hS (lv_sub hl [0, 1, 2, 3, 4] rfl)
set_option maxHeartbeats 4000000 in
set_option maxRecDepth 100000 in
theorem c_Net_wordOf (l : Launch) (dC : Nat → ClassId) (dI : Nat → Nat → Nat) (cI cZ : ClassId) (a_net a_pairs a_depths a_values a_slots a_lits : Nat) (tt sz : Nat) (g : Nat) (gd : Nat) (st : Nat) (Vv : Nat → Nat) (Li : Nat → Nat) (S : Nat) (w : Nat) (b_g : g ≤ 1280) (b_gd : gd < 1400) (b_st : st ≤ 1) (b_Vv : ∀ j, Vv j < 2) (b_Li : ∀ j, Li j < 2786) (hS14 : S < 14) (hw : w ≤ 8) : Met l y_Net_wordOf w_Net_wordOf ({ frames := 1, cells := 0, slots := 0, locals := 21 }) (va_Pc [.ref a_net, .ref a_lits, .int (nI S), .int (nI w)] (PW (dC, dI) classes [(cI, .int), (cZ, .boolean)] tt [(a_net, .inr (0, [.int (nI g), .int (nI gd), .ref a_pairs, .ref a_depths, .ref a_values, .ref a_slots, .int (nI st)])), (a_values, .inl (cI, 1393, .inl (nF Vv))), (a_lits, .inl (cI, 112, .inl (nF Li)))] sz)) (va_Qi (fun (r : Int32) (u : Unit) => (r = nI (wrd (fun j => (Vv (Li (S * 8 + j) / 2) + Li (S * 8 + j) % 2) % 2) w))) (AT (dC, dI) classes [(cI, .int), (cZ, .boolean)] (va_A [(a_net, .inr (0, [.int (nI g), .int (nI gd), .ref a_pairs, .ref a_depths, .ref a_values, .ref a_slots, .int (nI st)])), (a_values, .inl (cI, 1393, .inl (nF Vv))), (a_lits, .inl (cI, 112, .inl (nF Li)))] sz) (fun (u : Unit) => [(a_net, .inr (0, [.int (nI g), .int (nI gd), .ref a_pairs, .ref a_depths, .ref a_values, .ref a_slots, .int (nI st)])), (a_values, .inl (cI, 1393, .inl (nF Vv))), (a_lits, .inl (cI, 112, .inl (nF Li)))])) (va_A [(a_net, .inr (0, [.int (nI g), .int (nI gd), .ref a_pairs, .ref a_depths, .ref a_values, .ref a_slots, .int (nI st)])), (a_values, .inl (cI, 1393, .inl (nF Vv))), (a_lits, .inl (cI, 112, .inl (nF Li)))] sz)) 0 0 (va_A [(a_net, .inr (0, [.int (nI g), .int (nI gd), .ref a_pairs, .ref a_depths, .ref a_values, .ref a_slots, .int (nI st)])), (a_values, .inl (cI, 1393, .inl (nF Vv))), (a_lits, .inl (cI, 112, .inl (nF Li)))] sz) := by
  refine Met.ofW (cc := b_Net_wordOf) (maxL := 6) (ret := (some .int)) (by decide) rfl ?_
  intro p e s m args below meth c s₁ B hml hv
  obtain ⟨rfl, hsz, hP, hK, hD0, hE⟩ := hv
  have hx := B.exec
  have hb := B.bytes
  have hr := B.returns
  have hts := atoms_spec (ws := w_Net_wordOf) B.pre
  have hown : s.vm.findClass R_Net = some m.cls := findClass_of_methodNamed B.named
  have hlocks := B.notSynchronized
  subst hsz
  have hD := hD0.self (sz := s.heap.size)
  generalize hAe : va_A [(a_net, .inr (0, [.int (nI g), .int (nI gd), .ref a_pairs, .ref a_depths, .ref a_values, .ref a_slots, .int (nI st)])), (a_values, .inl (cI, 1393, .inl (nF Vv))), (a_lits, .inl (cI, 112, .inl (nF Li)))] s.heap.size = A at hD hE ⊢
  have hA : ∀ q : Nat, s.heap.size ≤ q → A q := fun q h => by rw [← hAe]; exact Or.inr h
  have hS : va_S A s.heap s.heap [] := va_S.rf
  have hP : va_P (dC, dI) classes [(a_net, .inr (0, [.int (nI g), .int (nI gd), .ref a_pairs, .ref a_depths, .ref a_values, .ref a_slots, .int (nI st)])), (a_values, .inl (cI, 1393, .inl (nF Vv))), (a_lits, .inl (cI, 112, .inl (nF Li)))] s.heap := hP
  have hl := lv_entry ([.ref a_net, .ref a_lits, .int (nI S), .int (nI w)]) (n := 6) (Nat.le_of_ble_eq_true rfl)
  rw [lg_entry_eq]
  generalize (lg_sl ([.ref a_net, .ref a_lits, .int (nI S), .int (nI w)]) ++ List.replicate (6 - (lg_sl ([.ref a_net, .ref a_lits, .int (nI S), .int (nI w)])).length) Slot.unset).toArray = ls at hl ⊢
  have hl : lv_has ls 6 [(0, .ref a_net), (1, .ref a_lits), (2, .int (nI S)), (3, .int (nI w))] := hl
  refine lv_iconst (v := nI 0) hx hb d_Net_wordOf_0 rfl ?_
  refine lv_istore (lv' := [(4, .int (nI 0)), (0, .ref a_net), (1, .ref a_lits), (2, .int (nI S)), (3, .int (nI w))]) hx hb d_Net_wordOf_1 hl (by decide) rfl (fun ls hl => ?_)
  refine lv_iconst (v := nI 0) hx hb d_Net_wordOf_3 rfl ?_
  refine lv_istore (lv' := [(5, .int (nI 0)), (4, .int (nI 0)), (0, .ref a_net), (1, .ref a_lits), (2, .int (nI S)), (3, .int (nI w))]) hx hb d_Net_wordOf_4 hl (by decide) rfl (fun ls hl => ?_)
  have hI_1 : (0 = wrd (fun j => (Vv (Li (S * 8 + j) / 2) + Li (S * 8 + j) % 2) % 2) 0) ∧ (0 ≤ w) := ⟨rfl, (by omega)⟩
  refine k_loop (σ := Nat × Nat) (D := (dC, dI)) (cl := classes) (A := A) (H0 := s.heap) (fun x => [(a_net, .inr (0, [.int (nI g), .int (nI gd), .ref a_pairs, .ref a_depths, .ref a_values, .ref a_slots, .int (nI st)])), (a_values, .inl (cI, 1393, .inl (nF Vv))), (a_lits, .inl (cI, 112, .inl (nF Li)))]) (fun x => [(5, .int (nI x.2)), (4, .int (nI x.1)), (0, .ref a_net), (1, .ref a_lits), (2, .int (nI S)), (3, .int (nI w))]) (fun x => (x.1 = wrd (fun j => (Vv (Li (S * 8 + j) / 2) + Li (S * 8 + j) % 2) % 2) x.2) ∧ (x.2 ≤ w)) (fun x => w - x.2) ?_ (0, 0) hI_1 hP hD hS (lv_sub hl [0, 1, 2, 3, 4, 5] rfl)
  rintro ⟨x, b⟩ hI ih_2 H locs ls hP hD hS hl
  obtain ⟨hx4, hb8⟩ : (x = wrd (fun j => (Vv (Li (S * 8 + j) / 2) + Li (S * 8 + j) % 2) % 2) b) ∧ (b ≤ w) := hI
  have hP : va_P (dC, dI) classes [(a_net, .inr (0, [.int (nI g), .int (nI gd), .ref a_pairs, .ref a_depths, .ref a_values, .ref a_slots, .int (nI st)])), (a_values, .inl (cI, 1393, .inl (nF Vv))), (a_lits, .inl (cI, 112, .inl (nF Li)))] H := hP
  have hD : va_D A [(a_net, .inr (0, [.int (nI g), .int (nI gd), .ref a_pairs, .ref a_depths, .ref a_values, .ref a_slots, .int (nI st)])), (a_values, .inl (cI, 1393, .inl (nF Vv))), (a_lits, .inl (cI, 112, .inl (nF Li)))] := hD
  have hl : lv_has ls 6 [(5, .int (nI b)), (4, .int (nI x)), (0, .ref a_net), (1, .ref a_lits), (2, .int (nI S)), (3, .int (nI w))] := hl
  refine lv_iload hx hb d_Net_wordOf_6 (lv_at hl 0 rfl) ?_
  refine lv_iload_n hx hb d_Net_wordOf_8 rfl (lv_at hl 5 rfl) ?_
  refine lv_icmp_ge (tgt := 39) hx hb d_Net_wordOf_9 (by decide) (fun c9 => ?_) (fun c9 => ?_)
  · skip
    have c9 : w ≤ b := (nI_leI (by omega) (by omega)).mp c9
    refine lv_iload hx hb d_Net_wordOf_39 (lv_at hl 1 rfl) ?_
    exact W.iret (v := nI x) hx hb hr (fun t ht hW => ⟨⟨nI x, (), rfl, (by rw [hx4, show b = w by omega]), by rw [ht]; exact hP, va_K.moved hW.alike hK, hD⟩, hS.F ht⟩) hS.2.2 d_Net_wordOf_41
  · skip
    have c9 : ¬ (w ≤ b) := fun h => c9 ((nI_leI (by omega) (by omega)).mpr h)
    refine lv_iload hx hb d_Net_wordOf_12 (lv_at hl 1 rfl) ?_
    refine lv_aload_n hx hb d_Net_wordOf_14 rfl (lv_at hl 2 rfl) ?_
    refine lv_aload_n hx hb d_Net_wordOf_15 rfl (lv_at hl 3 rfl) ?_
    refine lv_iload_n hx hb d_Net_wordOf_16 rfl (lv_at hl 4 rfl) ?_
    refine lv_bipush (v := nI 8) hx hb d_Net_wordOf_17 rfl ?_
    refine lv_imul hx hb d_Net_wordOf_19 ?_
    refine k_top (pk_mul _ _) ?_
    refine lv_iload hx hb d_Net_wordOf_20 (lv_at hl 0 rfl) ?_
    refine lv_iadd hx hb d_Net_wordOf_22 ?_
    refine k_top (nI_add _ _) ?_
    refine k_ild hx hb hK hP 2 0 rfl rfl (by omega) (by decide) d_Net_wordOf_23 ?_
    have hb_3 := b_Li ((S * 8) + b)
    refine k_i (wr := [(a_lits, .inl (cI, 112, .inl (nF Li)))]) (w2 := fun (u : Unit) => [(a_net, .inr (0, [.int (nI g), .int (nI gd), .ref a_pairs, .ref a_depths, .ref a_values, .ref a_slots, .int (nI st)])), (a_values, .inl (cI, 1393, .inl (nF Vv))), (a_lits, .inl (cI, 112, .inl (nF Li)))]) (va_runV (As := [.int (nI (Li ((S * 8) + b)))]) (rest := [.int (nI x)]) ⟨hx, hb, hml, hown, hts⟩ (c_Net_valueOf l dC dI cI cZ a_net a_pairs a_depths a_values a_slots tt H.size g gd st Vv (Li ((S * 8) + b)) (by omega) (by omega) (by omega) b_Vv (by omega) (by omega)) (cwV 1 hts (gd_V in_tl (mw 494 rfl rfl) (mw 496 rfl rfl) (mw 18 rfl rfl) (mw 45 rfl rfl) (mw 497 rfl rfl)) rfl rfl rfl (by decide +kernel) ⟨Nat.le_of_ble_eq_true rfl, Nat.le_of_ble_eq_true rfl⟩) (k_preV hK hP hD hS hA hE [0, 1] (by decide) rfl 0 0 rfl rfl) rfl rfl hl.1 rfl (lv_room (Nat.le_of_ble_eq_true rfl)) d_Net_wordOf_24 ⟨Nat.zero_le _, Nat.zero_le _⟩) hP hD hS hA [0, 1] [2] [1, 2, 0] rfl rfl (by decide) (by decide) (by decide) (fun _ => rfl) (fun r_4 u H locs hw hP hD hS => ?_)
    obtain rfl : (r_4 = nI ((Vv ((Li ((S * 8) + b)) / 2) + (Li ((S * 8) + b)) % 2) % 2)) := hw
    have hP : va_P (dC, dI) classes [(a_net, .inr (0, [.int (nI g), .int (nI gd), .ref a_pairs, .ref a_depths, .ref a_values, .ref a_slots, .int (nI st)])), (a_values, .inl (cI, 1393, .inl (nF Vv))), (a_lits, .inl (cI, 112, .inl (nF Li)))] H := hP
    have hD : va_D A [(a_net, .inr (0, [.int (nI g), .int (nI gd), .ref a_pairs, .ref a_depths, .ref a_values, .ref a_slots, .int (nI st)])), (a_values, .inl (cI, 1393, .inl (nF Vv))), (a_lits, .inl (cI, 112, .inl (nF Li)))] := hD
    refine lv_iload hx hb d_Net_wordOf_27 (lv_at hl 0 rfl) ?_
    refine lv_ishl hx hb d_Net_wordOf_29 ?_
    refine k_top (nI_shl _ (by omega)) ?_
    refine lv_ior hx hb d_Net_wordOf_30 ?_
    refine k_top (nI_or _ _) ?_
    refine lv_istore (lv' := [(4, .int (nI (x ||| (((Vv ((Li ((S * 8) + b)) / 2) + (Li ((S * 8) + b)) % 2) % 2) * 2 ^ b)))), (5, .int (nI b)), (0, .ref a_net), (1, .ref a_lits), (2, .int (nI S)), (3, .int (nI w))]) hx hb d_Net_wordOf_31 hl (by decide) rfl (fun ls hl => ?_)
    refine lv_iinc (v := nI (b + 1)) (lv' := [(5, .int (nI (b + 1))), (4, .int (nI (x ||| (((Vv ((Li ((S * 8) + b)) / 2) + (Li ((S * 8) + b)) % 2) % 2) * 2 ^ b)))), (0, .ref a_net), (1, .ref a_lits), (2, .int (nI S)), (3, .int (nI w))]) hx hb d_Net_wordOf_33 hl (k := 1) rfl (k_inc _ 1) (by decide) rfl (fun ls hl => ?_)
    refine lv_goto (tgt := 6) hx hb d_Net_wordOf_36 (by decide) ?_
    have hI_5 : ((x ||| (((Vv ((Li ((S * 8) + b)) / 2) + (Li ((S * 8) + b)) % 2) % 2) * 2 ^ b)) = wrd (fun j => (Vv (Li (S * 8 + j) / 2) + Li (S * 8 + j) % 2) % 2) (b + 1)) ∧ ((b + 1) ≤ w) := ⟨(by rw [hx4]; exact wrd_or (f := (fun j => (Vv (Li (S * 8 + j) / 2) + Li (S * 8 + j) % 2) % 2)) (fun j => Nat.mod_lt _ (by decide)) b), (by omega)⟩
    exact ih_2 (x ||| (((Vv ((Li ((S * 8) + b)) / 2) + (Li ((S * 8) + b)) % 2) % 2) * 2 ^ b), b + 1) hI_5 (show w - (b + 1) < w - b from by omega) _ _ _ hP hD hS (lv_sub hl [0, 1, 2, 3, 4, 5] rfl)
