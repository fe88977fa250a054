abbrev b_Net_gatesAtOne : ByteArray := prog_3_method_16_code
def y_Net_gatesAtOne : MethodName := ⟨"CircuitDesk$Net", "gatesAtOne", "()I"⟩
def w_Net_gatesAtOne : List Cond := .code y_Net_gatesAtOne b_Net_gatesAtOne 3 (some .int) :: lw_gw
theorem d_Net_gatesAtOne_0 : decode b_Net_gatesAtOne 0 = .ok (.aload_n 0, 1) := by decide +kernel
theorem d_Net_gatesAtOne_1 : decode b_Net_gatesAtOne 1 = .ok (.invokevirtual 60, 3) := by decide +kernel
theorem d_Net_gatesAtOne_4 : decode b_Net_gatesAtOne 4 = .ok (.iconst 0, 1) := by decide +kernel
theorem d_Net_gatesAtOne_5 : decode b_Net_gatesAtOne 5 = .ok (.istore_n 1, 1) := by decide +kernel
theorem d_Net_gatesAtOne_6 : decode b_Net_gatesAtOne 6 = .ok (.iconst 0, 1) := by decide +kernel
theorem d_Net_gatesAtOne_7 : decode b_Net_gatesAtOne 7 = .ok (.istore_n 2, 1) := by decide +kernel
theorem d_Net_gatesAtOne_8 : decode b_Net_gatesAtOne 8 = .ok (.iload_n 2, 1) := by decide +kernel
theorem d_Net_gatesAtOne_9 : decode b_Net_gatesAtOne 9 = .ok (.aload_n 0, 1) := by decide +kernel
theorem d_Net_gatesAtOne_10 : decode b_Net_gatesAtOne 10 = .ok (.getfield 30, 3) := by decide +kernel
theorem d_Net_gatesAtOne_13 : decode b_Net_gatesAtOne 13 = .ok (.if_icmp .ge 21, 3) := by decide +kernel
theorem d_Net_gatesAtOne_16 : decode b_Net_gatesAtOne 16 = .ok (.iload_n 1, 1) := by decide +kernel
theorem d_Net_gatesAtOne_17 : decode b_Net_gatesAtOne 17 = .ok (.aload_n 0, 1) := by decide +kernel
theorem d_Net_gatesAtOne_18 : decode b_Net_gatesAtOne 18 = .ok (.getfield 18, 3) := by decide +kernel
theorem d_Net_gatesAtOne_21 : decode b_Net_gatesAtOne 21 = .ok (.bipush 113, 2) := by decide +kernel
theorem d_Net_gatesAtOne_23 : decode b_Net_gatesAtOne 23 = .ok (.iload_n 2, 1) := by decide +kernel
theorem d_Net_gatesAtOne_24 : decode b_Net_gatesAtOne 24 = .ok (.iadd, 1) := by decide +kernel
theorem d_Net_gatesAtOne_25 : decode b_Net_gatesAtOne 25 = .ok (.iaload, 1) := by decide +kernel
theorem d_Net_gatesAtOne_26 : decode b_Net_gatesAtOne 26 = .ok (.iadd, 1) := by decide +kernel
theorem d_Net_gatesAtOne_27 : decode b_Net_gatesAtOne 27 = .ok (.istore_n 1, 1) := by decide +kernel
theorem d_Net_gatesAtOne_28 : decode b_Net_gatesAtOne 28 = .ok (.iinc 2 1, 3) := by decide +kernel
theorem d_Net_gatesAtOne_31 : decode b_Net_gatesAtOne 31 = .ok (.goto (-23), 3) := by decide +kernel
theorem d_Net_gatesAtOne_34 : decode b_Net_gatesAtOne 34 = .ok (.iload_n 1, 1) := by decide +kernel
theorem d_Net_gatesAtOne_35 : decode b_Net_gatesAtOne 35 = .ok (.ireturn, 1) := by decide +kernel
abbrev b_Arr_fill : ByteArray := prog_11_method_103_code
def y_Arr_fill : MethodName := ⟨"java/util/Arrays", "fill", "([II)V"⟩
def w_Arr_fill : List Cond := .code y_Arr_fill b_Arr_fill 4 none :: lw_gw
theorem d_Arr_fill_0 : decode b_Arr_fill 0 = .ok (.iconst 0, 1) := by decide +kernel
theorem d_Arr_fill_1 : decode b_Arr_fill 1 = .ok (.istore_n 2, 1) := by decide +kernel
theorem d_Arr_fill_2 : decode b_Arr_fill 2 = .ok (.aload_n 0, 1) := by decide +kernel
theorem d_Arr_fill_3 : decode b_Arr_fill 3 = .ok (.arraylength, 1) := by decide +kernel
theorem d_Arr_fill_4 : decode b_Arr_fill 4 = .ok (.istore_n 3, 1) := by decide +kernel
theorem d_Arr_fill_5 : decode b_Arr_fill 5 = .ok (.iload_n 2, 1) := by decide +kernel
theorem d_Arr_fill_6 : decode b_Arr_fill 6 = .ok (.iload_n 3, 1) := by decide +kernel
theorem d_Arr_fill_7 : decode b_Arr_fill 7 = .ok (.if_icmp .ge 13, 3) := by decide +kernel
theorem d_Arr_fill_10 : decode b_Arr_fill 10 = .ok (.aload_n 0, 1) := by decide +kernel
theorem d_Arr_fill_11 : decode b_Arr_fill 11 = .ok (.iload_n 2, 1) := by decide +kernel
theorem d_Arr_fill_12 : decode b_Arr_fill 12 = .ok (.iload_n 1, 1) := by decide +kernel
theorem d_Arr_fill_13 : decode b_Arr_fill 13 = .ok (.iastore, 1) := by decide +kernel
theorem d_Arr_fill_14 : decode b_Arr_fill 14 = .ok (.iinc 2 1, 3) := by decide +kernel
theorem d_Arr_fill_17 : decode b_Arr_fill 17 = .ok (.goto (-12), 3) := by decide +kernel
theorem d_Arr_fill_20 : decode b_Arr_fill 20 = .ok (.return_, 1) := by decide +kernel
abbrev b_Net_removeGates : ByteArray := prog_3_method_2_code
def y_Net_removeGates : MethodName := ⟨"CircuitDesk$Net", "removeGates", "()V"⟩
def w_Net_removeGates : List Cond := .code y_Net_removeGates b_Net_removeGates 1 none :: lw_gw
theorem d_Net_removeGates_0 : decode b_Net_removeGates 0 = .ok (.aload_n 0, 1) := by decide +kernel
theorem d_Net_removeGates_1 : decode b_Net_removeGates 1 = .ok (.getfield 21, 3) := by decide +kernel
theorem d_Net_removeGates_4 : decode b_Net_removeGates 4 = .ok (.iconst 0, 1) := by decide +kernel
theorem d_Net_removeGates_5 : decode b_Net_removeGates 5 = .ok (.invokestatic 24, 3) := by decide +kernel
theorem d_Net_removeGates_8 : decode b_Net_removeGates 8 = .ok (.aload_n 0, 1) := by decide +kernel
theorem d_Net_removeGates_9 : decode b_Net_removeGates 9 = .ok (.iconst 0, 1) := by decide +kernel
theorem d_Net_removeGates_10 : decode b_Net_removeGates 10 = .ok (.putfield 30, 3) := by decide +kernel
theorem d_Net_removeGates_13 : decode b_Net_removeGates 13 = .ok (.aload_n 0, 1) := by decide +kernel
theorem d_Net_removeGates_14 : decode b_Net_removeGates 14 = .ok (.iconst 0, 1) := by decide +kernel
theorem d_Net_removeGates_15 : decode b_Net_removeGates 15 = .ok (.putfield 34, 3) := by decide +kernel
theorem d_Net_removeGates_18 : decode b_Net_removeGates 18 = .ok (.aload_n 0, 1) := by decide +kernel
theorem d_Net_removeGates_19 : decode b_Net_removeGates 19 = .ok (.iconst 0, 1) := by decide +kernel
theorem d_Net_removeGates_20 : decode b_Net_removeGates 20 = .ok (.putfield 37, 3) := by decide +kernel
theorem d_Net_removeGates_23 : decode b_Net_removeGates 23 = .ok (.return_, 1) := by decide +kernel
set_option maxHeartbeats 4000000 in
set_option maxRecDepth 100000 in
theorem c_Net_gatesAtOne (l : Launch) (dC : Nat → ClassId) (dI : Nat → Nat → Nat) (cI cZ : ClassId) (a_net a_pairs a_depths a_values a_slots : Nat) (tt sz : Nat) (g : Nat) (gd : Nat) (st : Nat) (P : Nat → Nat) (Vv : Nat → Nat) (T : Nat → Nat) (E : Nat → Nat) (Dp : Nat → Nat) (Sl : Nat → Nat) (b_g : g ≤ 1280) (b_gd : gd < 1400) (b_st : st ≤ 1) (b_P : ∀ j, P j < 16777216) (b_Vv : ∀ j, Vv j < 2) (hNI : NI g P Dp Sl T) (hv0 : Vv 0 = 0) (hvb : ∀ k, k < 112 → Vv (k + 1) = E k) (hset : st = 1 → ∀ n, n < 113 + g → Vv n = evn E (T n)) : Met l y_Net_gatesAtOne w_Net_gatesAtOne ({ frames := 2, cells := 0, slots := 0, locals := 44 }) (va_Pc [.ref a_net] (PW (dC, dI) classes [(cI, .int), (cZ, .boolean)] tt [(a_net, .inr (0, [.int (nI g), .int (nI gd), .ref a_pairs, .ref a_depths, .ref a_values, .ref a_slots, .int (nI st)])), (a_pairs, .inl (cI, 1393, .inl (nF P))), (a_values, .inl (cI, 1393, .inl (nF Vv)))] sz)) (va_Qi (fun (r : Int32) (u : (Nat → Nat)) => ∃ rv : Nat, r = nI rv ∧ (∀ j, u j < 2) ∧ (∀ n, n < 113 + g → u n = evn E (T n)) ∧ (rv = cnt (fun z => evn E (T (113 + z))) g)) (AT (dC, dI) classes [(cI, .int), (cZ, .boolean)] (va_A [(a_net, .inr (0, [.int (nI g), .int (nI gd), .ref a_pairs, .ref a_depths, .ref a_values, .ref a_slots, .int (nI st)])), (a_pairs, .inl (cI, 1393, .inl (nF P))), (a_values, .inl (cI, 1393, .inl (nF Vv)))] sz) (fun (u : (Nat → Nat)) => [(a_net, .inr (0, [.int (nI g), .int (nI gd), .ref a_pairs, .ref a_depths, .ref a_values, .ref a_slots, .int (nI 1)])), (a_pairs, .inl (cI, 1393, .inl (nF P))), (a_values, .inl (cI, 1393, .inl (nF u)))])) (va_A [(a_net, .inr (0, [.int (nI g), .int (nI gd), .ref a_pairs, .ref a_depths, .ref a_values, .ref a_slots, .int (nI st)])), (a_pairs, .inl (cI, 1393, .inl (nF P))), (a_values, .inl (cI, 1393, .inl (nF Vv)))] sz)) 0 0 (va_A [(a_net, .inr (0, [.int (nI g), .int (nI gd), .ref a_pairs, .ref a_depths, .ref a_values, .ref a_slots, .int (nI st)])), (a_pairs, .inl (cI, 1393, .inl (nF P))), (a_values, .inl (cI, 1393, .inl (nF Vv)))] sz) := by
  refine Met.ofW (cc := b_Net_gatesAtOne) (maxL := 3) (ret := (some .int)) (by decide) rfl ?_
  intro p e s m args below meth c s₁ B hml hv
  obtain ⟨rfl, hsz, hP, hK, hD0, hE⟩ := hv
  have hx := B.exec
  have hb := B.bytes
  have hr := B.returns
  have hts := atoms_spec (ws := w_Net_gatesAtOne) B.pre
  have hown : s.vm.findClass R_Net = some m.cls := findClass_of_methodNamed B.named
  have hlocks := B.notSynchronized
  subst hsz
  have hD := hD0.self (sz := s.heap.size)
  generalize hAe : va_A [(a_net, .inr (0, [.int (nI g), .int (nI gd), .ref a_pairs, .ref a_depths, .ref a_values, .ref a_slots, .int (nI st)])), (a_pairs, .inl (cI, 1393, .inl (nF P))), (a_values, .inl (cI, 1393, .inl (nF Vv)))] s.heap.size = A at hD hE ⊢
  have hA : ∀ q : Nat, s.heap.size ≤ q → A q := fun q h => by rw [← hAe]; exact Or.inr h
  have hS : va_S A s.heap s.heap [] := va_S.rf
  have hP : va_P (dC, dI) classes [(a_net, .inr (0, [.int (nI g), .int (nI gd), .ref a_pairs, .ref a_depths, .ref a_values, .ref a_slots, .int (nI st)])), (a_pairs, .inl (cI, 1393, .inl (nF P))), (a_values, .inl (cI, 1393, .inl (nF Vv)))] s.heap := hP
  have hl := lv_entry ([.ref a_net]) (n := 3) (Nat.le_of_ble_eq_true rfl)
  rw [lg_entry_eq]
  generalize (lg_sl ([.ref a_net]) ++ List.replicate (3 - (lg_sl ([.ref a_net])).length) Slot.unset).toArray = ls at hl ⊢
  have hl : lv_has ls 3 [(0, .ref a_net)] := hl
  refine lv_aload_n hx hb d_Net_gatesAtOne_0 rfl (lv_at hl 0 rfl) ?_
  refine k_v (wr := []) (w2 := fun (u : (Nat → Nat)) => [(a_net, .inr (0, [.int (nI g), .int (nI gd), .ref a_pairs, .ref a_depths, .ref a_values, .ref a_slots, .int (nI 1)])), (a_pairs, .inl (cI, 1393, .inl (nF P))), (a_values, .inl (cI, 1393, .inl (nF u)))]) (va_runV (As := []) (rest := []) ⟨hx, hb, hml, hown, hts⟩ (c_Net_settle l dC dI cI cZ a_net a_pairs a_depths a_values a_slots tt s.heap.size g gd st P Vv T E Dp Sl  (by omega) (by omega) (by omega) b_P b_Vv hNI hv0 hvb hset) (cwV 0 hts (gd_V in_tl (mw 535 rfl rfl) (mw 491 rfl rfl) (mw 492 rfl rfl) (mw 45 rfl rfl) (mw 493 rfl rfl)) rfl rfl rfl (by decide +kernel) ⟨Nat.le_of_ble_eq_true rfl, Nat.le_of_ble_eq_true rfl⟩) (k_preV hK hP hD hS hA hE [0, 1, 2] (by decide) rfl 0 0 rfl rfl) rfl rfl hl.1 rfl (lv_room (Nat.le_of_ble_eq_true rfl)) d_Net_gatesAtOne_1 ⟨Nat.zero_le _, Nat.zero_le _⟩) hP hD hS hA [0, 1, 2] [] [0, 1, 2] rfl rfl (by decide) (by decide) (by decide) (fun _ => rfl) (fun u H locs hw hP hD hS => ?_)
  obtain ⟨Vvv_1, rfl⟩ : ∃ z, z = u := ⟨_, rfl⟩
  obtain ⟨b_Vvv_1, hs_1⟩ : (∀ j, Vvv_1 j < 2) ∧ (∀ n, n < 113 + g → Vvv_1 n = evn E (T n)) := hw
  have hP : va_P (dC, dI) classes [(a_net, .inr (0, [.int (nI g), .int (nI gd), .ref a_pairs, .ref a_depths, .ref a_values, .ref a_slots, .int (nI 1)])), (a_pairs, .inl (cI, 1393, .inl (nF P))), (a_values, .inl (cI, 1393, .inl (nF Vvv_1)))] H := hP
  have hD : va_D A [(a_net, .inr (0, [.int (nI g), .int (nI gd), .ref a_pairs, .ref a_depths, .ref a_values, .ref a_slots, .int (nI 1)])), (a_pairs, .inl (cI, 1393, .inl (nF P))), (a_values, .inl (cI, 1393, .inl (nF Vvv_1)))] := hD
  refine lv_iconst (v := nI 0) hx hb d_Net_gatesAtOne_4 rfl ?_
  refine lv_istore_n (lv' := [(1, .int (nI 0)), (0, .ref a_net)]) hx hb d_Net_gatesAtOne_5 rfl hl (by decide) rfl (fun ls hl => ?_)
  refine lv_iconst (v := nI 0) hx hb d_Net_gatesAtOne_6 rfl ?_
  refine lv_istore_n (lv' := [(2, .int (nI 0)), (1, .int (nI 0)), (0, .ref a_net)]) hx hb d_Net_gatesAtOne_7 rfl hl (by decide) rfl (fun ls hl => ?_)
  have hI_3 : (0 = cnt (fun z => evn E (T (113 + z))) 0) ∧ (0 ≤ g) ∧ (0 ≤ 0) := ⟨rfl, (by omega), (by omega)⟩
  refine k_loop (σ := Nat × Nat) (D := (dC, dI)) (cl := classes) (A := A) (H0 := s.heap) (fun x => [(a_net, .inr (0, [.int (nI g), .int (nI gd), .ref a_pairs, .ref a_depths, .ref a_values, .ref a_slots, .int (nI 1)])), (a_pairs, .inl (cI, 1393, .inl (nF P))), (a_values, .inl (cI, 1393, .inl (nF Vvv_1)))]) (fun x => [(2, .int (nI x.2)), (1, .int (nI x.1)), (0, .ref a_net)]) (fun x => (x.1 = cnt (fun z => evn E (T (113 + z))) x.2) ∧ (x.2 ≤ g) ∧ (x.1 ≤ x.2)) (fun x => g - x.2) ?_ (0, 0) hI_3 hP hD hS (lv_sub hl [0, 1, 2] rfl)
  rintro ⟨x, i⟩ hI ih_4 H locs ls hP hD hS hl
  obtain ⟨hx1, hi, hxb⟩ : (x = cnt (fun z => evn E (T (113 + z))) i) ∧ (i ≤ g) ∧ (x ≤ i) := hI
  have hP : va_P (dC, dI) classes [(a_net, .inr (0, [.int (nI g), .int (nI gd), .ref a_pairs, .ref a_depths, .ref a_values, .ref a_slots, .int (nI 1)])), (a_pairs, .inl (cI, 1393, .inl (nF P))), (a_values, .inl (cI, 1393, .inl (nF Vvv_1)))] H := hP
  have hD : va_D A [(a_net, .inr (0, [.int (nI g), .int (nI gd), .ref a_pairs, .ref a_depths, .ref a_values, .ref a_slots, .int (nI 1)])), (a_pairs, .inl (cI, 1393, .inl (nF P))), (a_values, .inl (cI, 1393, .inl (nF Vvv_1)))] := hD
  have hl : lv_has ls 3 [(2, .int (nI i)), (1, .int (nI x)), (0, .ref a_net)] := hl
  refine lv_iload_n hx hb d_Net_gatesAtOne_8 rfl (lv_at hl 0 rfl) ?_
  refine lv_aload_n hx hb d_Net_gatesAtOne_9 rfl (lv_at hl 2 rfl) ?_
  refine va_get (D := (dC, dI)) (ci := 0) (v := .int (nI g)) (C := R_Net) (T := F_Net) (N := 7) hx hb hts (wi i_Net) hown hK hP 0 rfl rfl 0 (by decide) (hts _ (mt 176 rfl rfl)) (fun _ h9 => h9) rfl d_Net_gatesAtOne_10 ?_
  refine lv_icmp_ge (tgt := 34) hx hb d_Net_gatesAtOne_13 (by decide) (fun c13 => ?_) (fun c13 => ?_)
  · skip
    have c13 : g ≤ i := (nI_leI (by omega) (by omega)).mp c13
    refine lv_iload_n hx hb d_Net_gatesAtOne_34 rfl (lv_at hl 1 rfl) ?_
    exact W.iret (v := nI x) hx hb hr (fun t ht hW => ⟨⟨nI x, (Vvv_1), rfl, ⟨x, rfl, b_Vvv_1, (show ∀ n, n < 113 + g → Vvv_1 n = evn E (T n) from hs_1), (show x = cnt (fun z => evn E (T (113 + z))) g from (by rw [hx1, show i = g by omega]))⟩, by rw [ht]; exact hP, va_K.moved hW.alike hK, hD⟩, hS.F ht⟩) hS.2.2 d_Net_gatesAtOne_35
  · skip
    have c13 : ¬ (g ≤ i) := fun h => c13 ((nI_leI (by omega) (by omega)).mpr h)
    refine lv_iload_n hx hb d_Net_gatesAtOne_16 rfl (lv_at hl 1 rfl) ?_
    refine lv_aload_n hx hb d_Net_gatesAtOne_17 rfl (lv_at hl 2 rfl) ?_
    refine va_get (D := (dC, dI)) (ci := 0) (v := .ref a_values) (C := R_Net) (T := F_Net) (N := 7) hx hb hts (wi i_Net) hown hK hP 0 rfl rfl 4 (by decide) (hts _ (mt 182 rfl rfl)) (fun _ h9 => h9) rfl d_Net_gatesAtOne_18 ?_
    refine lv_bipush (v := nI 113) hx hb d_Net_gatesAtOne_21 rfl ?_
    refine lv_iload_n hx hb d_Net_gatesAtOne_23 rfl (lv_at hl 0 rfl) ?_
    refine lv_iadd hx hb d_Net_gatesAtOne_24 ?_
    refine k_top (nI_add _ _) ?_
    refine k_ild hx hb hK hP 2 0 rfl rfl (by omega) (by decide) d_Net_gatesAtOne_25 ?_
    have hb_5 := b_Vvv_1 (113 + i)
    refine lv_iadd hx hb d_Net_gatesAtOne_26 ?_
    refine k_top (nI_add _ _) ?_
    refine lv_istore_n (lv' := [(1, .int (nI (x + (Vvv_1 (113 + i))))), (2, .int (nI i)), (0, .ref a_net)]) hx hb d_Net_gatesAtOne_27 rfl hl (by decide) rfl (fun ls hl => ?_)
    refine lv_iinc (v := nI (i + 1)) (lv' := [(2, .int (nI (i + 1))), (1, .int (nI (x + (Vvv_1 (113 + i))))), (0, .ref a_net)]) hx hb d_Net_gatesAtOne_28 hl (k := 1) rfl (k_inc _ 1) (by decide) rfl (fun ls hl => ?_)
    refine lv_goto (tgt := 8) hx hb d_Net_gatesAtOne_31 (by decide) ?_
    have hI_6 : ((x + (Vvv_1 (113 + i))) = cnt (fun z => evn E (T (113 + z))) (i + 1)) ∧ ((i + 1) ≤ g) ∧ ((x + (Vvv_1 (113 + i))) ≤ (i + 1)) := ⟨(by rw [hx1, hs_1 _ (by omega)]; rfl), (by omega), (by omega)⟩
    exact ih_4 (x + (Vvv_1 (113 + i)), i + 1) hI_6 (show g - (i + 1) < g - i from by omega) _ _ _ hP hD hS (lv_sub hl [0, 1, 2] rfl)
set_option maxHeartbeats 4000000 in
set_option maxRecDepth 100000 in
theorem c_Arr_fill (l : Launch) (dC : Nat → ClassId) (dI : Nat → Nat → Nat) (cI cZ : ClassId) (a_fa : Nat) (tt sz : Nat) (Fa : Nat → Nat) (v : Nat) (b_Fa : ∀ j, Fa j < 1393) (hv : v < 1393) : Met l y_Arr_fill w_Arr_fill ({ frames := 0, cells := 0, slots := 0, locals := 0 }) (va_Pc [.ref a_fa, .int (nI v)] (PW (dC, dI) classes [(cI, .int), (cZ, .boolean)] tt [(a_fa, .inl (cI, 2048, .inl (nF Fa)))] sz)) (va_Qv (fun (u : (Nat → Nat)) => (∀ j, u j < 1393) ∧ (∀ j, j < 2048 → u j = v)) (AT (dC, dI) classes [(cI, .int), (cZ, .boolean)] (va_A [(a_fa, .inl (cI, 2048, .inl (nF Fa)))] sz) (fun (u : (Nat → Nat)) => [(a_fa, .inl (cI, 2048, .inl (nF u)))])) (va_A [(a_fa, .inl (cI, 2048, .inl (nF Fa)))] sz)) 0 0 (va_A [(a_fa, .inl (cI, 2048, .inl (nF Fa)))] sz) := by
  refine Met.ofW (cc := b_Arr_fill) (maxL := 4) (ret := none) (by decide) rfl ?_
  intro p e s m args below meth c s₁ B hml hv
  obtain ⟨rfl, hsz, hP, hK, hD0, hE⟩ := hv
  have hx := B.exec
  have hb := B.bytes
  have hr := B.returns
  have hts := atoms_spec (ws := w_Arr_fill) B.pre
  have hown : s.vm.findClass R_Arr = some m.cls := findClass_of_methodNamed B.named
  have hlocks := B.notSynchronized
  subst hsz
  have hD := hD0.self (sz := s.heap.size)
  generalize hAe : va_A [(a_fa, .inl (cI, 2048, .inl (nF Fa)))] s.heap.size = A at hD hE ⊢
  have hA : ∀ q : Nat, s.heap.size ≤ q → A q := fun q h => by rw [← hAe]; exact Or.inr h
  have hS : va_S A s.heap s.heap [] := va_S.rf
  have hP : va_P (dC, dI) classes [(a_fa, .inl (cI, 2048, .inl (nF Fa)))] s.heap := hP
  have hl := lv_entry ([.ref a_fa, .int (nI v)]) (n := 4) (Nat.le_of_ble_eq_true rfl)
  rw [lg_entry_eq]
  generalize (lg_sl ([.ref a_fa, .int (nI v)]) ++ List.replicate (4 - (lg_sl ([.ref a_fa, .int (nI v)])).length) Slot.unset).toArray = ls at hl ⊢
  have hl : lv_has ls 4 [(0, .ref a_fa), (1, .int (nI v))] := hl
  refine lv_iconst (v := nI 0) hx hb d_Arr_fill_0 rfl ?_
  refine lv_istore_n (lv' := [(2, .int (nI 0)), (0, .ref a_fa), (1, .int (nI v))]) hx hb d_Arr_fill_1 rfl hl (by decide) rfl (fun ls hl => ?_)
  refine lv_aload_n hx hb d_Arr_fill_2 rfl (lv_at hl 1 rfl) ?_
  refine va_alen (v := nI 2048) hx hb hK hP 0 0 rfl rfl rfl d_Arr_fill_3 ?_
  refine lv_istore_n (lv' := [(3, .int (nI 2048)), (2, .int (nI 0)), (0, .ref a_fa), (1, .int (nI v))]) hx hb d_Arr_fill_4 rfl hl (by decide) rfl (fun ls hl => ?_)
  have hI_1 : (∀ j, Fa j < 1393) ∧ (∀ j, j < 0 → Fa j = v) ∧ (0 ≤ 2048) := ⟨b_Fa, (fun j h => absurd h (by omega)), (by omega)⟩
  refine k_loop (σ := Nat × (Nat → Nat)) (D := (dC, dI)) (cl := classes) (A := A) (H0 := s.heap) (fun x => [(a_fa, .inl (cI, 2048, .inl (nF x.2)))]) (fun x => [(3, .int (nI 2048)), (2, .int (nI x.1)), (0, .ref a_fa), (1, .int (nI v))]) (fun x => (∀ j, x.2 j < 1393) ∧ (∀ j, j < x.1 → x.2 j = v) ∧ (x.1 ≤ 2048)) (fun x => 2048 - x.1) ?_ (0, Fa) hI_1 hP hD hS (lv_sub hl [0, 1, 2, 3] rfl)
  rintro ⟨i, F1⟩ hI ih_2 H locs ls hP hD hS hl
  obtain ⟨b_F1, hi, hi2⟩ : (∀ j, F1 j < 1393) ∧ (∀ j, j < i → F1 j = v) ∧ (i ≤ 2048) := hI
  have hP : va_P (dC, dI) classes [(a_fa, .inl (cI, 2048, .inl (nF F1)))] H := hP
  have hD : va_D A [(a_fa, .inl (cI, 2048, .inl (nF F1)))] := hD
  have hl : lv_has ls 4 [(3, .int (nI 2048)), (2, .int (nI i)), (0, .ref a_fa), (1, .int (nI v))] := hl
  refine lv_iload_n hx hb d_Arr_fill_5 rfl (lv_at hl 1 rfl) ?_
  refine lv_iload_n hx hb d_Arr_fill_6 rfl (lv_at hl 0 rfl) ?_
  refine lv_icmp_ge (tgt := 20) hx hb d_Arr_fill_7 (by decide) (fun c7 => ?_) (fun c7 => ?_)
  · skip
    have c7 : 2048 ≤ i := (nI_leI (by omega) (by omega)).mp c7
    exact W.vret hx hb hr (fun t ht hW => ⟨⟨(F1), rfl, ⟨b_F1, (show ∀ j, j < 2048 → F1 j = v from (fun j h => hi j (by omega)))⟩, by rw [ht]; exact hP, va_K.moved hW.alike hK, hD⟩, hS.F ht⟩) hS.2.2 d_Arr_fill_20
  · skip
    have c7 : ¬ (2048 ≤ i) := fun h => c7 ((nI_leI (by omega) (by omega)).mpr h)
    refine lv_aload_n hx hb d_Arr_fill_10 rfl (lv_at hl 2 rfl) ?_
    refine lv_iload_n hx hb d_Arr_fill_11 rfl (lv_at hl 1 rfl) ?_
    refine lv_iload_n hx hb d_Arr_fill_12 rfl (lv_at hl 3 rfl) ?_
    refine k_ist hx hb hK hP hD hS 0 0 rfl rfl (by omega) (by decide) d_Arr_fill_13 (fun H locs hP hD hS => ?_)
    have bb_3 : ∀ j, upN F1 i v j < 1393 := upN_lt b_F1 (by omega)
    have hP : va_P (dC, dI) classes [(a_fa, .inl (cI, 2048, .inl (nF (upN F1 i v))))] H := hP
    have hD : va_D A [(a_fa, .inl (cI, 2048, .inl (nF (upN F1 i v))))] := hD
    refine lv_iinc (v := nI (i + 1)) (lv' := [(2, .int (nI (i + 1))), (3, .int (nI 2048)), (0, .ref a_fa), (1, .int (nI v))]) hx hb d_Arr_fill_14 hl (k := 1) rfl (k_inc _ 1) (by decide) rfl (fun ls hl => ?_)
    refine lv_goto (tgt := 5) hx hb d_Arr_fill_17 (by decide) ?_
    have hI_4 : (∀ j, (upN F1 i v) j < 1393) ∧ (∀ j, j < (i + 1) → (upN F1 i v) j = v) ∧ ((i + 1) ≤ 2048) := ⟨bb_3, (fun j h => by
      by_cases e : j = i
      · rw [e, upN_self]
      · rw [upN_ne _ _ e]; exact hi j (by omega)), (by omega)⟩
    exact ih_2 (i + 1, upN F1 i v) hI_4 (show 2048 - (i + 1) < 2048 - i from by omega) _ _ _ hP hD hS (lv_sub hl [1, 0, 2, 3] rfl)
set_option maxHeartbeats 4000000 in
set_option maxRecDepth 100000 in
theorem c_Net_removeGates (l : Launch) (dC : Nat → ClassId) (dI : Nat → Nat → Nat) (cI cZ : ClassId) (a_net a_pairs a_depths a_values a_slots : Nat) (tt sz : Nat) (g : Nat) (gd : Nat) (st : Nat) (Sl : Nat → Nat) (b_g : g ≤ 1280) (b_gd : gd < 1400) (b_st : st ≤ 1) (b_Sl : ∀ j, Sl j < 1393) : Met l y_Net_removeGates w_Net_removeGates ({ frames := 1, cells := 0, slots := 0, locals := 23 }) (va_Pc [.ref a_net] (PW (dC, dI) classes [(cI, .int), (cZ, .boolean)] tt [(a_net, .inr (0, [.int (nI g), .int (nI gd), .ref a_pairs, .ref a_depths, .ref a_values, .ref a_slots, .int (nI st)])), (a_slots, .inl (cI, 2048, .inl (nF Sl)))] sz)) (va_Qv (fun (u : (Nat → Nat)) => (∀ j, u j < 1393) ∧ (∀ j, j < 2048 → u j = 0)) (AT (dC, dI) classes [(cI, .int), (cZ, .boolean)] (va_A [(a_net, .inr (0, [.int (nI g), .int (nI gd), .ref a_pairs, .ref a_depths, .ref a_values, .ref a_slots, .int (nI st)])), (a_slots, .inl (cI, 2048, .inl (nF Sl)))] sz) (fun (u : (Nat → Nat)) => [(a_net, .inr (0, [.int (nI 0), .int (nI 0), .ref a_pairs, .ref a_depths, .ref a_values, .ref a_slots, .int (nI 0)])), (a_slots, .inl (cI, 2048, .inl (nF u)))])) (va_A [(a_net, .inr (0, [.int (nI g), .int (nI gd), .ref a_pairs, .ref a_depths, .ref a_values, .ref a_slots, .int (nI st)])), (a_slots, .inl (cI, 2048, .inl (nF Sl)))] sz)) 0 0 (va_A [(a_net, .inr (0, [.int (nI g), .int (nI gd), .ref a_pairs, .ref a_depths, .ref a_values, .ref a_slots, .int (nI st)])), (a_slots, .inl (cI, 2048, .inl (nF Sl)))] sz) := by
  refine Met.ofW (cc := b_Net_removeGates) (maxL := 1) (ret := none) (by decide) rfl ?_
  intro p e s m args below meth c s₁ B hml hv
  obtain ⟨rfl, hsz, hP, hK, hD0, hE⟩ := hv
  have hx := B.exec
  have hb := B.bytes
  have hr := B.returns
  have hts := atoms_spec (ws := w_Net_removeGates) B.pre
  have hown : s.vm.findClass R_Net = some m.cls := findClass_of_methodNamed B.named
  have hlocks := B.notSynchronized
  subst hsz
  have hD := hD0.self (sz := s.heap.size)
  generalize hAe : va_A [(a_net, .inr (0, [.int (nI g), .int (nI gd), .ref a_pairs, .ref a_depths, .ref a_values, .ref a_slots, .int (nI st)])), (a_slots, .inl (cI, 2048, .inl (nF Sl)))] s.heap.size = A at hD hE ⊢
  have hA : ∀ q : Nat, s.heap.size ≤ q → A q := fun q h => by rw [← hAe]; exact Or.inr h
  have hS : va_S A s.heap s.heap [] := va_S.rf
  have hP : va_P (dC, dI) classes [(a_net, .inr (0, [.int (nI g), .int (nI gd), .ref a_pairs, .ref a_depths, .ref a_values, .ref a_slots, .int (nI st)])), (a_slots, .inl (cI, 2048, .inl (nF Sl)))] s.heap := hP
  have hl := lv_entry ([.ref a_net]) (n := 1) (Nat.le_of_ble_eq_true rfl)
  rw [lg_entry_eq]
  generalize (lg_sl ([.ref a_net]) ++ List.replicate (1 - (lg_sl ([.ref a_net])).length) Slot.unset).toArray = ls at hl ⊢
  have hl : lv_has ls 1 [(0, .ref a_net)] := hl
  refine lv_aload_n hx hb d_Net_removeGates_0 rfl (lv_at hl 0 rfl) ?_
  refine va_get (D := (dC, dI)) (ci := 0) (v := .ref a_slots) (C := R_Net) (T := F_Net) (N := 7) hx hb hts (wi i_Net) hown hK hP 0 rfl rfl 5 (by decide) (hts _ (mt 183 rfl rfl)) (fun _ h9 => h9) rfl d_Net_removeGates_1 ?_
  refine lv_iconst (v := nI 0) hx hb d_Net_removeGates_4 rfl ?_
  refine k_v (wr := [(a_net, .inr (0, [.int (nI g), .int (nI gd), .ref a_pairs, .ref a_depths, .ref a_values, .ref a_slots, .int (nI st)]))]) (w2 := fun (u : (Nat → Nat)) => [(a_net, .inr (0, [.int (nI g), .int (nI gd), .ref a_pairs, .ref a_depths, .ref a_values, .ref a_slots, .int (nI st)])), (a_slots, .inl (cI, 2048, .inl (nF u)))]) (va_runS (As := [.ref a_slots, .int (nI 0)]) (rest := []) ⟨hx, hb, hml, hown, hts⟩ (c_Arr_fill l dC dI cI cZ a_slots tt s.heap.size Sl 0 b_Sl (by omega)) (va_cwS 2 hts (gd_S in_tl (mw 391 rfl rfl) (mw 392 rfl rfl) (mw 50 rfl rfl) (mw 393 rfl rfl)) rfl rfl rfl (by decide +kernel) ⟨Nat.le_of_ble_eq_true rfl, Nat.le_of_ble_eq_true rfl⟩) (k_preS hK hP hD hS hA hE [1] (by decide) rfl) rfl rfl hl.1 rfl (lv_room (Nat.le_of_ble_eq_true rfl)) d_Net_removeGates_5 ⟨Nat.zero_le _, Nat.zero_le _⟩) hP hD hS hA [1] [0] [0, 1] rfl rfl (by decide) (by decide) (by decide) (fun _ => rfl) (fun u H locs hw hP hD hS => ?_)
  obtain ⟨Fav_1, rfl⟩ : ∃ z, z = u := ⟨_, rfl⟩
  obtain ⟨b_Fav_1, hf_5⟩ : (∀ j, Fav_1 j < 1393) ∧ (∀ j, j < 2048 → Fav_1 j = 0) := hw
  have hP : va_P (dC, dI) classes [(a_net, .inr (0, [.int (nI g), .int (nI gd), .ref a_pairs, .ref a_depths, .ref a_values, .ref a_slots, .int (nI st)])), (a_slots, .inl (cI, 2048, .inl (nF Fav_1)))] H := hP
  have hD : va_D A [(a_net, .inr (0, [.int (nI g), .int (nI gd), .ref a_pairs, .ref a_depths, .ref a_values, .ref a_slots, .int (nI st)])), (a_slots, .inl (cI, 2048, .inl (nF Fav_1)))] := hD
  refine lv_aload_n hx hb d_Net_removeGates_8 rfl (lv_at hl 0 rfl) ?_
  refine lv_iconst (v := nI 0) hx hb d_Net_removeGates_9 rfl ?_
  refine va_put (D := (dC, dI)) (ci := 0) (v := .int (nI 0)) (ty := .int) (C := R_Net) (T := F_Net) (N := 7) hx hb hts (wi i_Net) t_Net t_Net_ok n_Net hown hK hP hD hS 0 rfl rfl 0 (by decide) (hts _ (mt 176 rfl rfl)) (fun _ h9 => h9) rfl (by decide +kernel) rfl rfl (Nat.le_of_ble_eq_true rfl) d_Net_removeGates_10 (fun H locs hP hD hS => ?_)
  have hP : va_P (dC, dI) classes [(a_net, .inr (0, [.int (nI 0), .int (nI gd), .ref a_pairs, .ref a_depths, .ref a_values, .ref a_slots, .int (nI st)])), (a_slots, .inl (cI, 2048, .inl (nF Fav_1)))] H := hP
  have hD : va_D A [(a_net, .inr (0, [.int (nI 0), .int (nI gd), .ref a_pairs, .ref a_depths, .ref a_values, .ref a_slots, .int (nI st)])), (a_slots, .inl (cI, 2048, .inl (nF Fav_1)))] := hD
  refine lv_aload_n hx hb d_Net_removeGates_13 rfl (lv_at hl 0 rfl) ?_
  refine lv_iconst (v := nI 0) hx hb d_Net_removeGates_14 rfl ?_
  refine va_put (D := (dC, dI)) (ci := 0) (v := .int (nI 0)) (ty := .int) (C := R_Net) (T := F_Net) (N := 7) hx hb hts (wi i_Net) t_Net t_Net_ok n_Net hown hK hP hD hS 0 rfl rfl 1 (by decide) (hts _ (mt 178 rfl rfl)) (fun _ h9 => h9) rfl (by decide +kernel) rfl rfl (Nat.le_of_ble_eq_true rfl) d_Net_removeGates_15 (fun H locs hP hD hS => ?_)
  have hP : va_P (dC, dI) classes [(a_net, .inr (0, [.int (nI 0), .int (nI 0), .ref a_pairs, .ref a_depths, .ref a_values, .ref a_slots, .int (nI st)])), (a_slots, .inl (cI, 2048, .inl (nF Fav_1)))] H := hP
  have hD : va_D A [(a_net, .inr (0, [.int (nI 0), .int (nI 0), .ref a_pairs, .ref a_depths, .ref a_values, .ref a_slots, .int (nI st)])), (a_slots, .inl (cI, 2048, .inl (nF Fav_1)))] := hD
  refine lv_aload_n hx hb d_Net_removeGates_18 rfl (lv_at hl 0 rfl) ?_
  refine lv_iconst (v := nI 0) hx hb d_Net_removeGates_19 rfl ?_
  refine va_put (D := (dC, dI)) (ci := 0) (v := .int (nI 0)) (ty := .boolean) (C := R_Net) (T := F_Net) (N := 7) hx hb hts (wi i_Net) t_Net t_Net_ok n_Net hown hK hP hD hS 0 rfl rfl 6 (by decide) (hts _ (mt 184 rfl rfl)) (fun _ h9 => h9) rfl (by decide +kernel) (k_narZ (by omega)) (k_fitZ (by omega)) (Nat.le_of_ble_eq_true rfl) d_Net_removeGates_20 (fun H locs hP hD hS => ?_)
  have hP : va_P (dC, dI) classes [(a_net, .inr (0, [.int (nI 0), .int (nI 0), .ref a_pairs, .ref a_depths, .ref a_values, .ref a_slots, .int (nI 0)])), (a_slots, .inl (cI, 2048, .inl (nF Fav_1)))] H := hP
  have hD : va_D A [(a_net, .inr (0, [.int (nI 0), .int (nI 0), .ref a_pairs, .ref a_depths, .ref a_values, .ref a_slots, .int (nI 0)])), (a_slots, .inl (cI, 2048, .inl (nF Fav_1)))] := hD
  exact W.vret hx hb hr (fun t ht hW => ⟨⟨(Fav_1), rfl, ⟨b_Fav_1, (show ∀ j, j < 2048 → Fav_1 j = 0 from hf_5)⟩, by rw [ht]; exact hP, va_K.moved hW.alike hK, hD⟩, hS.F ht⟩) hS.2.2 d_Net_removeGates_23
