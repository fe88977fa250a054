abbrev b_Net_join : ByteArray := prog_3_method_5_code
def y_Net_join : MethodName := ⟨"CircuitDesk$Net", "join", "(II)I"⟩
def w_Net_join : List Cond := .code y_Net_join b_Net_join 5 (some .int) :: lw_gw
theorem d_Net_join_0 : decode b_Net_join 0 = .ok (.iload_n 1, 1) := by decide +kernel
theorem d_Net_join_1 : decode b_Net_join 1 = .ok (.ifCond .eq 15, 3) := by decide +kernel
theorem d_Net_join_4 : decode b_Net_join 4 = .ok (.iload_n 2, 1) := by decide +kernel
theorem d_Net_join_5 : decode b_Net_join 5 = .ok (.ifCond .eq 11, 3) := by decide +kernel
theorem d_Net_join_8 : decode b_Net_join 8 = .ok (.iload_n 1, 1) := by decide +kernel
theorem d_Net_join_9 : decode b_Net_join 9 = .ok (.iload_n 2, 1) := by decide +kernel
theorem d_Net_join_10 : decode b_Net_join 10 = .ok (.invokestatic 41, 3) := by decide +kernel
theorem d_Net_join_13 : decode b_Net_join 13 = .ok (.if_icmp .ne 5, 3) := by decide +kernel
theorem d_Net_join_16 : decode b_Net_join 16 = .ok (.iconst 0, 1) := by decide +kernel
theorem d_Net_join_17 : decode b_Net_join 17 = .ok (.ireturn, 1) := by decide +kernel
theorem d_Net_join_18 : decode b_Net_join 18 = .ok (.iload_n 1, 1) := by decide +kernel
theorem d_Net_join_19 : decode b_Net_join 19 = .ok (.iconst 1, 1) := by decide +kernel
theorem d_Net_join_20 : decode b_Net_join 20 = .ok (.if_icmp .ne 5, 3) := by decide +kernel
theorem d_Net_join_23 : decode b_Net_join 23 = .ok (.iload_n 2, 1) := by decide +kernel
theorem d_Net_join_24 : decode b_Net_join 24 = .ok (.ireturn, 1) := by decide +kernel
theorem d_Net_join_25 : decode b_Net_join 25 = .ok (.iload_n 2, 1) := by decide +kernel
theorem d_Net_join_26 : decode b_Net_join 26 = .ok (.iconst 1, 1) := by decide +kernel
theorem d_Net_join_27 : decode b_Net_join 27 = .ok (.if_icmp .eq 8, 3) := by decide +kernel
theorem d_Net_join_30 : decode b_Net_join 30 = .ok (.iload_n 1, 1) := by decide +kernel
theorem d_Net_join_31 : decode b_Net_join 31 = .ok (.iload_n 2, 1) := by decide +kernel
theorem d_Net_join_32 : decode b_Net_join 32 = .ok (.if_icmp .ne 5, 3) := by decide +kernel
theorem d_Net_join_35 : decode b_Net_join 35 = .ok (.iload_n 1, 1) := by decide +kernel
theorem d_Net_join_36 : decode b_Net_join 36 = .ok (.ireturn, 1) := by decide +kernel
theorem d_Net_join_37 : decode b_Net_join 37 = .ok (.iload_n 1, 1) := by decide +kernel
theorem d_Net_join_38 : decode b_Net_join 38 = .ok (.iload_n 2, 1) := by decide +kernel
theorem d_Net_join_39 : decode b_Net_join 39 = .ok (.if_icmp .ge 12, 3) := by decide +kernel
theorem d_Net_join_42 : decode b_Net_join 42 = .ok (.iload_n 1, 1) := by decide +kernel
theorem d_Net_join_43 : decode b_Net_join 43 = .ok (.bipush 12, 2) := by decide +kernel
theorem d_Net_join_45 : decode b_Net_join 45 = .ok (.ishl, 1) := by decide +kernel
theorem d_Net_join_46 : decode b_Net_join 46 = .ok (.iload_n 2, 1) := by decide +kernel
theorem d_Net_join_47 : decode b_Net_join 47 = .ok (.ior, 1) := by decide +kernel
theorem d_Net_join_48 : decode b_Net_join 48 = .ok (.goto 9, 3) := by decide +kernel
theorem d_Net_join_51 : decode b_Net_join 51 = .ok (.iload_n 2, 1) := by decide +kernel
theorem d_Net_join_52 : decode b_Net_join 52 = .ok (.bipush 12, 2) := by decide +kernel
theorem d_Net_join_54 : decode b_Net_join 54 = .ok (.ishl, 1) := by decide +kernel
theorem d_Net_join_55 : decode b_Net_join 55 = .ok (.iload_n 1, 1) := by decide +kernel
theorem d_Net_join_56 : decode b_Net_join 56 = .ok (.ior, 1) := by decide +kernel
theorem d_Net_join_57 : decode b_Net_join 57 = .ok (.istore_n 3, 1) := by decide +kernel
theorem d_Net_join_58 : decode b_Net_join 58 = .ok (.aload_n 0, 1) := by decide +kernel
theorem d_Net_join_59 : decode b_Net_join 59 = .ok (.iload_n 3, 1) := by decide +kernel
theorem d_Net_join_60 : decode b_Net_join 60 = .ok (.invokevirtual 45, 3) := by decide +kernel
theorem d_Net_join_63 : decode b_Net_join 63 = .ok (.istore 4, 2) := by decide +kernel
theorem d_Net_join_65 : decode b_Net_join 65 = .ok (.aload_n 0, 1) := by decide +kernel
theorem d_Net_join_66 : decode b_Net_join 66 = .ok (.getfield 21, 3) := by decide +kernel
theorem d_Net_join_69 : decode b_Net_join 69 = .ok (.iload 4, 2) := by decide +kernel
theorem d_Net_join_71 : decode b_Net_join 71 = .ok (.iaload, 1) := by decide +kernel
theorem d_Net_join_72 : decode b_Net_join 72 = .ok (.ifCond .ne 10, 3) := by decide +kernel
theorem d_Net_join_75 : decode b_Net_join 75 = .ok (.aload_n 0, 1) := by decide +kernel
theorem d_Net_join_76 : decode b_Net_join 76 = .ok (.iload_n 3, 1) := by decide +kernel
theorem d_Net_join_77 : decode b_Net_join 77 = .ok (.iload 4, 2) := by decide +kernel
theorem d_Net_join_79 : decode b_Net_join 79 = .ok (.invokevirtual 48, 3) := by decide +kernel
theorem d_Net_join_82 : decode b_Net_join 82 = .ok (.iconst 2, 1) := by decide +kernel
theorem d_Net_join_83 : decode b_Net_join 83 = .ok (.aload_n 0, 1) := by decide +kernel
theorem d_Net_join_84 : decode b_Net_join 84 = .ok (.getfield 21, 3) := by decide +kernel
theorem d_Net_join_87 : decode b_Net_join 87 = .ok (.iload 4, 2) := by decide +kernel
theorem d_Net_join_89 : decode b_Net_join 89 = .ok (.iaload, 1) := by decide +kernel
theorem d_Net_join_90 : decode b_Net_join 90 = .ok (.imul, 1) := by decide +kernel
theorem d_Net_join_91 : decode b_Net_join 91 = .ok (.ireturn, 1) := by decide +kernel
abbrev b_Net_either : ByteArray := prog_3_method_6_code
def y_Net_either : MethodName := ⟨"CircuitDesk$Net", "either", "(II)I"⟩
def w_Net_either : List Cond := .code y_Net_either b_Net_either 3 (some .int) :: lw_gw
theorem d_Net_either_0 : decode b_Net_either 0 = .ok (.aload_n 0, 1) := by decide +kernel
theorem d_Net_either_1 : decode b_Net_either 1 = .ok (.iload_n 1, 1) := by decide +kernel
theorem d_Net_either_2 : decode b_Net_either 2 = .ok (.invokestatic 41, 3) := by decide +kernel
theorem d_Net_either_5 : decode b_Net_either 5 = .ok (.iload_n 2, 1) := by decide +kernel
theorem d_Net_either_6 : decode b_Net_either 6 = .ok (.invokestatic 41, 3) := by decide +kernel
theorem d_Net_either_9 : decode b_Net_either 9 = .ok (.invokevirtual 52, 3) := by decide +kernel
theorem d_Net_either_12 : decode b_Net_either 12 = .ok (.invokestatic 41, 3) := by decide +kernel
theorem d_Net_either_15 : decode b_Net_either 15 = .ok (.ireturn, 1) := by decide +kernel
abbrev b_Net_pick : ByteArray := prog_3_method_7_code
def y_Net_pick : MethodName := ⟨"CircuitDesk$Net", "pick", "(III)I"⟩
def w_Net_pick : List Cond := .code y_Net_pick b_Net_pick 6 (some .int) :: lw_gw
theorem d_Net_pick_0 : decode b_Net_pick 0 = .ok (.iload_n 2, 1) := by decide +kernel
theorem d_Net_pick_1 : decode b_Net_pick 1 = .ok (.iload_n 3, 1) := by decide +kernel
theorem d_Net_pick_2 : decode b_Net_pick 2 = .ok (.if_icmp .ne 5, 3) := by decide +kernel
theorem d_Net_pick_5 : decode b_Net_pick 5 = .ok (.iload_n 2, 1) := by decide +kernel
theorem d_Net_pick_6 : decode b_Net_pick 6 = .ok (.ireturn, 1) := by decide +kernel
theorem d_Net_pick_7 : decode b_Net_pick 7 = .ok (.aload_n 0, 1) := by decide +kernel
theorem d_Net_pick_8 : decode b_Net_pick 8 = .ok (.iload_n 1, 1) := by decide +kernel
theorem d_Net_pick_9 : decode b_Net_pick 9 = .ok (.iload_n 2, 1) := by decide +kernel
theorem d_Net_pick_10 : decode b_Net_pick 10 = .ok (.invokevirtual 52, 3) := by decide +kernel
theorem d_Net_pick_13 : decode b_Net_pick 13 = .ok (.istore 4, 2) := by decide +kernel
theorem d_Net_pick_15 : decode b_Net_pick 15 = .ok (.aload_n 0, 1) := by decide +kernel
theorem d_Net_pick_16 : decode b_Net_pick 16 = .ok (.iload_n 1, 1) := by decide +kernel
theorem d_Net_pick_17 : decode b_Net_pick 17 = .ok (.invokestatic 41, 3) := by decide +kernel
theorem d_Net_pick_20 : decode b_Net_pick 20 = .ok (.iload_n 3, 1) := by decide +kernel
theorem d_Net_pick_21 : decode b_Net_pick 21 = .ok (.invokevirtual 52, 3) := by decide +kernel
theorem d_Net_pick_24 : decode b_Net_pick 24 = .ok (.istore 5, 2) := by decide +kernel
theorem d_Net_pick_26 : decode b_Net_pick 26 = .ok (.aload_n 0, 1) := by decide +kernel
theorem d_Net_pick_27 : decode b_Net_pick 27 = .ok (.iload 4, 2) := by decide +kernel
theorem d_Net_pick_29 : decode b_Net_pick 29 = .ok (.invokestatic 41, 3) := by decide +kernel
theorem d_Net_pick_32 : decode b_Net_pick 32 = .ok (.iload 5, 2) := by decide +kernel
theorem d_Net_pick_34 : decode b_Net_pick 34 = .ok (.invokestatic 41, 3) := by decide +kernel
theorem d_Net_pick_37 : decode b_Net_pick 37 = .ok (.invokevirtual 52, 3) := by decide +kernel
theorem d_Net_pick_40 : decode b_Net_pick 40 = .ok (.invokestatic 41, 3) := by decide +kernel
theorem d_Net_pick_43 : decode b_Net_pick 43 = .ok (.ireturn, 1) := by decide +kernel
abbrev b_Net_diff : ByteArray := prog_3_method_8_code
def y_Net_diff : MethodName := ⟨"CircuitDesk$Net", "diff", "(II)I"⟩
def w_Net_diff : List Cond := .code y_Net_diff b_Net_diff 3 (some .int) :: lw_gw
theorem d_Net_diff_0 : decode b_Net_diff 0 = .ok (.aload_n 0, 1) := by decide +kernel
theorem d_Net_diff_1 : decode b_Net_diff 1 = .ok (.aload_n 0, 1) := by decide +kernel
theorem d_Net_diff_2 : decode b_Net_diff 2 = .ok (.iload_n 1, 1) := by decide +kernel
theorem d_Net_diff_3 : decode b_Net_diff 3 = .ok (.iload_n 2, 1) := by decide +kernel
theorem d_Net_diff_4 : decode b_Net_diff 4 = .ok (.invokevirtual 52, 3) := by decide +kernel
theorem d_Net_diff_7 : decode b_Net_diff 7 = .ok (.invokestatic 41, 3) := by decide +kernel
theorem d_Net_diff_10 : decode b_Net_diff 10 = .ok (.aload_n 0, 1) := by decide +kernel
theorem d_Net_diff_11 : decode b_Net_diff 11 = .ok (.iload_n 1, 1) := by decide +kernel
theorem d_Net_diff_12 : decode b_Net_diff 12 = .ok (.invokestatic 41, 3) := by decide +kernel
theorem d_Net_diff_15 : decode b_Net_diff 15 = .ok (.iload_n 2, 1) := by decide +kernel
theorem d_Net_diff_16 : decode b_Net_diff 16 = .ok (.invokestatic 41, 3) := by decide +kernel
theorem d_Net_diff_19 : decode b_Net_diff 19 = .ok (.invokevirtual 52, 3) := by decide +kernel
theorem d_Net_diff_22 : decode b_Net_diff 22 = .ok (.invokestatic 41, 3) := by decide +kernel
theorem d_Net_diff_25 : decode b_Net_diff 25 = .ok (.invokevirtual 52, 3) := by decide +kernel
theorem d_Net_diff_28 : decode b_Net_diff 28 = .ok (.ireturn, 1) := by decide +kernel
set_option maxHeartbeats 4000000 in
set_option maxRecDepth 100000 in
theorem c_Net_join (l : Launch) (dC : Nat → ClassId) (dI : Nat → Nat → Nat) (cI cZ : ClassId) (a_net a_pairs a_depths a_values a_slots : Nat) (tt sz : Nat) (g : Nat) (gd : Nat) (st : Nat) (P : Nat → Nat) (Dp : Nat → Nat) (Sl : Nat → Nat) (T : Nat → Nat) (K : List Nat) (X : Nat) (Y : Nat) (b_g : g ≤ 1280) (b_gd : gd < 1400) (b_st : st ≤ 1) (b_P : ∀ j, P j < 16777216) (b_Dp : ∀ j, Dp j < 1400) (b_Sl : ∀ j, Sl j < 1393) (hN : NJ g gd P Dp Sl T) (hAL : AL K T g) (hX : X < 2 * (113 + g)) (hY : Y < 2 * (113 + g)) (hin : ∀ c, c ∈ jl (LT T X) (LT T Y) → c ∈ K) : Met l y_Net_join w_Net_join ({ frames := 1, cells := 0, slots := 0, locals := 25 }) (va_Pc [.ref a_net, .int (nI X), .int (nI Y)] (PW (dC, dI) classes [(cI, .int), (cZ, .boolean)] tt [(a_net, .inr (0, [.int (nI g), .int (nI gd), .ref a_pairs, .ref a_depths, .ref a_values, .ref a_slots, .int (nI st)])), (a_pairs, .inl (cI, 1393, .inl (nF P))), (a_depths, .inl (cI, 1393, .inl (nF Dp))), (a_slots, .inl (cI, 2048, .inl (nF Sl)))] sz)) (va_Qi (fun (r : Int32) (u : Nat × Nat × (Nat → Nat) × (Nat → Nat) × (Nat → Nat) × (Nat → Nat)) => ∃ rv : Nat, r = nI rv ∧ (u.1 ≤ 1280) ∧ (u.2.1 < 1400) ∧ (∀ j, u.2.2.1 j < 16777216) ∧ (∀ j, u.2.2.2.1 j < 1400) ∧ (∀ j, u.2.2.2.2.1 j < 1393) ∧ (NJ u.1 u.2.1 u.2.2.1 u.2.2.2.1 u.2.2.2.2.1 u.2.2.2.2.2) ∧ (ST T g u.2.2.2.2.2 u.1 (jl (LT T X) (LT T Y))) ∧ (rv < 2 * (113 + u.1)) ∧ (LT u.2.2.2.2.2 rv = jn (LT T X) (LT T Y)) ∧ (AL K u.2.2.2.2.2 u.1)) (AT (dC, dI) classes [(cI, .int), (cZ, .boolean)] (va_A [(a_net, .inr (0, [.int (nI g), .int (nI gd), .ref a_pairs, .ref a_depths, .ref a_values, .ref a_slots, .int (nI st)])), (a_pairs, .inl (cI, 1393, .inl (nF P))), (a_depths, .inl (cI, 1393, .inl (nF Dp))), (a_slots, .inl (cI, 2048, .inl (nF Sl)))] sz) (fun (u : Nat × Nat × (Nat → Nat) × (Nat → Nat) × (Nat → Nat) × (Nat → Nat)) => [(a_net, .inr (0, [.int (nI u.1), .int (nI u.2.1), .ref a_pairs, .ref a_depths, .ref a_values, .ref a_slots, .int (nI st)])), (a_pairs, .inl (cI, 1393, .inl (nF u.2.2.1))), (a_depths, .inl (cI, 1393, .inl (nF u.2.2.2.1))), (a_slots, .inl (cI, 2048, .inl (nF u.2.2.2.2.1)))])) (va_A [(a_net, .inr (0, [.int (nI g), .int (nI gd), .ref a_pairs, .ref a_depths, .ref a_values, .ref a_slots, .int (nI st)])), (a_pairs, .inl (cI, 1393, .inl (nF P))), (a_depths, .inl (cI, 1393, .inl (nF Dp))), (a_slots, .inl (cI, 2048, .inl (nF Sl)))] sz)) 0 0 (va_A [(a_net, .inr (0, [.int (nI g), .int (nI gd), .ref a_pairs, .ref a_depths, .ref a_values, .ref a_slots, .int (nI st)])), (a_pairs, .inl (cI, 1393, .inl (nF P))), (a_depths, .inl (cI, 1393, .inl (nF Dp))), (a_slots, .inl (cI, 2048, .inl (nF Sl)))] sz) := by
  refine Met.ofW (cc := b_Net_join) (maxL := 5) (ret := (some .int)) (by decide) rfl ?_
  intro p e s m args below meth c s₁ B hml hv
  obtain ⟨rfl, hsz, hP, hK, hD0, hE⟩ := hv
  have hx := B.exec
  have hb := B.bytes
  have hr := B.returns
  have hts := atoms_spec (ws := w_Net_join) B.pre
  have hown : s.vm.findClass R_Net = some m.cls := findClass_of_methodNamed B.named
  have hlocks := B.notSynchronized
  subst hsz
  have hD := hD0.self (sz := s.heap.size)
  generalize hAe : va_A [(a_net, .inr (0, [.int (nI g), .int (nI gd), .ref a_pairs, .ref a_depths, .ref a_values, .ref a_slots, .int (nI st)])), (a_pairs, .inl (cI, 1393, .inl (nF P))), (a_depths, .inl (cI, 1393, .inl (nF Dp))), (a_slots, .inl (cI, 2048, .inl (nF Sl)))] s.heap.size = A at hD hE ⊢
  have hA : ∀ q : Nat, s.heap.size ≤ q → A q := fun q h => by rw [← hAe]; exact Or.inr h
  have hS : va_S A s.heap s.heap [] := va_S.rf
  have hP : va_P (dC, dI) classes [(a_net, .inr (0, [.int (nI g), .int (nI gd), .ref a_pairs, .ref a_depths, .ref a_values, .ref a_slots, .int (nI st)])), (a_pairs, .inl (cI, 1393, .inl (nF P))), (a_depths, .inl (cI, 1393, .inl (nF Dp))), (a_slots, .inl (cI, 2048, .inl (nF Sl)))] s.heap := hP
  have hl := lv_entry ([.ref a_net, .int (nI X), .int (nI Y)]) (n := 5) (Nat.le_of_ble_eq_true rfl)
  rw [lg_entry_eq]
  generalize (lg_sl ([.ref a_net, .int (nI X), .int (nI Y)]) ++ List.replicate (5 - (lg_sl ([.ref a_net, .int (nI X), .int (nI Y)])).length) Slot.unset).toArray = ls at hl ⊢
  have hl : lv_has ls 5 [(0, .ref a_net), (1, .int (nI X)), (2, .int (nI Y))] := hl
  refine lv_iload_n hx hb d_Net_join_0 rfl (lv_at hl 1 rfl) ?_
  refine lv_if_eq (tgt := 16) hx hb d_Net_join_1 (by decide) (fun c1 => ?_) (fun c1 => ?_)
  · skip
    have c1 : X = 0 := (nI_eq0 (by omega)).mp c1
    have hz : X = 0 ∨ Y = 0 ∨ X = op1 Y := by omega
    refine lv_iconst (v := nI 0) hx hb d_Net_join_16 rfl ?_
    exact W.iret (v := nI 0) hx hb hr (fun t ht hW => ⟨⟨nI 0, (g, gd, P, Dp, Sl, T), rfl, ⟨0, rfl, (show g ≤ 1280 from by omega), (show gd < 1400 from by omega), b_P, b_Dp, b_Sl, (show NJ g gd P Dp Sl T from hN), (show ST T g T g (jl (LT T X) (LT T Y)) from ST_rf (J_0 hN.1 hX hY hz).1), (show 0 < 2 * (113 + g) from (by omega)), (show LT T 0 = jn (LT T X) (LT T Y) from (J_0 hN.1 hX hY hz).2), (show AL K T g from hAL)⟩, by rw [ht]; exact hP, va_K.moved hW.alike hK, hD⟩, hS.F ht⟩) hS.2.2 d_Net_join_17
  · skip
    have c1 : ¬ (X = 0) := fun h => c1 ((nI_eq0 (by omega)).mpr h)
    refine lv_iload_n hx hb d_Net_join_4 rfl (lv_at hl 2 rfl) ?_
    refine lv_if_eq (tgt := 16) hx hb d_Net_join_5 (by decide) (fun c5 => ?_) (fun c5 => ?_)
    · skip
      have c5 : Y = 0 := (nI_eq0 (by omega)).mp c5
      have hz : X = 0 ∨ Y = 0 ∨ X = op1 Y := by omega
      refine lv_iconst (v := nI 0) hx hb d_Net_join_16 rfl ?_
      exact W.iret (v := nI 0) hx hb hr (fun t ht hW => ⟨⟨nI 0, (g, gd, P, Dp, Sl, T), rfl, ⟨0, rfl, (show g ≤ 1280 from by omega), (show gd < 1400 from by omega), b_P, b_Dp, b_Sl, (show NJ g gd P Dp Sl T from hN), (show ST T g T g (jl (LT T X) (LT T Y)) from ST_rf (J_0 hN.1 hX hY hz).1), (show 0 < 2 * (113 + g) from (by omega)), (show LT T 0 = jn (LT T X) (LT T Y) from (J_0 hN.1 hX hY hz).2), (show AL K T g from hAL)⟩, by rw [ht]; exact hP, va_K.moved hW.alike hK, hD⟩, hS.F ht⟩) hS.2.2 d_Net_join_17
    · skip
      have c5 : ¬ (Y = 0) := fun h => c5 ((nI_eq0 (by omega)).mpr h)
      refine lv_iload_n hx hb d_Net_join_8 rfl (lv_at hl 1 rfl) ?_
      refine lv_iload_n hx hb d_Net_join_9 rfl (lv_at hl 2 rfl) ?_
      refine k_i (wr := [(a_net, .inr (0, [.int (nI g), .int (nI gd), .ref a_pairs, .ref a_depths, .ref a_values, .ref a_slots, .int (nI st)])), (a_pairs, .inl (cI, 1393, .inl (nF P))), (a_depths, .inl (cI, 1393, .inl (nF Dp))), (a_slots, .inl (cI, 2048, .inl (nF Sl)))]) (w2 := fun (u : Unit) => [(a_net, .inr (0, [.int (nI g), .int (nI gd), .ref a_pairs, .ref a_depths, .ref a_values, .ref a_slots, .int (nI st)])), (a_pairs, .inl (cI, 1393, .inl (nF P))), (a_depths, .inl (cI, 1393, .inl (nF Dp))), (a_slots, .inl (cI, 2048, .inl (nF Sl)))]) (va_runS (As := [.int (nI Y)]) (rest := [.int (nI X)]) ⟨hx, hb, hml, hown, hts⟩ (c_Net_opposite l dC dI cI cZ  tt s.heap.size  Y ) (va_cwS 1 hts (gd_S in_tl (mw 418 rfl rfl) (mw 419 rfl rfl) (mw 45 rfl rfl) (mw 420 rfl rfl)) rfl rfl rfl (by decide +kernel) ⟨Nat.le_of_ble_eq_true rfl, Nat.le_of_ble_eq_true rfl⟩) (k_preS hK hP hD hS hA hE [] (by decide) rfl) rfl rfl hl.1 rfl (lv_room (Nat.le_of_ble_eq_true rfl)) d_Net_join_10 ⟨Nat.zero_le _, Nat.zero_le _⟩) hP hD hS hA [] [0, 1, 2, 3] [0, 1, 2, 3] rfl rfl (by decide) (by decide) (by decide) (fun _ => rfl) (fun r_1 u H locs hw hP hD hS => ?_)
      obtain rfl : (r_1 = nI (op1 Y)) := hw
      have hP : va_P (dC, dI) classes [(a_net, .inr (0, [.int (nI g), .int (nI gd), .ref a_pairs, .ref a_depths, .ref a_values, .ref a_slots, .int (nI st)])), (a_pairs, .inl (cI, 1393, .inl (nF P))), (a_depths, .inl (cI, 1393, .inl (nF Dp))), (a_slots, .inl (cI, 2048, .inl (nF Sl)))] H := hP
      have hD : va_D A [(a_net, .inr (0, [.int (nI g), .int (nI gd), .ref a_pairs, .ref a_depths, .ref a_values, .ref a_slots, .int (nI st)])), (a_pairs, .inl (cI, 1393, .inl (nF P))), (a_depths, .inl (cI, 1393, .inl (nF Dp))), (a_slots, .inl (cI, 2048, .inl (nF Sl)))] := hD
      have ho := op1_lt hY
      refine lv_icmp_ne (tgt := 18) hx hb d_Net_join_13 (by decide) (fun c13 => ?_) (fun c13 => ?_)
      · skip
        have c13 : ¬ (X = (op1 Y)) := fun h => c13 ((nI_eq (by omega) (by omega)).mpr h)
        have hz : ¬ (X = 0 ∨ Y = 0 ∨ X = op1 Y) := by omega
        refine lv_iload_n hx hb d_Net_join_18 rfl (lv_at hl 1 rfl) ?_
        refine lv_iconst (v := nI 1) hx hb d_Net_join_19 rfl ?_
        refine lv_icmp_ne (tgt := 25) hx hb d_Net_join_20 (by decide) (fun c20 => ?_) (fun c20 => ?_)
        · skip
          have c20 : ¬ (X = 1) := fun h => c20 ((nI_eq (by omega) (by omega)).mpr h)
          refine lv_iload_n hx hb d_Net_join_25 rfl (lv_at hl 2 rfl) ?_
          refine lv_iconst (v := nI 1) hx hb d_Net_join_26 rfl ?_
          refine lv_icmp_eq (tgt := 35) hx hb d_Net_join_27 (by decide) (fun c27 => ?_) (fun c27 => ?_)
          · skip
            have c27 : Y = 1 := (nI_eq (by omega) (by omega)).mp c27
            have h2 : Y = 1 ∨ X = Y := by omega
            refine lv_iload_n hx hb d_Net_join_35 rfl (lv_at hl 1 rfl) ?_
            exact W.iret (v := nI X) hx hb hr (fun t ht hW => ⟨⟨nI X, (g, gd, P, Dp, Sl, T), rfl, ⟨X, rfl, (show g ≤ 1280 from by omega), (show gd < 1400 from by omega), b_P, b_Dp, b_Sl, (show NJ g gd P Dp Sl T from hN), (show ST T g T g (jl (LT T X) (LT T Y)) from ST_rf (J_2 hN.1 hX hY hz c20 h2).1), (show X < 2 * (113 + g) from (by omega)), (show LT T X = jn (LT T X) (LT T Y) from (J_2 hN.1 hX hY hz c20 h2).2), (show AL K T g from hAL)⟩, by rw [ht]; exact hP, va_K.moved hW.alike hK, hD⟩, hS.F ht⟩) hS.2.2 d_Net_join_36
          · skip
            have c27 : ¬ (Y = 1) := fun h => c27 ((nI_eq (by omega) (by omega)).mpr h)
            refine lv_iload_n hx hb d_Net_join_30 rfl (lv_at hl 1 rfl) ?_
            refine lv_iload_n hx hb d_Net_join_31 rfl (lv_at hl 2 rfl) ?_
            refine lv_icmp_ne (tgt := 37) hx hb d_Net_join_32 (by decide) (fun c32 => ?_) (fun c32 => ?_)
            · skip
              have c32 : ¬ (X = Y) := fun h => c32 ((nI_eq (by omega) (by omega)).mpr h)
              have h2 : ¬ (Y = 1 ∨ X = Y) := by omega
              have h3 := J_3 hN.1 hX hY hz c20 h2
              have hne : X ≠ Y := by omega
              refine lv_iload_n hx hb d_Net_join_37 rfl (lv_at hl 1 rfl) ?_
              refine lv_iload_n hx hb d_Net_join_38 rfl (lv_at hl 2 rfl) ?_
              refine lv_icmp_ge (tgt := 51) hx hb d_Net_join_39 (by decide) (fun c39 => ?_) (fun c39 => ?_)
              · skip
                have c39 : Y ≤ X := (nI_leI (by omega) (by omega)).mp c39
                refine lv_iload_n hx hb d_Net_join_51 rfl (lv_at hl 2 rfl) ?_
                refine lv_bipush (v := nI 12) hx hb d_Net_join_52 rfl ?_
                refine lv_ishl hx hb d_Net_join_54 ?_
                refine k_top (nI_shl _ (by omega)) ?_
                refine lv_iload_n hx hb d_Net_join_55 rfl (lv_at hl 1 rfl) ?_
                refine lv_ior hx hb d_Net_join_56 ?_
                refine k_top (nI_or _ _) ?_
                refine k_top (congrArg nI (show (Y * 2 ^ 12) ||| X = min X Y * 4096 + max X Y from (by rw [or12 (by omega)]; omega))) ?_
                refine lv_istore_n (lv' := [(3, .int (nI (min X Y * 4096 + max X Y))), (0, .ref a_net), (1, .int (nI X)), (2, .int (nI Y))]) hx hb d_Net_join_57 rfl hl (by decide) rfl (fun ls hl => ?_)
                refine lv_aload_n hx hb d_Net_join_58 rfl (lv_at hl 1 rfl) ?_
                refine lv_iload_n hx hb d_Net_join_59 rfl (lv_at hl 0 rfl) ?_
                refine k_i (wr := [(a_depths, .inl (cI, 1393, .inl (nF Dp)))]) (w2 := fun (u : Unit) => [(a_net, .inr (0, [.int (nI g), .int (nI gd), .ref a_pairs, .ref a_depths, .ref a_values, .ref a_slots, .int (nI st)])), (a_pairs, .inl (cI, 1393, .inl (nF P))), (a_depths, .inl (cI, 1393, .inl (nF Dp))), (a_slots, .inl (cI, 2048, .inl (nF Sl)))]) (va_runV (As := [.int (nI (min X Y * 4096 + max X Y))]) (rest := []) ⟨hx, hb, hml, hown, hts⟩ (c_Net_slotOf l dC dI cI cZ a_net a_pairs a_depths a_values a_slots tt H.size g gd st P Sl (min X Y * 4096 + max X Y) (by omega) (by omega) (by omega) b_P b_Sl (NI_free hN.1 b_g _) (by omega)) (cwV 1 hts (gd_V in_tl (mw 421 rfl rfl) (mw 423 rfl rfl) (mw 9 rfl rfl) (mw 45 rfl rfl) (mw 424 rfl rfl)) rfl rfl rfl (by decide +kernel) ⟨Nat.le_of_ble_eq_true rfl, Nat.le_of_ble_eq_true rfl⟩) (k_preV hK hP hD hS hA hE [0, 1, 3] (by decide) rfl 0 0 rfl rfl) rfl rfl hl.1 rfl (lv_room (Nat.le_of_ble_eq_true rfl)) d_Net_join_60 ⟨Nat.zero_le _, Nat.zero_le _⟩) hP hD hS hA [0, 1, 3] [2] [1, 2, 0, 3] rfl rfl (by decide) (by decide) (by decide) (fun _ => rfl) (fun r_2 u H locs hw hP hD hS => ?_)
                obtain ⟨v_3, rfl, hf_60, hr_60⟩ : ∃ rv : Nat, r_2 = nI rv ∧ (Fnd P Sl (min X Y * 4096 + max X Y) rv) ∧ (rv < 2048) := hw
                have hP : va_P (dC, dI) classes [(a_net, .inr (0, [.int (nI g), .int (nI gd), .ref a_pairs, .ref a_depths, .ref a_values, .ref a_slots, .int (nI st)])), (a_pairs, .inl (cI, 1393, .inl (nF P))), (a_depths, .inl (cI, 1393, .inl (nF Dp))), (a_slots, .inl (cI, 2048, .inl (nF Sl)))] H := hP
                have hD : va_D A [(a_net, .inr (0, [.int (nI g), .int (nI gd), .ref a_pairs, .ref a_depths, .ref a_values, .ref a_slots, .int (nI st)])), (a_pairs, .inl (cI, 1393, .inl (nF P))), (a_depths, .inl (cI, 1393, .inl (nF Dp))), (a_slots, .inl (cI, 2048, .inl (nF Sl)))] := hD
                refine lv_istore (lv' := [(4, .int (nI v_3)), (3, .int (nI (min X Y * 4096 + max X Y))), (0, .ref a_net), (1, .int (nI X)), (2, .int (nI Y))]) hx hb d_Net_join_63 hl (by decide) rfl (fun ls hl => ?_)
                refine lv_aload_n hx hb d_Net_join_65 rfl (lv_at hl 2 rfl) ?_
                refine va_get (D := (dC, dI)) (ci := 0) (v := .ref a_slots) (C := R_Net) (T := F_Net) (N := 7) hx hb hts (wi i_Net) hown hK hP 0 rfl rfl 5 (by decide) (hts _ (mt 183 rfl rfl)) (fun _ h9 => h9) rfl d_Net_join_66 ?_
                refine lv_iload hx hb d_Net_join_69 (lv_at hl 0 rfl) ?_
                refine k_ild hx hb hK hP 3 0 rfl rfl (by omega) (by decide) d_Net_join_71 ?_
                have hb_4 := b_Sl v_3
                refine lv_if_ne (tgt := 82) hx hb d_Net_join_72 (by decide) (fun c72 => ?_) (fun c72 => ?_)
                · skip
                  have c72 : ¬ ((Sl v_3) = 0) := fun h => c72 ((nI_eq0 (by omega)).mpr h)
                  refine lv_iconst (v := nI 2) hx hb d_Net_join_82 rfl ?_
                  refine lv_aload_n hx hb d_Net_join_83 rfl (lv_at hl 2 rfl) ?_
                  refine va_get (D := (dC, dI)) (ci := 0) (v := .ref a_slots) (C := R_Net) (T := F_Net) (N := 7) hx hb hts (wi i_Net) hown hK hP 0 rfl rfl 5 (by decide) (hts _ (mt 183 rfl rfl)) (fun _ h9 => h9) rfl d_Net_join_84 ?_
                  refine lv_iload hx hb d_Net_join_87 (lv_at hl 0 rfl) ?_
                  refine k_ild hx hb hK hP 3 0 rfl rfl (by omega) (by decide) d_Net_join_89 ?_
                  have hb_5 := b_Sl v_3
                  refine lv_imul hx hb d_Net_join_90 ?_
                  refine k_top (pk_mul _ _) ?_
                  exact W.iret (v := nI (2 * (Sl v_3))) hx hb hr (fun t ht hW => ⟨⟨nI (2 * (Sl v_3)), (g, gd, P, Dp, Sl, T), rfl, ⟨2 * (Sl v_3), rfl, (show g ≤ 1280 from by omega), (show gd < 1400 from by omega), b_P, b_Dp, b_Sl, (show NJ g gd P Dp Sl T from hN), (show ST T g T g (jl (LT T X) (LT T Y)) from (J_old hN.1 hX hY b_g hne h3.2 hr_60 hf_60 c72).1), (show (2 * (Sl v_3)) < 2 * (113 + g) from (J_old hN.1 hX hY b_g hne h3.2 hr_60 hf_60 c72).2.1), (show LT T (2 * (Sl v_3)) = jn (LT T X) (LT T Y) from (J_old hN.1 hX hY b_g hne h3.2 hr_60 hf_60 c72).2.2), (show AL K T g from hAL)⟩, by rw [ht]; exact hP, va_K.moved hW.alike hK, hD⟩, hS.F ht⟩) hS.2.2 d_Net_join_91
                · skip
                  have c72 : (Sl v_3) = 0 := (nI_eq0 (by omega)).mp c72
                  have hnew := NI_new hN.1 (a := min X Y) (b := max X Y) (by omega) (by omega) (Fnd_free hN.1 hf_60 c72)
                  rw [gN_mm] at hnew
                  have hlt : g < 1280 := AL_lt hAL hN.1.2.2.2.1 (hin _ (by rw [h3.2.1]; exact List.mem_singleton.mpr rfl)) hnew
                  have e1 : (min X Y * 4096 + max X Y) / 2 ^ 12 / 2 ^ 1 = min X Y / 2 := pair_hi (by omega)
                  have e2 : ((min X Y * 4096 + max X Y) &&& 4095) / 2 ^ 1 = max X Y / 2 := pair_lo (by omega)
                  refine lv_aload_n hx hb d_Net_join_75 rfl (lv_at hl 2 rfl) ?_
                  refine lv_iload_n hx hb d_Net_join_76 rfl (lv_at hl 1 rfl) ?_
                  refine lv_iload hx hb d_Net_join_77 (lv_at hl 0 rfl) ?_
                  refine k_v (wr := []) (w2 := fun (u : Nat × (Nat → Nat)) => [(a_net, .inr (0, [.int (nI (g + 1)), .int (nI u.1), .ref a_pairs, .ref a_depths, .ref a_values, .ref a_slots, .int (nI st)])), (a_pairs, .inl (cI, 1393, .inl (nF (upN P (113 + g) (min X Y * 4096 + max X Y))))), (a_depths, .inl (cI, 1393, .inl (nF u.2))), (a_slots, .inl (cI, 2048, .inl (nF (upN Sl v_3 (113 + g)))))]) (va_runV (As := [.int (nI (min X Y * 4096 + max X Y)), .int (nI v_3)]) (rest := []) ⟨hx, hb, hml, hown, hts⟩ (c_Net_addGate l dC dI cI cZ a_net a_pairs a_depths a_values a_slots tt H.size g gd st P Dp Sl (min X Y * 4096 + max X Y) v_3 (by omega) (by omega) (by omega) b_P b_Dp b_Sl (by omega) (by omega) (by omega) (by rw [e1]; omega) (by rw [e2]; omega) (by rw [e1]; have := NI_dp hN.1 _ (min X Y / 2) (Nat.le_refl _) (by omega); omega) (by rw [e2]; have := NI_dp hN.1 _ (max X Y / 2) (Nat.le_refl _) (by omega); omega)) (cwV 2 hts (gd_V in_tl (mw 426 rfl rfl) (mw 428 rfl rfl) (mw 10 rfl rfl) (mw 45 rfl rfl) (mw 429 rfl rfl)) rfl rfl rfl (by decide +kernel) ⟨Nat.le_of_ble_eq_true rfl, Nat.le_of_ble_eq_true rfl⟩) (k_preV hK hP hD hS hA hE [0, 1, 2, 3] (by decide) rfl 0 0 rfl rfl) rfl rfl hl.1 rfl (lv_room (Nat.le_of_ble_eq_true rfl)) d_Net_join_79 ⟨Nat.zero_le _, Nat.zero_le _⟩) hP hD hS hA [0, 1, 2, 3] [] [0, 1, 2, 3] rfl rfl (by decide) (by decide) (by decide) (fun _ => rfl) (fun u H locs hw hP hD hS => ?_)
                  obtain ⟨gdv_6, Dpv_7⟩ := u
                  obtain ⟨b_gdv_6, b_Dpv_7, hD_79, hgd_79⟩ : (gdv_6 < 1400) ∧ (∀ j, Dpv_7 j < 1400) ∧ (Dpv_7 = upN Dp (113 + g) (1 + max (Dp ((min X Y * 4096 + max X Y) / 2 ^ 12 / 2 ^ 1)) (Dp (((min X Y * 4096 + max X Y) &&& 4095) / 2 ^ 1)))) ∧ (gdv_6 = max gd (1 + max (Dp ((min X Y * 4096 + max X Y) / 2 ^ 12 / 2 ^ 1)) (Dp (((min X Y * 4096 + max X Y) &&& 4095) / 2 ^ 1)))) := hw
                  have hP : va_P (dC, dI) classes [(a_net, .inr (0, [.int (nI (g + 1)), .int (nI gdv_6), .ref a_pairs, .ref a_depths, .ref a_values, .ref a_slots, .int (nI st)])), (a_pairs, .inl (cI, 1393, .inl (nF (upN P (113 + g) (min X Y * 4096 + max X Y))))), (a_depths, .inl (cI, 1393, .inl (nF Dpv_7))), (a_slots, .inl (cI, 2048, .inl (nF (upN Sl v_3 (113 + g)))))] H := hP
                  have hD : va_D A [(a_net, .inr (0, [.int (nI (g + 1)), .int (nI gdv_6), .ref a_pairs, .ref a_depths, .ref a_values, .ref a_slots, .int (nI st)])), (a_pairs, .inl (cI, 1393, .inl (nF (upN P (113 + g) (min X Y * 4096 + max X Y))))), (a_depths, .inl (cI, 1393, .inl (nF Dpv_7))), (a_slots, .inl (cI, 2048, .inl (nF (upN Sl v_3 (113 + g)))))] := hD
                  rw [e1, e2] at hD_79 hgd_79
                  have bS79 : ∀ j, upN Sl v_3 (113 + g) j < 1393 := upN_lt b_Sl (by omega)
                  have bP79 : ∀ j, upN P (113 + g) (min X Y * 4096 + max X Y) j < 16777216 := upN_lt b_P (by omega)
                  have hJ := J_new hN hX hY hne h3.1 h3.2 hr_60 hf_60 c72 hD_79 hgd_79
                  refine lv_iconst (v := nI 2) hx hb d_Net_join_82 rfl ?_
                  refine lv_aload_n hx hb d_Net_join_83 rfl (lv_at hl 2 rfl) ?_
                  refine va_get (D := (dC, dI)) (ci := 0) (v := .ref a_slots) (C := R_Net) (T := F_Net) (N := 7) hx hb hts (wi i_Net) hown hK hP 0 rfl rfl 5 (by decide) (hts _ (mt 183 rfl rfl)) (fun _ h9 => h9) rfl d_Net_join_84 ?_
                  refine lv_iload hx hb d_Net_join_87 (lv_at hl 0 rfl) ?_
                  refine k_ild hx hb hK hP 3 0 rfl rfl (by omega) (by decide) d_Net_join_89 ?_
                  have hb_9 := bS79 v_3
                  refine lv_imul hx hb d_Net_join_90 ?_
                  refine k_top (pk_mul _ _) ?_
                  refine k_top (congrArg nI (show 2 * ((upN Sl v_3 (113 + g)) v_3) = 2 * (113 + g) from (by rw [upN_self]))) ?_
                  exact W.iret (v := nI (2 * (113 + g))) hx hb hr (fun t ht hW => ⟨⟨nI (2 * (113 + g)), (g + 1, gdv_6, upN P (113 + g) (min X Y * 4096 + max X Y), Dpv_7, upN Sl v_3 (113 + g), upN T (113 + g) (gN (LT T X) (LT T Y))), rfl, ⟨2 * (113 + g), rfl, (show (g + 1) ≤ 1280 from by omega), (show gdv_6 < 1400 from by omega), bP79, b_Dpv_7, bS79, (show NJ (g + 1) gdv_6 (upN P (113 + g) (min X Y * 4096 + max X Y)) Dpv_7 (upN Sl v_3 (113 + g)) (upN T (113 + g) (gN (LT T X) (LT T Y))) from hJ.1), (show ST T g (upN T (113 + g) (gN (LT T X) (LT T Y))) (g + 1) (jl (LT T X) (LT T Y)) from hJ.2.1), (show (2 * (113 + g)) < 2 * (113 + (g + 1)) from (by omega)), (show LT (upN T (113 + g) (gN (LT T X) (LT T Y))) (2 * (113 + g)) = jn (LT T X) (LT T Y) from hJ.2.2), (show AL K (upN T (113 + g) (gN (LT T X) (LT T Y))) (g + 1) from (AL_st hAL hJ.2.1 hin))⟩, by rw [ht]; exact hP, va_K.moved hW.alike hK, hD⟩, hS.F ht⟩) hS.2.2 d_Net_join_91
              · skip
                have c39 : ¬ (Y ≤ X) := fun h => c39 ((nI_leI (by omega) (by omega)).mpr h)
                refine lv_iload_n hx hb d_Net_join_42 rfl (lv_at hl 1 rfl) ?_
                refine lv_bipush (v := nI 12) hx hb d_Net_join_43 rfl ?_
                refine lv_ishl hx hb d_Net_join_45 ?_
                refine k_top (nI_shl _ (by omega)) ?_
                refine lv_iload_n hx hb d_Net_join_46 rfl (lv_at hl 2 rfl) ?_
                refine lv_ior hx hb d_Net_join_47 ?_
                refine k_top (nI_or _ _) ?_
                refine lv_goto (tgt := 57) hx hb d_Net_join_48 (by decide) ?_
                refine k_top (congrArg nI (show (X * 2 ^ 12) ||| Y = min X Y * 4096 + max X Y from (by rw [or12 (by omega)]; omega))) ?_
                refine lv_istore_n (lv' := [(3, .int (nI (min X Y * 4096 + max X Y))), (0, .ref a_net), (1, .int (nI X)), (2, .int (nI Y))]) hx hb d_Net_join_57 rfl hl (by decide) rfl (fun ls hl => ?_)
                refine lv_aload_n hx hb d_Net_join_58 rfl (lv_at hl 1 rfl) ?_
                refine lv_iload_n hx hb d_Net_join_59 rfl (lv_at hl 0 rfl) ?_
                refine k_i (wr := [(a_depths, .inl (cI, 1393, .inl (nF Dp)))]) (w2 := fun (u : Unit) => [(a_net, .inr (0, [.int (nI g), .int (nI gd), .ref a_pairs, .ref a_depths, .ref a_values, .ref a_slots, .int (nI st)])), (a_pairs, .inl (cI, 1393, .inl (nF P))), (a_depths, .inl (cI, 1393, .inl (nF Dp))), (a_slots, .inl (cI, 2048, .inl (nF Sl)))]) (va_runV (As := [.int (nI (min X Y * 4096 + max X Y))]) (rest := []) ⟨hx, hb, hml, hown, hts⟩ (c_Net_slotOf l dC dI cI cZ a_net a_pairs a_depths a_values a_slots tt H.size g gd st P Sl (min X Y * 4096 + max X Y) (by omega) (by omega) (by omega) b_P b_Sl (NI_free hN.1 b_g _) (by omega)) (cwV 1 hts (gd_V in_tl (mw 421 rfl rfl) (mw 423 rfl rfl) (mw 9 rfl rfl) (mw 45 rfl rfl) (mw 424 rfl rfl)) rfl rfl rfl (by decide +kernel) ⟨Nat.le_of_ble_eq_true rfl, Nat.le_of_ble_eq_true rfl⟩) (k_preV hK hP hD hS hA hE [0, 1, 3] (by decide) rfl 0 0 rfl rfl) rfl rfl hl.1 rfl (lv_room (Nat.le_of_ble_eq_true rfl)) d_Net_join_60 ⟨Nat.zero_le _, Nat.zero_le _⟩) hP hD hS hA [0, 1, 3] [2] [1, 2, 0, 3] rfl rfl (by decide) (by decide) (by decide) (fun _ => rfl) (fun r_10 u H locs hw hP hD hS => ?_)
                obtain ⟨v_11, rfl, hf_60, hr_60⟩ : ∃ rv : Nat, r_10 = nI rv ∧ (Fnd P Sl (min X Y * 4096 + max X Y) rv) ∧ (rv < 2048) := hw
                have hP : va_P (dC, dI) classes [(a_net, .inr (0, [.int (nI g), .int (nI gd), .ref a_pairs, .ref a_depths, .ref a_values, .ref a_slots, .int (nI st)])), (a_pairs, .inl (cI, 1393, .inl (nF P))), (a_depths, .inl (cI, 1393, .inl (nF Dp))), (a_slots, .inl (cI, 2048, .inl (nF Sl)))] H := hP
                have hD : va_D A [(a_net, .inr (0, [.int (nI g), .int (nI gd), .ref a_pairs, .ref a_depths, .ref a_values, .ref a_slots, .int (nI st)])), (a_pairs, .inl (cI, 1393, .inl (nF P))), (a_depths, .inl (cI, 1393, .inl (nF Dp))), (a_slots, .inl (cI, 2048, .inl (nF Sl)))] := hD
                refine lv_istore (lv' := [(4, .int (nI v_11)), (3, .int (nI (min X Y * 4096 + max X Y))), (0, .ref a_net), (1, .int (nI X)), (2, .int (nI Y))]) hx hb d_Net_join_63 hl (by decide) rfl (fun ls hl => ?_)
                refine lv_aload_n hx hb d_Net_join_65 rfl (lv_at hl 2 rfl) ?_
                refine va_get (D := (dC, dI)) (ci := 0) (v := .ref a_slots) (C := R_Net) (T := F_Net) (N := 7) hx hb hts (wi i_Net) hown hK hP 0 rfl rfl 5 (by decide) (hts _ (mt 183 rfl rfl)) (fun _ h9 => h9) rfl d_Net_join_66 ?_
                refine lv_iload hx hb d_Net_join_69 (lv_at hl 0 rfl) ?_
                refine k_ild hx hb hK hP 3 0 rfl rfl (by omega) (by decide) d_Net_join_71 ?_
                have hb_12 := b_Sl v_11
                refine lv_if_ne (tgt := 82) hx hb d_Net_join_72 (by decide) (fun c72 => ?_) (fun c72 => ?_)
                · skip
                  have c72 : ¬ ((Sl v_11) = 0) := fun h => c72 ((nI_eq0 (by omega)).mpr h)
                  refine lv_iconst (v := nI 2) hx hb d_Net_join_82 rfl ?_
                  refine lv_aload_n hx hb d_Net_join_83 rfl (lv_at hl 2 rfl) ?_
                  refine va_get (D := (dC, dI)) (ci := 0) (v := .ref a_slots) (C := R_Net) (T := F_Net) (N := 7) hx hb hts (wi i_Net) hown hK hP 0 rfl rfl 5 (by decide) (hts _ (mt 183 rfl rfl)) (fun _ h9 => h9) rfl d_Net_join_84 ?_
                  refine lv_iload hx hb d_Net_join_87 (lv_at hl 0 rfl) ?_
                  refine k_ild hx hb hK hP 3 0 rfl rfl (by omega) (by decide) d_Net_join_89 ?_
                  have hb_13 := b_Sl v_11
                  refine lv_imul hx hb d_Net_join_90 ?_
                  refine k_top (pk_mul _ _) ?_
                  exact W.iret (v := nI (2 * (Sl v_11))) hx hb hr (fun t ht hW => ⟨⟨nI (2 * (Sl v_11)), (g, gd, P, Dp, Sl, T), rfl, ⟨2 * (Sl v_11), rfl, (show g ≤ 1280 from by omega), (show gd < 1400 from by omega), b_P, b_Dp, b_Sl, (show NJ g gd P Dp Sl T from hN), (show ST T g T g (jl (LT T X) (LT T Y)) from (J_old hN.1 hX hY b_g hne h3.2 hr_60 hf_60 c72).1), (show (2 * (Sl v_11)) < 2 * (113 + g) from (J_old hN.1 hX hY b_g hne h3.2 hr_60 hf_60 c72).2.1), (show LT T (2 * (Sl v_11)) = jn (LT T X) (LT T Y) from (J_old hN.1 hX hY b_g hne h3.2 hr_60 hf_60 c72).2.2), (show AL K T g from hAL)⟩, by rw [ht]; exact hP, va_K.moved hW.alike hK, hD⟩, hS.F ht⟩) hS.2.2 d_Net_join_91
                · skip
                  have c72 : (Sl v_11) = 0 := (nI_eq0 (by omega)).mp c72
                  have hnew := NI_new hN.1 (a := min X Y) (b := max X Y) (by omega) (by omega) (Fnd_free hN.1 hf_60 c72)
                  rw [gN_mm] at hnew
                  have hlt : g < 1280 := AL_lt hAL hN.1.2.2.2.1 (hin _ (by rw [h3.2.1]; exact List.mem_singleton.mpr rfl)) hnew
                  have e1 : (min X Y * 4096 + max X Y) / 2 ^ 12 / 2 ^ 1 = min X Y / 2 := pair_hi (by omega)
                  have e2 : ((min X Y * 4096 + max X Y) &&& 4095) / 2 ^ 1 = max X Y / 2 := pair_lo (by omega)
                  refine lv_aload_n hx hb d_Net_join_75 rfl (lv_at hl 2 rfl) ?_
                  refine lv_iload_n hx hb d_Net_join_76 rfl (lv_at hl 1 rfl) ?_
                  refine lv_iload hx hb d_Net_join_77 (lv_at hl 0 rfl) ?_
                  refine k_v (wr := []) (w2 := fun (u : Nat × (Nat → Nat)) => [(a_net, .inr (0, [.int (nI (g + 1)), .int (nI u.1), .ref a_pairs, .ref a_depths, .ref a_values, .ref a_slots, .int (nI st)])), (a_pairs, .inl (cI, 1393, .inl (nF (upN P (113 + g) (min X Y * 4096 + max X Y))))), (a_depths, .inl (cI, 1393, .inl (nF u.2))), (a_slots, .inl (cI, 2048, .inl (nF (upN Sl v_11 (113 + g)))))]) (va_runV (As := [.int (nI (min X Y * 4096 + max X Y)), .int (nI v_11)]) (rest := []) ⟨hx, hb, hml, hown, hts⟩ (c_Net_addGate l dC dI cI cZ a_net a_pairs a_depths a_values a_slots tt H.size g gd st P Dp Sl (min X Y * 4096 + max X Y) v_11 (by omega) (by omega) (by omega) b_P b_Dp b_Sl (by omega) (by omega) (by omega) (by rw [e1]; omega) (by rw [e2]; omega) (by rw [e1]; have := NI_dp hN.1 _ (min X Y / 2) (Nat.le_refl _) (by omega); omega) (by rw [e2]; have := NI_dp hN.1 _ (max X Y / 2) (Nat.le_refl _) (by omega); omega)) (cwV 2 hts (gd_V in_tl (mw 426 rfl rfl) (mw 428 rfl rfl) (mw 10 rfl rfl) (mw 45 rfl rfl) (mw 429 rfl rfl)) rfl rfl rfl (by decide +kernel) ⟨Nat.le_of_ble_eq_true rfl, Nat.le_of_ble_eq_true rfl⟩) (k_preV hK hP hD hS hA hE [0, 1, 2, 3] (by decide) rfl 0 0 rfl rfl) rfl rfl hl.1 rfl (lv_room (Nat.le_of_ble_eq_true rfl)) d_Net_join_79 ⟨Nat.zero_le _, Nat.zero_le _⟩) hP hD hS hA [0, 1, 2, 3] [] [0, 1, 2, 3] rfl rfl (by decide) (by decide) (by decide) (fun _ => rfl) (fun u H locs hw hP hD hS => ?_)
                  obtain ⟨gdv_14, Dpv_15⟩ := u
                  obtain ⟨b_gdv_14, b_Dpv_15, hD_79, hgd_79⟩ : (gdv_14 < 1400) ∧ (∀ j, Dpv_15 j < 1400) ∧ (Dpv_15 = upN Dp (113 + g) (1 + max (Dp ((min X Y * 4096 + max X Y) / 2 ^ 12 / 2 ^ 1)) (Dp (((min X Y * 4096 + max X Y) &&& 4095) / 2 ^ 1)))) ∧ (gdv_14 = max gd (1 + max (Dp ((min X Y * 4096 + max X Y) / 2 ^ 12 / 2 ^ 1)) (Dp (((min X Y * 4096 + max X Y) &&& 4095) / 2 ^ 1)))) := hw
                  have hP : va_P (dC, dI) classes [(a_net, .inr (0, [.int (nI (g + 1)), .int (nI gdv_14), .ref a_pairs, .ref a_depths, .ref a_values, .ref a_slots, .int (nI st)])), (a_pairs, .inl (cI, 1393, .inl (nF (upN P (113 + g) (min X Y * 4096 + max X Y))))), (a_depths, .inl (cI, 1393, .inl (nF Dpv_15))), (a_slots, .inl (cI, 2048, .inl (nF (upN Sl v_11 (113 + g)))))] H := hP
                  have hD : va_D A [(a_net, .inr (0, [.int (nI (g + 1)), .int (nI gdv_14), .ref a_pairs, .ref a_depths, .ref a_values, .ref a_slots, .int (nI st)])), (a_pairs, .inl (cI, 1393, .inl (nF (upN P (113 + g) (min X Y * 4096 + max X Y))))), (a_depths, .inl (cI, 1393, .inl (nF Dpv_15))), (a_slots, .inl (cI, 2048, .inl (nF (upN Sl v_11 (113 + g)))))] := hD
                  rw [e1, e2] at hD_79 hgd_79
                  have bS79 : ∀ j, upN Sl v_11 (113 + g) j < 1393 := upN_lt b_Sl (by omega)
                  have bP79 : ∀ j, upN P (113 + g) (min X Y * 4096 + max X Y) j < 16777216 := upN_lt b_P (by omega)
                  have hJ := J_new hN hX hY hne h3.1 h3.2 hr_60 hf_60 c72 hD_79 hgd_79
                  refine lv_iconst (v := nI 2) hx hb d_Net_join_82 rfl ?_
                  refine lv_aload_n hx hb d_Net_join_83 rfl (lv_at hl 2 rfl) ?_
                  refine va_get (D := (dC, dI)) (ci := 0) (v := .ref a_slots) (C := R_Net) (T := F_Net) (N := 7) hx hb hts (wi i_Net) hown hK hP 0 rfl rfl 5 (by decide) (hts _ (mt 183 rfl rfl)) (fun _ h9 => h9) rfl d_Net_join_84 ?_
                  refine lv_iload hx hb d_Net_join_87 (lv_at hl 0 rfl) ?_
                  refine k_ild hx hb hK hP 3 0 rfl rfl (by omega) (by decide) d_Net_join_89 ?_
                  have hb_17 := bS79 v_11
                  refine lv_imul hx hb d_Net_join_90 ?_
                  refine k_top (pk_mul _ _) ?_
                  refine k_top (congrArg nI (show 2 * ((upN Sl v_11 (113 + g)) v_11) = 2 * (113 + g) from (by rw [upN_self]))) ?_
                  exact W.iret (v := nI (2 * (113 + g))) hx hb hr (fun t ht hW => ⟨⟨nI (2 * (113 + g)), (g + 1, gdv_14, upN P (113 + g) (min X Y * 4096 + max X Y), Dpv_15, upN Sl v_11 (113 + g), upN T (113 + g) (gN (LT T X) (LT T Y))), rfl, ⟨2 * (113 + g), rfl, (show (g + 1) ≤ 1280 from by omega), (show gdv_14 < 1400 from by omega), bP79, b_Dpv_15, bS79, (show NJ (g + 1) gdv_14 (upN P (113 + g) (min X Y * 4096 + max X Y)) Dpv_15 (upN Sl v_11 (113 + g)) (upN T (113 + g) (gN (LT T X) (LT T Y))) from hJ.1), (show ST T g (upN T (113 + g) (gN (LT T X) (LT T Y))) (g + 1) (jl (LT T X) (LT T Y)) from hJ.2.1), (show (2 * (113 + g)) < 2 * (113 + (g + 1)) from (by omega)), (show LT (upN T (113 + g) (gN (LT T X) (LT T Y))) (2 * (113 + g)) = jn (LT T X) (LT T Y) from hJ.2.2), (show AL K (upN T (113 + g) (gN (LT T X) (LT T Y))) (g + 1) from (AL_st hAL hJ.2.1 hin))⟩, by rw [ht]; exact hP, va_K.moved hW.alike hK, hD⟩, hS.F ht⟩) hS.2.2 d_Net_join_91
            · skip
              have c32 : X = Y := (nI_eq (by omega) (by omega)).mp c32
              have h2 : Y = 1 ∨ X = Y := by omega
              refine lv_iload_n hx hb d_Net_join_35 rfl (lv_at hl 1 rfl) ?_
              exact W.iret (v := nI X) hx hb hr (fun t ht hW => ⟨⟨nI X, (g, gd, P, Dp, Sl, T), rfl, ⟨X, rfl, (show g ≤ 1280 from by omega), (show gd < 1400 from by omega), b_P, b_Dp, b_Sl, (show NJ g gd P Dp Sl T from hN), (show ST T g T g (jl (LT T X) (LT T Y)) from ST_rf (J_2 hN.1 hX hY hz c20 h2).1), (show X < 2 * (113 + g) from (by omega)), (show LT T X = jn (LT T X) (LT T Y) from (J_2 hN.1 hX hY hz c20 h2).2), (show AL K T g from hAL)⟩, by rw [ht]; exact hP, va_K.moved hW.alike hK, hD⟩, hS.F ht⟩) hS.2.2 d_Net_join_36
        · skip
          have c20 : X = 1 := (nI_eq (by omega) (by omega)).mp c20
          refine lv_iload_n hx hb d_Net_join_23 rfl (lv_at hl 2 rfl) ?_
          exact W.iret (v := nI Y) hx hb hr (fun t ht hW => ⟨⟨nI Y, (g, gd, P, Dp, Sl, T), rfl, ⟨Y, rfl, (show g ≤ 1280 from by omega), (show gd < 1400 from by omega), b_P, b_Dp, b_Sl, (show NJ g gd P Dp Sl T from hN), (show ST T g T g (jl (LT T X) (LT T Y)) from ST_rf (J_1 hN.1 hX hY hz c20).1), (show Y < 2 * (113 + g) from (by omega)), (show LT T Y = jn (LT T X) (LT T Y) from (J_1 hN.1 hX hY hz c20).2), (show AL K T g from hAL)⟩, by rw [ht]; exact hP, va_K.moved hW.alike hK, hD⟩, hS.F ht⟩) hS.2.2 d_Net_join_24
      · skip
        have c13 : X = (op1 Y) := (nI_eq (by omega) (by omega)).mp c13
        have hz : X = 0 ∨ Y = 0 ∨ X = op1 Y := by omega
        refine lv_iconst (v := nI 0) hx hb d_Net_join_16 rfl ?_
        exact W.iret (v := nI 0) hx hb hr (fun t ht hW => ⟨⟨nI 0, (g, gd, P, Dp, Sl, T), rfl, ⟨0, rfl, (show g ≤ 1280 from by omega), (show gd < 1400 from by omega), b_P, b_Dp, b_Sl, (show NJ g gd P Dp Sl T from hN), (show ST T g T g (jl (LT T X) (LT T Y)) from ST_rf (J_0 hN.1 hX hY hz).1), (show 0 < 2 * (113 + g) from (by omega)), (show LT T 0 = jn (LT T X) (LT T Y) from (J_0 hN.1 hX hY hz).2), (show AL K T g from hAL)⟩, by rw [ht]; exact hP, va_K.moved hW.alike hK, hD⟩, hS.F ht⟩) hS.2.2 d_Net_join_17
set_option maxHeartbeats 4000000 in
set_option maxRecDepth 100000 in
theorem c_Net_either (l : Launch) (dC : Nat → ClassId) (dI : Nat → Nat → Nat) (cI cZ : ClassId) (a_net a_pairs a_depths a_values a_slots : Nat) (tt sz : Nat) (g : Nat) (gd : Nat) (st : Nat) (P : Nat → Nat) (Dp : Nat → Nat) (Sl : Nat → Nat) (T : Nat → Nat) (K : List Nat) (X : Nat) (Y : Nat) (b_g : g ≤ 1280) (b_gd : gd < 1400) (b_st : st ≤ 1) (b_P : ∀ j, P j < 16777216) (b_Dp : ∀ j, Dp j < 1400) (b_Sl : ∀ j, Sl j < 1393) (hN : NJ g gd P Dp Sl T) (hAL : AL K T g) (hX : X < 2 * (113 + g)) (hY : Y < 2 * (113 + g)) (hin : ∀ c, c ∈ eil (LT T X) (LT T Y) → c ∈ K) : Met l y_Net_either w_Net_either ({ frames := 2, cells := 0, slots := 0, locals := 49 }) (va_Pc [.ref a_net, .int (nI X), .int (nI Y)] (PW (dC, dI) classes [(cI, .int), (cZ, .boolean)] tt [(a_net, .inr (0, [.int (nI g), .int (nI gd), .ref a_pairs, .ref a_depths, .ref a_values, .ref a_slots, .int (nI st)])), (a_pairs, .inl (cI, 1393, .inl (nF P))), (a_depths, .inl (cI, 1393, .inl (nF Dp))), (a_slots, .inl (cI, 2048, .inl (nF Sl)))] sz)) (va_Qi (fun (r : Int32) (u : Nat × Nat × (Nat → Nat) × (Nat → Nat) × (Nat → Nat) × (Nat → Nat)) => ∃ rv : Nat, r = nI rv ∧ (u.1 ≤ 1280) ∧ (u.2.1 < 1400) ∧ (∀ j, u.2.2.1 j < 16777216) ∧ (∀ j, u.2.2.2.1 j < 1400) ∧ (∀ j, u.2.2.2.2.1 j < 1393) ∧ (NJ u.1 u.2.1 u.2.2.1 u.2.2.2.1 u.2.2.2.2.1 u.2.2.2.2.2) ∧ (ST T g u.2.2.2.2.2 u.1 (eil (LT T X) (LT T Y))) ∧ (rv < 2 * (113 + u.1)) ∧ (LT u.2.2.2.2.2 rv = ei (LT T X) (LT T Y)) ∧ (AL K u.2.2.2.2.2 u.1)) (AT (dC, dI) classes [(cI, .int), (cZ, .boolean)] (va_A [(a_net, .inr (0, [.int (nI g), .int (nI gd), .ref a_pairs, .ref a_depths, .ref a_values, .ref a_slots, .int (nI st)])), (a_pairs, .inl (cI, 1393, .inl (nF P))), (a_depths, .inl (cI, 1393, .inl (nF Dp))), (a_slots, .inl (cI, 2048, .inl (nF Sl)))] sz) (fun (u : Nat × Nat × (Nat → Nat) × (Nat → Nat) × (Nat → Nat) × (Nat → Nat)) => [(a_net, .inr (0, [.int (nI u.1), .int (nI u.2.1), .ref a_pairs, .ref a_depths, .ref a_values, .ref a_slots, .int (nI st)])), (a_pairs, .inl (cI, 1393, .inl (nF u.2.2.1))), (a_depths, .inl (cI, 1393, .inl (nF u.2.2.2.1))), (a_slots, .inl (cI, 2048, .inl (nF u.2.2.2.2.1)))])) (va_A [(a_net, .inr (0, [.int (nI g), .int (nI gd), .ref a_pairs, .ref a_depths, .ref a_values, .ref a_slots, .int (nI st)])), (a_pairs, .inl (cI, 1393, .inl (nF P))), (a_depths, .inl (cI, 1393, .inl (nF Dp))), (a_slots, .inl (cI, 2048, .inl (nF Sl)))] sz)) 0 0 (va_A [(a_net, .inr (0, [.int (nI g), .int (nI gd), .ref a_pairs, .ref a_depths, .ref a_values, .ref a_slots, .int (nI st)])), (a_pairs, .inl (cI, 1393, .inl (nF P))), (a_depths, .inl (cI, 1393, .inl (nF Dp))), (a_slots, .inl (cI, 2048, .inl (nF Sl)))] sz) := by
  refine Met.ofW (cc := b_Net_either) (maxL := 3) (ret := (some .int)) (by decide) rfl ?_
  intro p e s m args below meth c s₁ B hml hv
  obtain ⟨rfl, hsz, hP, hK, hD0, hE⟩ := hv
  have hx := B.exec
  have hb := B.bytes
  have hr := B.returns
  have hts := atoms_spec (ws := w_Net_either) B.pre
  have hown : s.vm.findClass R_Net = some m.cls := findClass_of_methodNamed B.named
  have hlocks := B.notSynchronized
  subst hsz
  have hD := hD0.self (sz := s.heap.size)
  generalize hAe : va_A [(a_net, .inr (0, [.int (nI g), .int (nI gd), .ref a_pairs, .ref a_depths, .ref a_values, .ref a_slots, .int (nI st)])), (a_pairs, .inl (cI, 1393, .inl (nF P))), (a_depths, .inl (cI, 1393, .inl (nF Dp))), (a_slots, .inl (cI, 2048, .inl (nF Sl)))] s.heap.size = A at hD hE ⊢
  have hA : ∀ q : Nat, s.heap.size ≤ q → A q := fun q h => by rw [← hAe]; exact Or.inr h
  have hS : va_S A s.heap s.heap [] := va_S.rf
  have hP : va_P (dC, dI) classes [(a_net, .inr (0, [.int (nI g), .int (nI gd), .ref a_pairs, .ref a_depths, .ref a_values, .ref a_slots, .int (nI st)])), (a_pairs, .inl (cI, 1393, .inl (nF P))), (a_depths, .inl (cI, 1393, .inl (nF Dp))), (a_slots, .inl (cI, 2048, .inl (nF Sl)))] s.heap := hP
  have hl := lv_entry ([.ref a_net, .int (nI X), .int (nI Y)]) (n := 3) (Nat.le_of_ble_eq_true rfl)
  rw [lg_entry_eq]
  generalize (lg_sl ([.ref a_net, .int (nI X), .int (nI Y)]) ++ List.replicate (3 - (lg_sl ([.ref a_net, .int (nI X), .int (nI Y)])).length) Slot.unset).toArray = ls at hl ⊢
  have hl : lv_has ls 3 [(0, .ref a_net), (1, .int (nI X)), (2, .int (nI Y))] := hl
  refine lv_aload_n hx hb d_Net_either_0 rfl (lv_at hl 0 rfl) ?_
  refine lv_iload_n hx hb d_Net_either_1 rfl (lv_at hl 1 rfl) ?_
  refine k_i (wr := [(a_net, .inr (0, [.int (nI g), .int (nI gd), .ref a_pairs, .ref a_depths, .ref a_values, .ref a_slots, .int (nI st)])), (a_pairs, .inl (cI, 1393, .inl (nF P))), (a_depths, .inl (cI, 1393, .inl (nF Dp))), (a_slots, .inl (cI, 2048, .inl (nF Sl)))]) (w2 := fun (u : Unit) => [(a_net, .inr (0, [.int (nI g), .int (nI gd), .ref a_pairs, .ref a_depths, .ref a_values, .ref a_slots, .int (nI st)])), (a_pairs, .inl (cI, 1393, .inl (nF P))), (a_depths, .inl (cI, 1393, .inl (nF Dp))), (a_slots, .inl (cI, 2048, .inl (nF Sl)))]) (va_runS (As := [.int (nI X)]) (rest := [.ref a_net]) ⟨hx, hb, hml, hown, hts⟩ (c_Net_opposite l dC dI cI cZ  tt s.heap.size  X ) (va_cwS 1 hts (gd_S in_tl (mw 418 rfl rfl) (mw 419 rfl rfl) (mw 45 rfl rfl) (mw 420 rfl rfl)) rfl rfl rfl (by decide +kernel) ⟨Nat.le_of_ble_eq_true rfl, Nat.le_of_ble_eq_true rfl⟩) (k_preS hK hP hD hS hA hE [] (by decide) rfl) rfl rfl hl.1 rfl (lv_room (Nat.le_of_ble_eq_true rfl)) d_Net_either_2 ⟨Nat.zero_le _, Nat.zero_le _⟩) hP hD hS hA [] [0, 1, 2, 3] [0, 1, 2, 3] rfl rfl (by decide) (by decide) (by decide) (fun _ => rfl) (fun r_1 u H locs hw hP hD hS => ?_)
  obtain rfl : (r_1 = nI (op1 X)) := hw
  have hP : va_P (dC, dI) classes [(a_net, .inr (0, [.int (nI g), .int (nI gd), .ref a_pairs, .ref a_depths, .ref a_values, .ref a_slots, .int (nI st)])), (a_pairs, .inl (cI, 1393, .inl (nF P))), (a_depths, .inl (cI, 1393, .inl (nF Dp))), (a_slots, .inl (cI, 2048, .inl (nF Sl)))] H := hP
  have hD : va_D A [(a_net, .inr (0, [.int (nI g), .int (nI gd), .ref a_pairs, .ref a_depths, .ref a_values, .ref a_slots, .int (nI st)])), (a_pairs, .inl (cI, 1393, .inl (nF P))), (a_depths, .inl (cI, 1393, .inl (nF Dp))), (a_slots, .inl (cI, 2048, .inl (nF Sl)))] := hD
  refine lv_iload_n hx hb d_Net_either_5 rfl (lv_at hl 2 rfl) ?_
  refine k_i (wr := [(a_net, .inr (0, [.int (nI g), .int (nI gd), .ref a_pairs, .ref a_depths, .ref a_values, .ref a_slots, .int (nI st)])), (a_pairs, .inl (cI, 1393, .inl (nF P))), (a_depths, .inl (cI, 1393, .inl (nF Dp))), (a_slots, .inl (cI, 2048, .inl (nF Sl)))]) (w2 := fun (u : Unit) => [(a_net, .inr (0, [.int (nI g), .int (nI gd), .ref a_pairs, .ref a_depths, .ref a_values, .ref a_slots, .int (nI st)])), (a_pairs, .inl (cI, 1393, .inl (nF P))), (a_depths, .inl (cI, 1393, .inl (nF Dp))), (a_slots, .inl (cI, 2048, .inl (nF Sl)))]) (va_runS (As := [.int (nI Y)]) (rest := [.int (nI (op1 X)), .ref a_net]) ⟨hx, hb, hml, hown, hts⟩ (c_Net_opposite l dC dI cI cZ  tt H.size  Y ) (va_cwS 1 hts (gd_S in_tl (mw 418 rfl rfl) (mw 419 rfl rfl) (mw 45 rfl rfl) (mw 420 rfl rfl)) rfl rfl rfl (by decide +kernel) ⟨Nat.le_of_ble_eq_true rfl, Nat.le_of_ble_eq_true rfl⟩) (k_preS hK hP hD hS hA hE [] (by decide) rfl) rfl rfl hl.1 rfl (lv_room (Nat.le_of_ble_eq_true rfl)) d_Net_either_6 ⟨Nat.zero_le _, Nat.zero_le _⟩) hP hD hS hA [] [0, 1, 2, 3] [0, 1, 2, 3] rfl rfl (by decide) (by decide) (by decide) (fun _ => rfl) (fun r_2 u H locs hw hP hD hS => ?_)
  obtain rfl : (r_2 = nI (op1 Y)) := hw
  have hP : va_P (dC, dI) classes [(a_net, .inr (0, [.int (nI g), .int (nI gd), .ref a_pairs, .ref a_depths, .ref a_values, .ref a_slots, .int (nI st)])), (a_pairs, .inl (cI, 1393, .inl (nF P))), (a_depths, .inl (cI, 1393, .inl (nF Dp))), (a_slots, .inl (cI, 2048, .inl (nF Sl)))] H := hP
  have hD : va_D A [(a_net, .inr (0, [.int (nI g), .int (nI gd), .ref a_pairs, .ref a_depths, .ref a_values, .ref a_slots, .int (nI st)])), (a_pairs, .inl (cI, 1393, .inl (nF P))), (a_depths, .inl (cI, 1393, .inl (nF Dp))), (a_slots, .inl (cI, 2048, .inl (nF Sl)))] := hD
  refine k_i (wr := []) (w2 := fun (u : Nat × Nat × (Nat → Nat) × (Nat → Nat) × (Nat → Nat) × (Nat → Nat)) => [(a_net, .inr (0, [.int (nI u.1), .int (nI u.2.1), .ref a_pairs, .ref a_depths, .ref a_values, .ref a_slots, .int (nI st)])), (a_pairs, .inl (cI, 1393, .inl (nF u.2.2.1))), (a_depths, .inl (cI, 1393, .inl (nF u.2.2.2.1))), (a_slots, .inl (cI, 2048, .inl (nF u.2.2.2.2.1)))]) (va_runV (As := [.int (nI (op1 X)), .int (nI (op1 Y))]) (rest := []) ⟨hx, hb, hml, hown, hts⟩ (c_Net_join l dC dI cI cZ a_net a_pairs a_depths a_values a_slots tt H.size g gd st P Dp Sl T K (op1 X) (op1 Y) (by omega) (by omega) (by omega) b_P b_Dp b_Sl hN hAL (op1_lt hX) (op1_lt hY) (by rw [LT_op, LT_op]; exact hin)) (cwV 2 hts (gd_V in_tl (mw 414 rfl rfl) (mw 415 rfl rfl) (mw 416 rfl rfl) (mw 45 rfl rfl) (mw 417 rfl rfl)) rfl rfl rfl (by decide +kernel) ⟨Nat.le_of_ble_eq_true rfl, Nat.le_of_ble_eq_true rfl⟩) (k_preV hK hP hD hS hA hE [0, 1, 2, 3] (by decide) rfl 0 0 rfl rfl) rfl rfl hl.1 rfl (lv_room (Nat.le_of_ble_eq_true rfl)) d_Net_either_9 ⟨Nat.zero_le _, Nat.zero_le _⟩) hP hD hS hA [0, 1, 2, 3] [] [0, 1, 2, 3] rfl rfl (by decide) (by decide) (by decide) (fun _ => rfl) (fun r_9 u H locs hw hP hD hS => ?_)
  obtain ⟨gv_3, gdv_4, Pv_5, Dpv_6, Slv_7, Tv_8⟩ := u
  obtain ⟨v_10, rfl, b_gv_3, b_gdv_4, b_Pv_5, b_Dpv_6, b_Slv_7, hN_9, hst_9, hrl_9, hc_9, hAL_9⟩ : ∃ rv : Nat, r_9 = nI rv ∧ (gv_3 ≤ 1280) ∧ (gdv_4 < 1400) ∧ (∀ j, Pv_5 j < 16777216) ∧ (∀ j, Dpv_6 j < 1400) ∧ (∀ j, Slv_7 j < 1393) ∧ (NJ gv_3 gdv_4 Pv_5 Dpv_6 Slv_7 Tv_8) ∧ (ST T g Tv_8 gv_3 (jl (LT T (op1 X)) (LT T (op1 Y)))) ∧ (rv < 2 * (113 + gv_3)) ∧ (LT Tv_8 rv = jn (LT T (op1 X)) (LT T (op1 Y))) ∧ (AL K Tv_8 gv_3) := hw
  have hP : va_P (dC, dI) classes [(a_net, .inr (0, [.int (nI gv_3), .int (nI gdv_4), .ref a_pairs, .ref a_depths, .ref a_values, .ref a_slots, .int (nI st)])), (a_pairs, .inl (cI, 1393, .inl (nF Pv_5))), (a_depths, .inl (cI, 1393, .inl (nF Dpv_6))), (a_slots, .inl (cI, 2048, .inl (nF Slv_7)))] H := hP
  have hD : va_D A [(a_net, .inr (0, [.int (nI gv_3), .int (nI gdv_4), .ref a_pairs, .ref a_depths, .ref a_values, .ref a_slots, .int (nI st)])), (a_pairs, .inl (cI, 1393, .inl (nF Pv_5))), (a_depths, .inl (cI, 1393, .inl (nF Dpv_6))), (a_slots, .inl (cI, 2048, .inl (nF Slv_7)))] := hD
  rw [LT_op, LT_op] at hst_9 hc_9
  refine k_i (wr := [(a_net, .inr (0, [.int (nI gv_3), .int (nI gdv_4), .ref a_pairs, .ref a_depths, .ref a_values, .ref a_slots, .int (nI st)])), (a_pairs, .inl (cI, 1393, .inl (nF Pv_5))), (a_depths, .inl (cI, 1393, .inl (nF Dpv_6))), (a_slots, .inl (cI, 2048, .inl (nF Slv_7)))]) (w2 := fun (u : Unit) => [(a_net, .inr (0, [.int (nI gv_3), .int (nI gdv_4), .ref a_pairs, .ref a_depths, .ref a_values, .ref a_slots, .int (nI st)])), (a_pairs, .inl (cI, 1393, .inl (nF Pv_5))), (a_depths, .inl (cI, 1393, .inl (nF Dpv_6))), (a_slots, .inl (cI, 2048, .inl (nF Slv_7)))]) (va_runS (As := [.int (nI v_10)]) (rest := []) ⟨hx, hb, hml, hown, hts⟩ (c_Net_opposite l dC dI cI cZ  tt H.size  v_10 ) (va_cwS 1 hts (gd_S in_tl (mw 418 rfl rfl) (mw 419 rfl rfl) (mw 45 rfl rfl) (mw 420 rfl rfl)) rfl rfl rfl (by decide +kernel) ⟨Nat.le_of_ble_eq_true rfl, Nat.le_of_ble_eq_true rfl⟩) (k_preS hK hP hD hS hA hE [] (by decide) rfl) rfl rfl hl.1 rfl (lv_room (Nat.le_of_ble_eq_true rfl)) d_Net_either_12 ⟨Nat.zero_le _, Nat.zero_le _⟩) hP hD hS hA [] [0, 1, 2, 3] [0, 1, 2, 3] rfl rfl (by decide) (by decide) (by decide) (fun _ => rfl) (fun r_11 u H locs hw hP hD hS => ?_)
  obtain rfl : (r_11 = nI (op1 v_10)) := hw
  have hP : va_P (dC, dI) classes [(a_net, .inr (0, [.int (nI gv_3), .int (nI gdv_4), .ref a_pairs, .ref a_depths, .ref a_values, .ref a_slots, .int (nI st)])), (a_pairs, .inl (cI, 1393, .inl (nF Pv_5))), (a_depths, .inl (cI, 1393, .inl (nF Dpv_6))), (a_slots, .inl (cI, 2048, .inl (nF Slv_7)))] H := hP
  have hD : va_D A [(a_net, .inr (0, [.int (nI gv_3), .int (nI gdv_4), .ref a_pairs, .ref a_depths, .ref a_values, .ref a_slots, .int (nI st)])), (a_pairs, .inl (cI, 1393, .inl (nF Pv_5))), (a_depths, .inl (cI, 1393, .inl (nF Dpv_6))), (a_slots, .inl (cI, 2048, .inl (nF Slv_7)))] := hD
  exact W.iret (v := nI (op1 v_10)) hx hb hr (fun t ht hW => ⟨⟨nI (op1 v_10), (gv_3, gdv_4, Pv_5, Dpv_6, Slv_7, Tv_8), rfl, ⟨op1 v_10, rfl, (show gv_3 ≤ 1280 from by omega), (show gdv_4 < 1400 from by omega), b_Pv_5, b_Dpv_6, b_Slv_7, (show NJ gv_3 gdv_4 Pv_5 Dpv_6 Slv_7 Tv_8 from hN_9), (show ST T g Tv_8 gv_3 (eil (LT T X) (LT T Y)) from hst_9), (show (op1 v_10) < 2 * (113 + gv_3) from (op1_lt hrl_9)), (show LT Tv_8 (op1 v_10) = ei (LT T X) (LT T Y) from (by rw [LT_op, hc_9]; rfl)), (show AL K Tv_8 gv_3 from hAL_9)⟩, by rw [ht]; exact hP, va_K.moved hW.alike hK, hD⟩, hS.F ht⟩) hS.2.2 d_Net_either_15
set_option maxHeartbeats 4000000 in
set_option maxRecDepth 100000 in
theorem c_Net_pick (l : Launch) (dC : Nat → ClassId) (dI : Nat → Nat → Nat) (cI cZ : ClassId) (a_net a_pairs a_depths a_values a_slots : Nat) (tt sz : Nat) (g : Nat) (gd : Nat) (st : Nat) (P : Nat → Nat) (Dp : Nat → Nat) (Sl : Nat → Nat) (T : Nat → Nat) (K : List Nat) (Cc : Nat) (X : Nat) (Y : Nat) (b_g : g ≤ 1280) (b_gd : gd < 1400) (b_st : st ≤ 1) (b_P : ∀ j, P j < 16777216) (b_Dp : ∀ j, Dp j < 1400) (b_Sl : ∀ j, Sl j < 1393) (hN : NJ g gd P Dp Sl T) (hAL : AL K T g) (hC : ¬ X = Y → Cc < 2 * (113 + g)) (hCb : Cc < 2147483648) (hX : X < 2 * (113 + g)) (hY : Y < 2 * (113 + g)) (hin : ∀ c, c ∈ pkl (LT T Cc) (LT T X) (LT T Y) → c ∈ K) : Met l y_Net_pick w_Net_pick ({ frames := 2, cells := 0, slots := 0, locals := 49 }) (va_Pc [.ref a_net, .int (nI Cc), .int (nI X), .int (nI Y)] (PW (dC, dI) classes [(cI, .int), (cZ, .boolean)] tt [(a_net, .inr (0, [.int (nI g), .int (nI gd), .ref a_pairs, .ref a_depths, .ref a_values, .ref a_slots, .int (nI st)])), (a_pairs, .inl (cI, 1393, .inl (nF P))), (a_depths, .inl (cI, 1393, .inl (nF Dp))), (a_slots, .inl (cI, 2048, .inl (nF Sl)))] sz)) (va_Qi (fun (r : Int32) (u : Nat × Nat × (Nat → Nat) × (Nat → Nat) × (Nat → Nat) × (Nat → Nat)) => ∃ rv : Nat, r = nI rv ∧ (u.1 ≤ 1280) ∧ (u.2.1 < 1400) ∧ (∀ j, u.2.2.1 j < 16777216) ∧ (∀ j, u.2.2.2.1 j < 1400) ∧ (∀ j, u.2.2.2.2.1 j < 1393) ∧ (NJ u.1 u.2.1 u.2.2.1 u.2.2.2.1 u.2.2.2.2.1 u.2.2.2.2.2) ∧ (ST T g u.2.2.2.2.2 u.1 (pkl (LT T Cc) (LT T X) (LT T Y))) ∧ (rv < 2 * (113 + u.1)) ∧ (LT u.2.2.2.2.2 rv = pk (LT T Cc) (LT T X) (LT T Y)) ∧ (AL K u.2.2.2.2.2 u.1)) (AT (dC, dI) classes [(cI, .int), (cZ, .boolean)] (va_A [(a_net, .inr (0, [.int (nI g), .int (nI gd), .ref a_pairs, .ref a_depths, .ref a_values, .ref a_slots, .int (nI st)])), (a_pairs, .inl (cI, 1393, .inl (nF P))), (a_depths, .inl (cI, 1393, .inl (nF Dp))), (a_slots, .inl (cI, 2048, .inl (nF Sl)))] sz) (fun (u : Nat × Nat × (Nat → Nat) × (Nat → Nat) × (Nat → Nat) × (Nat → Nat)) => [(a_net, .inr (0, [.int (nI u.1), .int (nI u.2.1), .ref a_pairs, .ref a_depths, .ref a_values, .ref a_slots, .int (nI st)])), (a_pairs, .inl (cI, 1393, .inl (nF u.2.2.1))), (a_depths, .inl (cI, 1393, .inl (nF u.2.2.2.1))), (a_slots, .inl (cI, 2048, .inl (nF u.2.2.2.2.1)))])) (va_A [(a_net, .inr (0, [.int (nI g), .int (nI gd), .ref a_pairs, .ref a_depths, .ref a_values, .ref a_slots, .int (nI st)])), (a_pairs, .inl (cI, 1393, .inl (nF P))), (a_depths, .inl (cI, 1393, .inl (nF Dp))), (a_slots, .inl (cI, 2048, .inl (nF Sl)))] sz)) 0 0 (va_A [(a_net, .inr (0, [.int (nI g), .int (nI gd), .ref a_pairs, .ref a_depths, .ref a_values, .ref a_slots, .int (nI st)])), (a_pairs, .inl (cI, 1393, .inl (nF P))), (a_depths, .inl (cI, 1393, .inl (nF Dp))), (a_slots, .inl (cI, 2048, .inl (nF Sl)))] sz) := by
  refine Met.ofW (cc := b_Net_pick) (maxL := 6) (ret := (some .int)) (by decide) rfl ?_
  intro p e s m args below meth c s₁ B hml hv
  obtain ⟨rfl, hsz, hP, hK, hD0, hE⟩ := hv
  have hx := B.exec
  have hb := B.bytes
  have hr := B.returns
  have hts := atoms_spec (ws := w_Net_pick) B.pre
  have hown : s.vm.findClass R_Net = some m.cls := findClass_of_methodNamed B.named
  have hlocks := B.notSynchronized
  subst hsz
  have hD := hD0.self (sz := s.heap.size)
  generalize hAe : va_A [(a_net, .inr (0, [.int (nI g), .int (nI gd), .ref a_pairs, .ref a_depths, .ref a_values, .ref a_slots, .int (nI st)])), (a_pairs, .inl (cI, 1393, .inl (nF P))), (a_depths, .inl (cI, 1393, .inl (nF Dp))), (a_slots, .inl (cI, 2048, .inl (nF Sl)))] s.heap.size = A at hD hE ⊢
  have hA : ∀ q : Nat, s.heap.size ≤ q → A q := fun q h => by rw [← hAe]; exact Or.inr h
  have hS : va_S A s.heap s.heap [] := va_S.rf
  have hP : va_P (dC, dI) classes [(a_net, .inr (0, [.int (nI g), .int (nI gd), .ref a_pairs, .ref a_depths, .ref a_values, .ref a_slots, .int (nI st)])), (a_pairs, .inl (cI, 1393, .inl (nF P))), (a_depths, .inl (cI, 1393, .inl (nF Dp))), (a_slots, .inl (cI, 2048, .inl (nF Sl)))] s.heap := hP
  have hl := lv_entry ([.ref a_net, .int (nI Cc), .int (nI X), .int (nI Y)]) (n := 6) (Nat.le_of_ble_eq_true rfl)
  rw [lg_entry_eq]
  generalize (lg_sl ([.ref a_net, .int (nI Cc), .int (nI X), .int (nI Y)]) ++ List.replicate (6 - (lg_sl ([.ref a_net, .int (nI Cc), .int (nI X), .int (nI Y)])).length) Slot.unset).toArray = ls at hl ⊢
  have hl : lv_has ls 6 [(0, .ref a_net), (1, .int (nI Cc)), (2, .int (nI X)), (3, .int (nI Y))] := hl
  refine lv_iload_n hx hb d_Net_pick_0 rfl (lv_at hl 2 rfl) ?_
  refine lv_iload_n hx hb d_Net_pick_1 rfl (lv_at hl 3 rfl) ?_
  refine lv_icmp_ne (tgt := 7) hx hb d_Net_pick_2 (by decide) (fun c2 => ?_) (fun c2 => ?_)
  · skip
    have c2 : ¬ (X = Y) := fun h => c2 ((nI_eq (by omega) (by omega)).mpr h)
    have hne : ¬ LT T X = LT T Y := fun e => c2 ((LT_ee hN.1 hX hY).mp e)
    have hC2 := hC c2
    have hin2 : ∀ c, c ∈ jl (LT T Cc) (LT T X) ++ (jl (op1 (LT T Cc)) (LT T Y) ++ eil (jn (LT T Cc) (LT T X)) (jn (op1 (LT T Cc)) (LT T Y))) → c ∈ K := fun c h => hin c (by unfold pkl; rw [if_neg hne]; exact h)
    refine lv_aload_n hx hb d_Net_pick_7 rfl (lv_at hl 0 rfl) ?_
    refine lv_iload_n hx hb d_Net_pick_8 rfl (lv_at hl 1 rfl) ?_
    refine lv_iload_n hx hb d_Net_pick_9 rfl (lv_at hl 2 rfl) ?_
    refine k_i (wr := []) (w2 := fun (u : Nat × Nat × (Nat → Nat) × (Nat → Nat) × (Nat → Nat) × (Nat → Nat)) => [(a_net, .inr (0, [.int (nI u.1), .int (nI u.2.1), .ref a_pairs, .ref a_depths, .ref a_values, .ref a_slots, .int (nI st)])), (a_pairs, .inl (cI, 1393, .inl (nF u.2.2.1))), (a_depths, .inl (cI, 1393, .inl (nF u.2.2.2.1))), (a_slots, .inl (cI, 2048, .inl (nF u.2.2.2.2.1)))]) (va_runV (As := [.int (nI Cc), .int (nI X)]) (rest := []) ⟨hx, hb, hml, hown, hts⟩ (c_Net_join l dC dI cI cZ a_net a_pairs a_depths a_values a_slots tt s.heap.size g gd st P Dp Sl T K Cc X (by omega) (by omega) (by omega) b_P b_Dp b_Sl hN hAL (by omega) (by omega) (fun c h => hin2 c (List.mem_append_left _ h))) (cwV 2 hts (gd_V in_tl (mw 414 rfl rfl) (mw 415 rfl rfl) (mw 416 rfl rfl) (mw 45 rfl rfl) (mw 417 rfl rfl)) rfl rfl rfl (by decide +kernel) ⟨Nat.le_of_ble_eq_true rfl, Nat.le_of_ble_eq_true rfl⟩) (k_preV hK hP hD hS hA hE [0, 1, 2, 3] (by decide) rfl 0 0 rfl rfl) rfl rfl hl.1 rfl (lv_room (Nat.le_of_ble_eq_true rfl)) d_Net_pick_10 ⟨Nat.zero_le _, Nat.zero_le _⟩) hP hD hS hA [0, 1, 2, 3] [] [0, 1, 2, 3] rfl rfl (by decide) (by decide) (by decide) (fun _ => rfl) (fun r_7 u H locs hw hP hD hS => ?_)
    obtain ⟨gv_1, gdv_2, Pv_3, Dpv_4, Slv_5, Tv_6⟩ := u
    obtain ⟨v_8, rfl, b_gv_1, b_gdv_2, b_Pv_3, b_Dpv_4, b_Slv_5, hN_10, hst_10, hrl_10, hc_10, hAL_10⟩ : ∃ rv : Nat, r_7 = nI rv ∧ (gv_1 ≤ 1280) ∧ (gdv_2 < 1400) ∧ (∀ j, Pv_3 j < 16777216) ∧ (∀ j, Dpv_4 j < 1400) ∧ (∀ j, Slv_5 j < 1393) ∧ (NJ gv_1 gdv_2 Pv_3 Dpv_4 Slv_5 Tv_6) ∧ (ST T g Tv_6 gv_1 (jl (LT T Cc) (LT T X))) ∧ (rv < 2 * (113 + gv_1)) ∧ (LT Tv_6 rv = jn (LT T Cc) (LT T X)) ∧ (AL K Tv_6 gv_1) := hw
    have hP : va_P (dC, dI) classes [(a_net, .inr (0, [.int (nI gv_1), .int (nI gdv_2), .ref a_pairs, .ref a_depths, .ref a_values, .ref a_slots, .int (nI st)])), (a_pairs, .inl (cI, 1393, .inl (nF Pv_3))), (a_depths, .inl (cI, 1393, .inl (nF Dpv_4))), (a_slots, .inl (cI, 2048, .inl (nF Slv_5)))] H := hP
    have hD : va_D A [(a_net, .inr (0, [.int (nI gv_1), .int (nI gdv_2), .ref a_pairs, .ref a_depths, .ref a_values, .ref a_slots, .int (nI st)])), (a_pairs, .inl (cI, 1393, .inl (nF Pv_3))), (a_depths, .inl (cI, 1393, .inl (nF Dpv_4))), (a_slots, .inl (cI, 2048, .inl (nF Slv_5)))] := hD
    have a1 := ST_lit hst_10 hC2
    have a2 := ST_lit hst_10 hY
    have g1 := hst_10.1
    refine lv_istore (lv' := [(4, .int (nI v_8)), (0, .ref a_net), (1, .int (nI Cc)), (2, .int (nI X)), (3, .int (nI Y))]) hx hb d_Net_pick_13 hl (by decide) rfl (fun ls hl => ?_)
    refine lv_aload_n hx hb d_Net_pick_15 rfl (lv_at hl 1 rfl) ?_
    refine lv_iload_n hx hb d_Net_pick_16 rfl (lv_at hl 2 rfl) ?_
    refine k_i (wr := [(a_net, .inr (0, [.int (nI gv_1), .int (nI gdv_2), .ref a_pairs, .ref a_depths, .ref a_values, .ref a_slots, .int (nI st)])), (a_pairs, .inl (cI, 1393, .inl (nF Pv_3))), (a_depths, .inl (cI, 1393, .inl (nF Dpv_4))), (a_slots, .inl (cI, 2048, .inl (nF Slv_5)))]) (w2 := fun (u : Unit) => [(a_net, .inr (0, [.int (nI gv_1), .int (nI gdv_2), .ref a_pairs, .ref a_depths, .ref a_values, .ref a_slots, .int (nI st)])), (a_pairs, .inl (cI, 1393, .inl (nF Pv_3))), (a_depths, .inl (cI, 1393, .inl (nF Dpv_4))), (a_slots, .inl (cI, 2048, .inl (nF Slv_5)))]) (va_runS (As := [.int (nI Cc)]) (rest := [.ref a_net]) ⟨hx, hb, hml, hown, hts⟩ (c_Net_opposite l dC dI cI cZ  tt H.size  Cc ) (va_cwS 1 hts (gd_S in_tl (mw 418 rfl rfl) (mw 419 rfl rfl) (mw 45 rfl rfl) (mw 420 rfl rfl)) rfl rfl rfl (by decide +kernel) ⟨Nat.le_of_ble_eq_true rfl, Nat.le_of_ble_eq_true rfl⟩) (k_preS hK hP hD hS hA hE [] (by decide) rfl) rfl rfl hl.1 rfl (lv_room (Nat.le_of_ble_eq_true rfl)) d_Net_pick_17 ⟨Nat.zero_le _, Nat.zero_le _⟩) hP hD hS hA [] [0, 1, 2, 3] [0, 1, 2, 3] rfl rfl (by decide) (by decide) (by decide) (fun _ => rfl) (fun r_9 u H locs hw hP hD hS => ?_)
    obtain rfl : (r_9 = nI (op1 Cc)) := hw
    have hP : va_P (dC, dI) classes [(a_net, .inr (0, [.int (nI gv_1), .int (nI gdv_2), .ref a_pairs, .ref a_depths, .ref a_values, .ref a_slots, .int (nI st)])), (a_pairs, .inl (cI, 1393, .inl (nF Pv_3))), (a_depths, .inl (cI, 1393, .inl (nF Dpv_4))), (a_slots, .inl (cI, 2048, .inl (nF Slv_5)))] H := hP
    have hD : va_D A [(a_net, .inr (0, [.int (nI gv_1), .int (nI gdv_2), .ref a_pairs, .ref a_depths, .ref a_values, .ref a_slots, .int (nI st)])), (a_pairs, .inl (cI, 1393, .inl (nF Pv_3))), (a_depths, .inl (cI, 1393, .inl (nF Dpv_4))), (a_slots, .inl (cI, 2048, .inl (nF Slv_5)))] := hD
    refine lv_iload_n hx hb d_Net_pick_20 rfl (lv_at hl 4 rfl) ?_
    refine k_i (wr := []) (w2 := fun (u : Nat × Nat × (Nat → Nat) × (Nat → Nat) × (Nat → Nat) × (Nat → Nat)) => [(a_net, .inr (0, [.int (nI u.1), .int (nI u.2.1), .ref a_pairs, .ref a_depths, .ref a_values, .ref a_slots, .int (nI st)])), (a_pairs, .inl (cI, 1393, .inl (nF u.2.2.1))), (a_depths, .inl (cI, 1393, .inl (nF u.2.2.2.1))), (a_slots, .inl (cI, 2048, .inl (nF u.2.2.2.2.1)))]) (va_runV (As := [.int (nI (op1 Cc)), .int (nI Y)]) (rest := []) ⟨hx, hb, hml, hown, hts⟩ (c_Net_join l dC dI cI cZ a_net a_pairs a_depths a_values a_slots tt H.size gv_1 gdv_2 st Pv_3 Dpv_4 Slv_5 Tv_6 K (op1 Cc) Y (by omega) (by omega) (by omega) b_Pv_3 b_Dpv_4 b_Slv_5 hN_10 hAL_10 (op1_lt (by omega)) (by omega) (by rw [LT_op, a1, a2]; exact fun c h => hin2 c (List.mem_append_right _ (List.mem_append_left _ h)))) (cwV 2 hts (gd_V in_tl (mw 414 rfl rfl) (mw 415 rfl rfl) (mw 416 rfl rfl) (mw 45 rfl rfl) (mw 417 rfl rfl)) rfl rfl rfl (by decide +kernel) ⟨Nat.le_of_ble_eq_true rfl, Nat.le_of_ble_eq_true rfl⟩) (k_preV hK hP hD hS hA hE [0, 1, 2, 3] (by decide) rfl 0 0 rfl rfl) rfl rfl hl.1 rfl (lv_room (Nat.le_of_ble_eq_true rfl)) d_Net_pick_21 ⟨Nat.zero_le _, Nat.zero_le _⟩) hP hD hS hA [0, 1, 2, 3] [] [0, 1, 2, 3] rfl rfl (by decide) (by decide) (by decide) (fun _ => rfl) (fun r_16 u H locs hw hP hD hS => ?_)
    obtain ⟨gv_10, gdv_11, Pv_12, Dpv_13, Slv_14, Tv_15⟩ := u
    obtain ⟨v_17, rfl, b_gv_10, b_gdv_11, b_Pv_12, b_Dpv_13, b_Slv_14, hN_21, hst_21, hrl_21, hc_21, hAL_21⟩ : ∃ rv : Nat, r_16 = nI rv ∧ (gv_10 ≤ 1280) ∧ (gdv_11 < 1400) ∧ (∀ j, Pv_12 j < 16777216) ∧ (∀ j, Dpv_13 j < 1400) ∧ (∀ j, Slv_14 j < 1393) ∧ (NJ gv_10 gdv_11 Pv_12 Dpv_13 Slv_14 Tv_15) ∧ (ST Tv_6 gv_1 Tv_15 gv_10 (jl (LT Tv_6 (op1 Cc)) (LT Tv_6 Y))) ∧ (rv < 2 * (113 + gv_10)) ∧ (LT Tv_15 rv = jn (LT Tv_6 (op1 Cc)) (LT Tv_6 Y)) ∧ (AL K Tv_15 gv_10) := hw
    have hP : va_P (dC, dI) classes [(a_net, .inr (0, [.int (nI gv_10), .int (nI gdv_11), .ref a_pairs, .ref a_depths, .ref a_values, .ref a_slots, .int (nI st)])), (a_pairs, .inl (cI, 1393, .inl (nF Pv_12))), (a_depths, .inl (cI, 1393, .inl (nF Dpv_13))), (a_slots, .inl (cI, 2048, .inl (nF Slv_14)))] H := hP
    have hD : va_D A [(a_net, .inr (0, [.int (nI gv_10), .int (nI gdv_11), .ref a_pairs, .ref a_depths, .ref a_values, .ref a_slots, .int (nI st)])), (a_pairs, .inl (cI, 1393, .inl (nF Pv_12))), (a_depths, .inl (cI, 1393, .inl (nF Dpv_13))), (a_slots, .inl (cI, 2048, .inl (nF Slv_14)))] := hD
    rw [LT_op, a1, a2] at hst_21 hc_21
    have a3 := ST_lit hst_21 hrl_10
    rw [hc_10] at a3
    have g2 := hst_21.1
    refine lv_istore (lv' := [(5, .int (nI v_17)), (4, .int (nI v_8)), (0, .ref a_net), (1, .int (nI Cc)), (2, .int (nI X)), (3, .int (nI Y))]) hx hb d_Net_pick_24 hl (by decide) rfl (fun ls hl => ?_)
    refine lv_aload_n hx hb d_Net_pick_26 rfl (lv_at hl 2 rfl) ?_
    refine lv_iload hx hb d_Net_pick_27 (lv_at hl 1 rfl) ?_
    refine k_i (wr := [(a_net, .inr (0, [.int (nI gv_10), .int (nI gdv_11), .ref a_pairs, .ref a_depths, .ref a_values, .ref a_slots, .int (nI st)])), (a_pairs, .inl (cI, 1393, .inl (nF Pv_12))), (a_depths, .inl (cI, 1393, .inl (nF Dpv_13))), (a_slots, .inl (cI, 2048, .inl (nF Slv_14)))]) (w2 := fun (u : Unit) => [(a_net, .inr (0, [.int (nI gv_10), .int (nI gdv_11), .ref a_pairs, .ref a_depths, .ref a_values, .ref a_slots, .int (nI st)])), (a_pairs, .inl (cI, 1393, .inl (nF Pv_12))), (a_depths, .inl (cI, 1393, .inl (nF Dpv_13))), (a_slots, .inl (cI, 2048, .inl (nF Slv_14)))]) (va_runS (As := [.int (nI v_8)]) (rest := [.ref a_net]) ⟨hx, hb, hml, hown, hts⟩ (c_Net_opposite l dC dI cI cZ  tt H.size  v_8 ) (va_cwS 1 hts (gd_S in_tl (mw 418 rfl rfl) (mw 419 rfl rfl) (mw 45 rfl rfl) (mw 420 rfl rfl)) rfl rfl rfl (by decide +kernel) ⟨Nat.le_of_ble_eq_true rfl, Nat.le_of_ble_eq_true rfl⟩) (k_preS hK hP hD hS hA hE [] (by decide) rfl) rfl rfl hl.1 rfl (lv_room (Nat.le_of_ble_eq_true rfl)) d_Net_pick_29 ⟨Nat.zero_le _, Nat.zero_le _⟩) hP hD hS hA [] [0, 1, 2, 3] [0, 1, 2, 3] rfl rfl (by decide) (by decide) (by decide) (fun _ => rfl) (fun r_18 u H locs hw hP hD hS => ?_)
    obtain rfl : (r_18 = nI (op1 v_8)) := hw
    have hP : va_P (dC, dI) classes [(a_net, .inr (0, [.int (nI gv_10), .int (nI gdv_11), .ref a_pairs, .ref a_depths, .ref a_values, .ref a_slots, .int (nI st)])), (a_pairs, .inl (cI, 1393, .inl (nF Pv_12))), (a_depths, .inl (cI, 1393, .inl (nF Dpv_13))), (a_slots, .inl (cI, 2048, .inl (nF Slv_14)))] H := hP
    have hD : va_D A [(a_net, .inr (0, [.int (nI gv_10), .int (nI gdv_11), .ref a_pairs, .ref a_depths, .ref a_values, .ref a_slots, .int (nI st)])), (a_pairs, .inl (cI, 1393, .inl (nF Pv_12))), (a_depths, .inl (cI, 1393, .inl (nF Dpv_13))), (a_slots, .inl (cI, 2048, .inl (nF Slv_14)))] := hD
    refine lv_iload hx hb d_Net_pick_32 (lv_at hl 0 rfl) ?_
    refine k_i (wr := [(a_net, .inr (0, [.int (nI gv_10), .int (nI gdv_11), .ref a_pairs, .ref a_depths, .ref a_values, .ref a_slots, .int (nI st)])), (a_pairs, .inl (cI, 1393, .inl (nF Pv_12))), (a_depths, .inl (cI, 1393, .inl (nF Dpv_13))), (a_slots, .inl (cI, 2048, .inl (nF Slv_14)))]) (w2 := fun (u : Unit) => [(a_net, .inr (0, [.int (nI gv_10), .int (nI gdv_11), .ref a_pairs, .ref a_depths, .ref a_values, .ref a_slots, .int (nI st)])), (a_pairs, .inl (cI, 1393, .inl (nF Pv_12))), (a_depths, .inl (cI, 1393, .inl (nF Dpv_13))), (a_slots, .inl (cI, 2048, .inl (nF Slv_14)))]) (va_runS (As := [.int (nI v_17)]) (rest := [.int (nI (op1 v_8)), .ref a_net]) ⟨hx, hb, hml, hown, hts⟩ (c_Net_opposite l dC dI cI cZ  tt H.size  v_17 ) (va_cwS 1 hts (gd_S in_tl (mw 418 rfl rfl) (mw 419 rfl rfl) (mw 45 rfl rfl) (mw 420 rfl rfl)) rfl rfl rfl (by decide +kernel) ⟨Nat.le_of_ble_eq_true rfl, Nat.le_of_ble_eq_true rfl⟩) (k_preS hK hP hD hS hA hE [] (by decide) rfl) rfl rfl hl.1 rfl (lv_room (Nat.le_of_ble_eq_true rfl)) d_Net_pick_34 ⟨Nat.zero_le _, Nat.zero_le _⟩) hP hD hS hA [] [0, 1, 2, 3] [0, 1, 2, 3] rfl rfl (by decide) (by decide) (by decide) (fun _ => rfl) (fun r_19 u H locs hw hP hD hS => ?_)
    obtain rfl : (r_19 = nI (op1 v_17)) := hw
    have hP : va_P (dC, dI) classes [(a_net, .inr (0, [.int (nI gv_10), .int (nI gdv_11), .ref a_pairs, .ref a_depths, .ref a_values, .ref a_slots, .int (nI st)])), (a_pairs, .inl (cI, 1393, .inl (nF Pv_12))), (a_depths, .inl (cI, 1393, .inl (nF Dpv_13))), (a_slots, .inl (cI, 2048, .inl (nF Slv_14)))] H := hP
    have hD : va_D A [(a_net, .inr (0, [.int (nI gv_10), .int (nI gdv_11), .ref a_pairs, .ref a_depths, .ref a_values, .ref a_slots, .int (nI st)])), (a_pairs, .inl (cI, 1393, .inl (nF Pv_12))), (a_depths, .inl (cI, 1393, .inl (nF Dpv_13))), (a_slots, .inl (cI, 2048, .inl (nF Slv_14)))] := hD
    refine k_i (wr := []) (w2 := fun (u : Nat × Nat × (Nat → Nat) × (Nat → Nat) × (Nat → Nat) × (Nat → Nat)) => [(a_net, .inr (0, [.int (nI u.1), .int (nI u.2.1), .ref a_pairs, .ref a_depths, .ref a_values, .ref a_slots, .int (nI st)])), (a_pairs, .inl (cI, 1393, .inl (nF u.2.2.1))), (a_depths, .inl (cI, 1393, .inl (nF u.2.2.2.1))), (a_slots, .inl (cI, 2048, .inl (nF u.2.2.2.2.1)))]) (va_runV (As := [.int (nI (op1 v_8)), .int (nI (op1 v_17))]) (rest := []) ⟨hx, hb, hml, hown, hts⟩ (c_Net_join l dC dI cI cZ a_net a_pairs a_depths a_values a_slots tt H.size gv_10 gdv_11 st Pv_12 Dpv_13 Slv_14 Tv_15 K (op1 v_8) (op1 v_17) (by omega) (by omega) (by omega) b_Pv_12 b_Dpv_13 b_Slv_14 hN_21 hAL_21 (op1_lt (by omega)) (op1_lt hrl_21) (by rw [LT_op, LT_op, a3, hc_21]; exact fun c h => hin2 c (List.mem_append_right _ (List.mem_append_right _ h)))) (cwV 2 hts (gd_V in_tl (mw 414 rfl rfl) (mw 415 rfl rfl) (mw 416 rfl rfl) (mw 45 rfl rfl) (mw 417 rfl rfl)) rfl rfl rfl (by decide +kernel) ⟨Nat.le_of_ble_eq_true rfl, Nat.le_of_ble_eq_true rfl⟩) (k_preV hK hP hD hS hA hE [0, 1, 2, 3] (by decide) rfl 0 0 rfl rfl) rfl rfl hl.1 rfl (lv_room (Nat.le_of_ble_eq_true rfl)) d_Net_pick_37 ⟨Nat.zero_le _, Nat.zero_le _⟩) hP hD hS hA [0, 1, 2, 3] [] [0, 1, 2, 3] rfl rfl (by decide) (by decide) (by decide) (fun _ => rfl) (fun r_26 u H locs hw hP hD hS => ?_)
    obtain ⟨gv_20, gdv_21, Pv_22, Dpv_23, Slv_24, Tv_25⟩ := u
    obtain ⟨v_27, rfl, b_gv_20, b_gdv_21, b_Pv_22, b_Dpv_23, b_Slv_24, hN_37, hst_37, hrl_37, hc_37, hAL_37⟩ : ∃ rv : Nat, r_26 = nI rv ∧ (gv_20 ≤ 1280) ∧ (gdv_21 < 1400) ∧ (∀ j, Pv_22 j < 16777216) ∧ (∀ j, Dpv_23 j < 1400) ∧ (∀ j, Slv_24 j < 1393) ∧ (NJ gv_20 gdv_21 Pv_22 Dpv_23 Slv_24 Tv_25) ∧ (ST Tv_15 gv_10 Tv_25 gv_20 (jl (LT Tv_15 (op1 v_8)) (LT Tv_15 (op1 v_17)))) ∧ (rv < 2 * (113 + gv_20)) ∧ (LT Tv_25 rv = jn (LT Tv_15 (op1 v_8)) (LT Tv_15 (op1 v_17))) ∧ (AL K Tv_25 gv_20) := hw
    have hP : va_P (dC, dI) classes [(a_net, .inr (0, [.int (nI gv_20), .int (nI gdv_21), .ref a_pairs, .ref a_depths, .ref a_values, .ref a_slots, .int (nI st)])), (a_pairs, .inl (cI, 1393, .inl (nF Pv_22))), (a_depths, .inl (cI, 1393, .inl (nF Dpv_23))), (a_slots, .inl (cI, 2048, .inl (nF Slv_24)))] H := hP
    have hD : va_D A [(a_net, .inr (0, [.int (nI gv_20), .int (nI gdv_21), .ref a_pairs, .ref a_depths, .ref a_values, .ref a_slots, .int (nI st)])), (a_pairs, .inl (cI, 1393, .inl (nF Pv_22))), (a_depths, .inl (cI, 1393, .inl (nF Dpv_23))), (a_slots, .inl (cI, 2048, .inl (nF Slv_24)))] := hD
    rw [LT_op, LT_op, a3, hc_21] at hst_37 hc_37
    refine k_i (wr := [(a_net, .inr (0, [.int (nI gv_20), .int (nI gdv_21), .ref a_pairs, .ref a_depths, .ref a_values, .ref a_slots, .int (nI st)])), (a_pairs, .inl (cI, 1393, .inl (nF Pv_22))), (a_depths, .inl (cI, 1393, .inl (nF Dpv_23))), (a_slots, .inl (cI, 2048, .inl (nF Slv_24)))]) (w2 := fun (u : Unit) => [(a_net, .inr (0, [.int (nI gv_20), .int (nI gdv_21), .ref a_pairs, .ref a_depths, .ref a_values, .ref a_slots, .int (nI st)])), (a_pairs, .inl (cI, 1393, .inl (nF Pv_22))), (a_depths, .inl (cI, 1393, .inl (nF Dpv_23))), (a_slots, .inl (cI, 2048, .inl (nF Slv_24)))]) (va_runS (As := [.int (nI v_27)]) (rest := []) ⟨hx, hb, hml, hown, hts⟩ (c_Net_opposite l dC dI cI cZ  tt H.size  v_27 ) (va_cwS 1 hts (gd_S in_tl (mw 418 rfl rfl) (mw 419 rfl rfl) (mw 45 rfl rfl) (mw 420 rfl rfl)) rfl rfl rfl (by decide +kernel) ⟨Nat.le_of_ble_eq_true rfl, Nat.le_of_ble_eq_true rfl⟩) (k_preS hK hP hD hS hA hE [] (by decide) rfl) rfl rfl hl.1 rfl (lv_room (Nat.le_of_ble_eq_true rfl)) d_Net_pick_40 ⟨Nat.zero_le _, Nat.zero_le _⟩) hP hD hS hA [] [0, 1, 2, 3] [0, 1, 2, 3] rfl rfl (by decide) (by decide) (by decide) (fun _ => rfl) (fun r_28 u H locs hw hP hD hS => ?_)
    obtain rfl : (r_28 = nI (op1 v_27)) := hw
    have hP : va_P (dC, dI) classes [(a_net, .inr (0, [.int (nI gv_20), .int (nI gdv_21), .ref a_pairs, .ref a_depths, .ref a_values, .ref a_slots, .int (nI st)])), (a_pairs, .inl (cI, 1393, .inl (nF Pv_22))), (a_depths, .inl (cI, 1393, .inl (nF Dpv_23))), (a_slots, .inl (cI, 2048, .inl (nF Slv_24)))] H := hP
    have hD : va_D A [(a_net, .inr (0, [.int (nI gv_20), .int (nI gdv_21), .ref a_pairs, .ref a_depths, .ref a_values, .ref a_slots, .int (nI st)])), (a_pairs, .inl (cI, 1393, .inl (nF Pv_22))), (a_depths, .inl (cI, 1393, .inl (nF Dpv_23))), (a_slots, .inl (cI, 2048, .inl (nF Slv_24)))] := hD
    exact W.iret (v := nI (op1 v_27)) hx hb hr (fun t ht hW => ⟨⟨nI (op1 v_27), (gv_20, gdv_21, Pv_22, Dpv_23, Slv_24, Tv_25), rfl, ⟨op1 v_27, rfl, (show gv_20 ≤ 1280 from by omega), (show gdv_21 < 1400 from by omega), b_Pv_22, b_Dpv_23, b_Slv_24, (show NJ gv_20 gdv_21 Pv_22 Dpv_23 Slv_24 Tv_25 from hN_37), (show ST T g Tv_25 gv_20 (pkl (LT T Cc) (LT T X) (LT T Y)) from (by unfold pkl; rw [if_neg hne]; exact ST_tr hst_10 (ST_tr hst_21 hst_37))), (show (op1 v_27) < 2 * (113 + gv_20) from (op1_lt hrl_37)), (show LT Tv_25 (op1 v_27) = pk (LT T Cc) (LT T X) (LT T Y) from (by rw [LT_op, hc_37]; unfold pk ei; rw [if_neg hne])), (show AL K Tv_25 gv_20 from hAL_37)⟩, by rw [ht]; exact hP, va_K.moved hW.alike hK, hD⟩, hS.F ht⟩) hS.2.2 d_Net_pick_43
  · skip
    have c2 : X = Y := (nI_eq (by omega) (by omega)).mp c2
    refine lv_iload_n hx hb d_Net_pick_5 rfl (lv_at hl 2 rfl) ?_
    exact W.iret (v := nI X) hx hb hr (fun t ht hW => ⟨⟨nI X, (g, gd, P, Dp, Sl, T), rfl, ⟨X, rfl, (show g ≤ 1280 from by omega), (show gd < 1400 from by omega), b_P, b_Dp, b_Sl, (show NJ g gd P Dp Sl T from hN), (show ST T g T g (pkl (LT T Cc) (LT T X) (LT T Y)) from (ST_rf (by unfold pkl; rw [if_pos (by rw [c2])]))), (show X < 2 * (113 + g) from hX), (show LT T X = pk (LT T Cc) (LT T X) (LT T Y) from (by unfold pk; rw [if_pos (by rw [c2])])), (show AL K T g from hAL)⟩, by rw [ht]; exact hP, va_K.moved hW.alike hK, hD⟩, hS.F ht⟩) hS.2.2 d_Net_pick_6
set_option maxHeartbeats 4000000 in
set_option maxRecDepth 100000 in
theorem c_Net_diff (l : Launch) (dC : Nat → ClassId) (dI : Nat → Nat → Nat) (cI cZ : ClassId) (a_net a_pairs a_depths a_values a_slots : Nat) (tt sz : Nat) (g : Nat) (gd : Nat) (st : Nat) (P : Nat → Nat) (Dp : Nat → Nat) (Sl : Nat → Nat) (T : Nat → Nat) (K : List Nat) (X : Nat) (Y : Nat) (b_g : g ≤ 1280) (b_gd : gd < 1400) (b_st : st ≤ 1) (b_P : ∀ j, P j < 16777216) (b_Dp : ∀ j, Dp j < 1400) (b_Sl : ∀ j, Sl j < 1393) (hN : NJ g gd P Dp Sl T) (hAL : AL K T g) (hX : X < 2 * (113 + g)) (hY : Y < 2 * (113 + g)) (hin : ∀ c, c ∈ dfl (LT T X) (LT T Y) → c ∈ K) : Met l y_Net_diff w_Net_diff ({ frames := 2, cells := 0, slots := 0, locals := 49 }) (va_Pc [.ref a_net, .int (nI X), .int (nI Y)] (PW (dC, dI) classes [(cI, .int), (cZ, .boolean)] tt [(a_net, .inr (0, [.int (nI g), .int (nI gd), .ref a_pairs, .ref a_depths, .ref a_values, .ref a_slots, .int (nI st)])), (a_pairs, .inl (cI, 1393, .inl (nF P))), (a_depths, .inl (cI, 1393, .inl (nF Dp))), (a_slots, .inl (cI, 2048, .inl (nF Sl)))] sz)) (va_Qi (fun (r : Int32) (u : Nat × Nat × (Nat → Nat) × (Nat → Nat) × (Nat → Nat) × (Nat → Nat)) => ∃ rv : Nat, r = nI rv ∧ (u.1 ≤ 1280) ∧ (u.2.1 < 1400) ∧ (∀ j, u.2.2.1 j < 16777216) ∧ (∀ j, u.2.2.2.1 j < 1400) ∧ (∀ j, u.2.2.2.2.1 j < 1393) ∧ (NJ u.1 u.2.1 u.2.2.1 u.2.2.2.1 u.2.2.2.2.1 u.2.2.2.2.2) ∧ (ST T g u.2.2.2.2.2 u.1 (dfl (LT T X) (LT T Y))) ∧ (rv < 2 * (113 + u.1)) ∧ (LT u.2.2.2.2.2 rv = df (LT T X) (LT T Y)) ∧ (AL K u.2.2.2.2.2 u.1)) (AT (dC, dI) classes [(cI, .int), (cZ, .boolean)] (va_A [(a_net, .inr (0, [.int (nI g), .int (nI gd), .ref a_pairs, .ref a_depths, .ref a_values, .ref a_slots, .int (nI st)])), (a_pairs, .inl (cI, 1393, .inl (nF P))), (a_depths, .inl (cI, 1393, .inl (nF Dp))), (a_slots, .inl (cI, 2048, .inl (nF Sl)))] sz) (fun (u : Nat × Nat × (Nat → Nat) × (Nat → Nat) × (Nat → Nat) × (Nat → Nat)) => [(a_net, .inr (0, [.int (nI u.1), .int (nI u.2.1), .ref a_pairs, .ref a_depths, .ref a_values, .ref a_slots, .int (nI st)])), (a_pairs, .inl (cI, 1393, .inl (nF u.2.2.1))), (a_depths, .inl (cI, 1393, .inl (nF u.2.2.2.1))), (a_slots, .inl (cI, 2048, .inl (nF u.2.2.2.2.1)))])) (va_A [(a_net, .inr (0, [.int (nI g), .int (nI gd), .ref a_pairs, .ref a_depths, .ref a_values, .ref a_slots, .int (nI st)])), (a_pairs, .inl (cI, 1393, .inl (nF P))), (a_depths, .inl (cI, 1393, .inl (nF Dp))), (a_slots, .inl (cI, 2048, .inl (nF Sl)))] sz)) 0 0 (va_A [(a_net, .inr (0, [.int (nI g), .int (nI gd), .ref a_pairs, .ref a_depths, .ref a_values, .ref a_slots, .int (nI st)])), (a_pairs, .inl (cI, 1393, .inl (nF P))), (a_depths, .inl (cI, 1393, .inl (nF Dp))), (a_slots, .inl (cI, 2048, .inl (nF Sl)))] sz) := by
  refine Met.ofW (cc := b_Net_diff) (maxL := 3) (ret := (some .int)) (by decide) rfl ?_
  intro p e s m args below meth c s₁ B hml hv
  obtain ⟨rfl, hsz, hP, hK, hD0, hE⟩ := hv
  have hx := B.exec
  have hb := B.bytes
  have hr := B.returns
  have hts := atoms_spec (ws := w_Net_diff) B.pre
  have hown : s.vm.findClass R_Net = some m.cls := findClass_of_methodNamed B.named
  have hlocks := B.notSynchronized
  subst hsz
  have hD := hD0.self (sz := s.heap.size)
  generalize hAe : va_A [(a_net, .inr (0, [.int (nI g), .int (nI gd), .ref a_pairs, .ref a_depths, .ref a_values, .ref a_slots, .int (nI st)])), (a_pairs, .inl (cI, 1393, .inl (nF P))), (a_depths, .inl (cI, 1393, .inl (nF Dp))), (a_slots, .inl (cI, 2048, .inl (nF Sl)))] s.heap.size = A at hD hE ⊢
  have hA : ∀ q : Nat, s.heap.size ≤ q → A q := fun q h => by rw [← hAe]; exact Or.inr h
  have hS : va_S A s.heap s.heap [] := va_S.rf
  have hP : va_P (dC, dI) classes [(a_net, .inr (0, [.int (nI g), .int (nI gd), .ref a_pairs, .ref a_depths, .ref a_values, .ref a_slots, .int (nI st)])), (a_pairs, .inl (cI, 1393, .inl (nF P))), (a_depths, .inl (cI, 1393, .inl (nF Dp))), (a_slots, .inl (cI, 2048, .inl (nF Sl)))] s.heap := hP
  have hl := lv_entry ([.ref a_net, .int (nI X), .int (nI Y)]) (n := 3) (Nat.le_of_ble_eq_true rfl)
  rw [lg_entry_eq]
  generalize (lg_sl ([.ref a_net, .int (nI X), .int (nI Y)]) ++ List.replicate (3 - (lg_sl ([.ref a_net, .int (nI X), .int (nI Y)])).length) Slot.unset).toArray = ls at hl ⊢
  have hl : lv_has ls 3 [(0, .ref a_net), (1, .int (nI X)), (2, .int (nI Y))] := hl
  refine lv_aload_n hx hb d_Net_diff_0 rfl (lv_at hl 0 rfl) ?_
  refine lv_aload_n hx hb d_Net_diff_1 rfl (lv_at hl 0 rfl) ?_
  refine lv_iload_n hx hb d_Net_diff_2 rfl (lv_at hl 1 rfl) ?_
  refine lv_iload_n hx hb d_Net_diff_3 rfl (lv_at hl 2 rfl) ?_
  refine k_i (wr := []) (w2 := fun (u : Nat × Nat × (Nat → Nat) × (Nat → Nat) × (Nat → Nat) × (Nat → Nat)) => [(a_net, .inr (0, [.int (nI u.1), .int (nI u.2.1), .ref a_pairs, .ref a_depths, .ref a_values, .ref a_slots, .int (nI st)])), (a_pairs, .inl (cI, 1393, .inl (nF u.2.2.1))), (a_depths, .inl (cI, 1393, .inl (nF u.2.2.2.1))), (a_slots, .inl (cI, 2048, .inl (nF u.2.2.2.2.1)))]) (va_runV (As := [.int (nI X), .int (nI Y)]) (rest := [.ref a_net]) ⟨hx, hb, hml, hown, hts⟩ (c_Net_join l dC dI cI cZ a_net a_pairs a_depths a_values a_slots tt s.heap.size g gd st P Dp Sl T K X Y (by omega) (by omega) (by omega) b_P b_Dp b_Sl hN hAL (by omega) (by omega) (fun c h => hin c (List.mem_append_left _ h))) (cwV 2 hts (gd_V in_tl (mw 414 rfl rfl) (mw 415 rfl rfl) (mw 416 rfl rfl) (mw 45 rfl rfl) (mw 417 rfl rfl)) rfl rfl rfl (by decide +kernel) ⟨Nat.le_of_ble_eq_true rfl, Nat.le_of_ble_eq_true rfl⟩) (k_preV hK hP hD hS hA hE [0, 1, 2, 3] (by decide) rfl 0 0 rfl rfl) rfl rfl hl.1 rfl (lv_room (Nat.le_of_ble_eq_true rfl)) d_Net_diff_4 ⟨Nat.zero_le _, Nat.zero_le _⟩) hP hD hS hA [0, 1, 2, 3] [] [0, 1, 2, 3] rfl rfl (by decide) (by decide) (by decide) (fun _ => rfl) (fun r_7 u H locs hw hP hD hS => ?_)
  obtain ⟨gv_1, gdv_2, Pv_3, Dpv_4, Slv_5, Tv_6⟩ := u
  obtain ⟨v_8, rfl, b_gv_1, b_gdv_2, b_Pv_3, b_Dpv_4, b_Slv_5, hN_4, hst_4, hrl_4, hc_4, hAL_4⟩ : ∃ rv : Nat, r_7 = nI rv ∧ (gv_1 ≤ 1280) ∧ (gdv_2 < 1400) ∧ (∀ j, Pv_3 j < 16777216) ∧ (∀ j, Dpv_4 j < 1400) ∧ (∀ j, Slv_5 j < 1393) ∧ (NJ gv_1 gdv_2 Pv_3 Dpv_4 Slv_5 Tv_6) ∧ (ST T g Tv_6 gv_1 (jl (LT T X) (LT T Y))) ∧ (rv < 2 * (113 + gv_1)) ∧ (LT Tv_6 rv = jn (LT T X) (LT T Y)) ∧ (AL K Tv_6 gv_1) := hw
  have hP : va_P (dC, dI) classes [(a_net, .inr (0, [.int (nI gv_1), .int (nI gdv_2), .ref a_pairs, .ref a_depths, .ref a_values, .ref a_slots, .int (nI st)])), (a_pairs, .inl (cI, 1393, .inl (nF Pv_3))), (a_depths, .inl (cI, 1393, .inl (nF Dpv_4))), (a_slots, .inl (cI, 2048, .inl (nF Slv_5)))] H := hP
  have hD : va_D A [(a_net, .inr (0, [.int (nI gv_1), .int (nI gdv_2), .ref a_pairs, .ref a_depths, .ref a_values, .ref a_slots, .int (nI st)])), (a_pairs, .inl (cI, 1393, .inl (nF Pv_3))), (a_depths, .inl (cI, 1393, .inl (nF Dpv_4))), (a_slots, .inl (cI, 2048, .inl (nF Slv_5)))] := hD
  have a1 := ST_lit hst_4 hX
  have a2 := ST_lit hst_4 hY
  have g1 := hst_4.1
  refine k_i (wr := [(a_net, .inr (0, [.int (nI gv_1), .int (nI gdv_2), .ref a_pairs, .ref a_depths, .ref a_values, .ref a_slots, .int (nI st)])), (a_pairs, .inl (cI, 1393, .inl (nF Pv_3))), (a_depths, .inl (cI, 1393, .inl (nF Dpv_4))), (a_slots, .inl (cI, 2048, .inl (nF Slv_5)))]) (w2 := fun (u : Unit) => [(a_net, .inr (0, [.int (nI gv_1), .int (nI gdv_2), .ref a_pairs, .ref a_depths, .ref a_values, .ref a_slots, .int (nI st)])), (a_pairs, .inl (cI, 1393, .inl (nF Pv_3))), (a_depths, .inl (cI, 1393, .inl (nF Dpv_4))), (a_slots, .inl (cI, 2048, .inl (nF Slv_5)))]) (va_runS (As := [.int (nI v_8)]) (rest := [.ref a_net]) ⟨hx, hb, hml, hown, hts⟩ (c_Net_opposite l dC dI cI cZ  tt H.size  v_8 ) (va_cwS 1 hts (gd_S in_tl (mw 418 rfl rfl) (mw 419 rfl rfl) (mw 45 rfl rfl) (mw 420 rfl rfl)) rfl rfl rfl (by decide +kernel) ⟨Nat.le_of_ble_eq_true rfl, Nat.le_of_ble_eq_true rfl⟩) (k_preS hK hP hD hS hA hE [] (by decide) rfl) rfl rfl hl.1 rfl (lv_room (Nat.le_of_ble_eq_true rfl)) d_Net_diff_7 ⟨Nat.zero_le _, Nat.zero_le _⟩) hP hD hS hA [] [0, 1, 2, 3] [0, 1, 2, 3] rfl rfl (by decide) (by decide) (by decide) (fun _ => rfl) (fun r_9 u H locs hw hP hD hS => ?_)
  obtain rfl : (r_9 = nI (op1 v_8)) := hw
  have hP : va_P (dC, dI) classes [(a_net, .inr (0, [.int (nI gv_1), .int (nI gdv_2), .ref a_pairs, .ref a_depths, .ref a_values, .ref a_slots, .int (nI st)])), (a_pairs, .inl (cI, 1393, .inl (nF Pv_3))), (a_depths, .inl (cI, 1393, .inl (nF Dpv_4))), (a_slots, .inl (cI, 2048, .inl (nF Slv_5)))] H := hP
  have hD : va_D A [(a_net, .inr (0, [.int (nI gv_1), .int (nI gdv_2), .ref a_pairs, .ref a_depths, .ref a_values, .ref a_slots, .int (nI st)])), (a_pairs, .inl (cI, 1393, .inl (nF Pv_3))), (a_depths, .inl (cI, 1393, .inl (nF Dpv_4))), (a_slots, .inl (cI, 2048, .inl (nF Slv_5)))] := hD
  refine lv_aload_n hx hb d_Net_diff_10 rfl (lv_at hl 0 rfl) ?_
  refine lv_iload_n hx hb d_Net_diff_11 rfl (lv_at hl 1 rfl) ?_
  refine k_i (wr := [(a_net, .inr (0, [.int (nI gv_1), .int (nI gdv_2), .ref a_pairs, .ref a_depths, .ref a_values, .ref a_slots, .int (nI st)])), (a_pairs, .inl (cI, 1393, .inl (nF Pv_3))), (a_depths, .inl (cI, 1393, .inl (nF Dpv_4))), (a_slots, .inl (cI, 2048, .inl (nF Slv_5)))]) (w2 := fun (u : Unit) => [(a_net, .inr (0, [.int (nI gv_1), .int (nI gdv_2), .ref a_pairs, .ref a_depths, .ref a_values, .ref a_slots, .int (nI st)])), (a_pairs, .inl (cI, 1393, .inl (nF Pv_3))), (a_depths, .inl (cI, 1393, .inl (nF Dpv_4))), (a_slots, .inl (cI, 2048, .inl (nF Slv_5)))]) (va_runS (As := [.int (nI X)]) (rest := [.ref a_net, .int (nI (op1 v_8)), .ref a_net]) ⟨hx, hb, hml, hown, hts⟩ (c_Net_opposite l dC dI cI cZ  tt H.size  X ) (va_cwS 1 hts (gd_S in_tl (mw 418 rfl rfl) (mw 419 rfl rfl) (mw 45 rfl rfl) (mw 420 rfl rfl)) rfl rfl rfl (by decide +kernel) ⟨Nat.le_of_ble_eq_true rfl, Nat.le_of_ble_eq_true rfl⟩) (k_preS hK hP hD hS hA hE [] (by decide) rfl) rfl rfl hl.1 rfl (lv_room (Nat.le_of_ble_eq_true rfl)) d_Net_diff_12 ⟨Nat.zero_le _, Nat.zero_le _⟩) hP hD hS hA [] [0, 1, 2, 3] [0, 1, 2, 3] rfl rfl (by decide) (by decide) (by decide) (fun _ => rfl) (fun r_10 u H locs hw hP hD hS => ?_)
  obtain rfl : (r_10 = nI (op1 X)) := hw
  have hP : va_P (dC, dI) classes [(a_net, .inr (0, [.int (nI gv_1), .int (nI gdv_2), .ref a_pairs, .ref a_depths, .ref a_values, .ref a_slots, .int (nI st)])), (a_pairs, .inl (cI, 1393, .inl (nF Pv_3))), (a_depths, .inl (cI, 1393, .inl (nF Dpv_4))), (a_slots, .inl (cI, 2048, .inl (nF Slv_5)))] H := hP
  have hD : va_D A [(a_net, .inr (0, [.int (nI gv_1), .int (nI gdv_2), .ref a_pairs, .ref a_depths, .ref a_values, .ref a_slots, .int (nI st)])), (a_pairs, .inl (cI, 1393, .inl (nF Pv_3))), (a_depths, .inl (cI, 1393, .inl (nF Dpv_4))), (a_slots, .inl (cI, 2048, .inl (nF Slv_5)))] := hD
  refine lv_iload_n hx hb d_Net_diff_15 rfl (lv_at hl 2 rfl) ?_
  refine k_i (wr := [(a_net, .inr (0, [.int (nI gv_1), .int (nI gdv_2), .ref a_pairs, .ref a_depths, .ref a_values, .ref a_slots, .int (nI st)])), (a_pairs, .inl (cI, 1393, .inl (nF Pv_3))), (a_depths, .inl (cI, 1393, .inl (nF Dpv_4))), (a_slots, .inl (cI, 2048, .inl (nF Slv_5)))]) (w2 := fun (u : Unit) => [(a_net, .inr (0, [.int (nI gv_1), .int (nI gdv_2), .ref a_pairs, .ref a_depths, .ref a_values, .ref a_slots, .int (nI st)])), (a_pairs, .inl (cI, 1393, .inl (nF Pv_3))), (a_depths, .inl (cI, 1393, .inl (nF Dpv_4))), (a_slots, .inl (cI, 2048, .inl (nF Slv_5)))]) (va_runS (As := [.int (nI Y)]) (rest := [.int (nI (op1 X)), .ref a_net, .int (nI (op1 v_8)), .ref a_net]) ⟨hx, hb, hml, hown, hts⟩ (c_Net_opposite l dC dI cI cZ  tt H.size  Y ) (va_cwS 1 hts (gd_S in_tl (mw 418 rfl rfl) (mw 419 rfl rfl) (mw 45 rfl rfl) (mw 420 rfl rfl)) rfl rfl rfl (by decide +kernel) ⟨Nat.le_of_ble_eq_true rfl, Nat.le_of_ble_eq_true rfl⟩) (k_preS hK hP hD hS hA hE [] (by decide) rfl) rfl rfl hl.1 rfl (lv_room (Nat.le_of_ble_eq_true rfl)) d_Net_diff_16 ⟨Nat.zero_le _, Nat.zero_le _⟩) hP hD hS hA [] [0, 1, 2, 3] [0, 1, 2, 3] rfl rfl (by decide) (by decide) (by decide) (fun _ => rfl) (fun r_11 u H locs hw hP hD hS => ?_)
  obtain rfl : (r_11 = nI (op1 Y)) := hw
  have hP : va_P (dC, dI) classes [(a_net, .inr (0, [.int (nI gv_1), .int (nI gdv_2), .ref a_pairs, .ref a_depths, .ref a_values, .ref a_slots, .int (nI st)])), (a_pairs, .inl (cI, 1393, .inl (nF Pv_3))), (a_depths, .inl (cI, 1393, .inl (nF Dpv_4))), (a_slots, .inl (cI, 2048, .inl (nF Slv_5)))] H := hP
  have hD : va_D A [(a_net, .inr (0, [.int (nI gv_1), .int (nI gdv_2), .ref a_pairs, .ref a_depths, .ref a_values, .ref a_slots, .int (nI st)])), (a_pairs, .inl (cI, 1393, .inl (nF Pv_3))), (a_depths, .inl (cI, 1393, .inl (nF Dpv_4))), (a_slots, .inl (cI, 2048, .inl (nF Slv_5)))] := hD
  refine k_i (wr := []) (w2 := fun (u : Nat × Nat × (Nat → Nat) × (Nat → Nat) × (Nat → Nat) × (Nat → Nat)) => [(a_net, .inr (0, [.int (nI u.1), .int (nI u.2.1), .ref a_pairs, .ref a_depths, .ref a_values, .ref a_slots, .int (nI st)])), (a_pairs, .inl (cI, 1393, .inl (nF u.2.2.1))), (a_depths, .inl (cI, 1393, .inl (nF u.2.2.2.1))), (a_slots, .inl (cI, 2048, .inl (nF u.2.2.2.2.1)))]) (va_runV (As := [.int (nI (op1 X)), .int (nI (op1 Y))]) (rest := [.int (nI (op1 v_8)), .ref a_net]) ⟨hx, hb, hml, hown, hts⟩ (c_Net_join l dC dI cI cZ a_net a_pairs a_depths a_values a_slots tt H.size gv_1 gdv_2 st Pv_3 Dpv_4 Slv_5 Tv_6 K (op1 X) (op1 Y) (by omega) (by omega) (by omega) b_Pv_3 b_Dpv_4 b_Slv_5 hN_4 hAL_4 (op1_lt (by omega)) (op1_lt (by omega)) (by rw [LT_op, LT_op, a1, a2]; exact fun c h => hin c (List.mem_append_right _ (List.mem_append_left _ h)))) (cwV 2 hts (gd_V in_tl (mw 414 rfl rfl) (mw 415 rfl rfl) (mw 416 rfl rfl) (mw 45 rfl rfl) (mw 417 rfl rfl)) rfl rfl rfl (by decide +kernel) ⟨Nat.le_of_ble_eq_true rfl, Nat.le_of_ble_eq_true rfl⟩) (k_preV hK hP hD hS hA hE [0, 1, 2, 3] (by decide) rfl 0 0 rfl rfl) rfl rfl hl.1 rfl (lv_room (Nat.le_of_ble_eq_true rfl)) d_Net_diff_19 ⟨Nat.zero_le _, Nat.zero_le _⟩) hP hD hS hA [0, 1, 2, 3] [] [0, 1, 2, 3] rfl rfl (by decide) (by decide) (by decide) (fun _ => rfl) (fun r_18 u H locs hw hP hD hS => ?_)
  obtain ⟨gv_12, gdv_13, Pv_14, Dpv_15, Slv_16, Tv_17⟩ := u
  obtain ⟨v_19, rfl, b_gv_12, b_gdv_13, b_Pv_14, b_Dpv_15, b_Slv_16, hN_19, hst_19, hrl_19, hc_19, hAL_19⟩ : ∃ rv : Nat, r_18 = nI rv ∧ (gv_12 ≤ 1280) ∧ (gdv_13 < 1400) ∧ (∀ j, Pv_14 j < 16777216) ∧ (∀ j, Dpv_15 j < 1400) ∧ (∀ j, Slv_16 j < 1393) ∧ (NJ gv_12 gdv_13 Pv_14 Dpv_15 Slv_16 Tv_17) ∧ (ST Tv_6 gv_1 Tv_17 gv_12 (jl (LT Tv_6 (op1 X)) (LT Tv_6 (op1 Y)))) ∧ (rv < 2 * (113 + gv_12)) ∧ (LT Tv_17 rv = jn (LT Tv_6 (op1 X)) (LT Tv_6 (op1 Y))) ∧ (AL K Tv_17 gv_12) := hw
  have hP : va_P (dC, dI) classes [(a_net, .inr (0, [.int (nI gv_12), .int (nI gdv_13), .ref a_pairs, .ref a_depths, .ref a_values, .ref a_slots, .int (nI st)])), (a_pairs, .inl (cI, 1393, .inl (nF Pv_14))), (a_depths, .inl (cI, 1393, .inl (nF Dpv_15))), (a_slots, .inl (cI, 2048, .inl (nF Slv_16)))] H := hP
  have hD : va_D A [(a_net, .inr (0, [.int (nI gv_12), .int (nI gdv_13), .ref a_pairs, .ref a_depths, .ref a_values, .ref a_slots, .int (nI st)])), (a_pairs, .inl (cI, 1393, .inl (nF Pv_14))), (a_depths, .inl (cI, 1393, .inl (nF Dpv_15))), (a_slots, .inl (cI, 2048, .inl (nF Slv_16)))] := hD
  rw [LT_op, LT_op, a1, a2] at hst_19 hc_19
  have a3 := ST_lit hst_19 hrl_4
  rw [hc_4] at a3
  have g2 := hst_19.1
  refine k_i (wr := [(a_net, .inr (0, [.int (nI gv_12), .int (nI gdv_13), .ref a_pairs, .ref a_depths, .ref a_values, .ref a_slots, .int (nI st)])), (a_pairs, .inl (cI, 1393, .inl (nF Pv_14))), (a_depths, .inl (cI, 1393, .inl (nF Dpv_15))), (a_slots, .inl (cI, 2048, .inl (nF Slv_16)))]) (w2 := fun (u : Unit) => [(a_net, .inr (0, [.int (nI gv_12), .int (nI gdv_13), .ref a_pairs, .ref a_depths, .ref a_values, .ref a_slots, .int (nI st)])), (a_pairs, .inl (cI, 1393, .inl (nF Pv_14))), (a_depths, .inl (cI, 1393, .inl (nF Dpv_15))), (a_slots, .inl (cI, 2048, .inl (nF Slv_16)))]) (va_runS (As := [.int (nI v_19)]) (rest := [.int (nI (op1 v_8)), .ref a_net]) ⟨hx, hb, hml, hown, hts⟩ (c_Net_opposite l dC dI cI cZ  tt H.size  v_19 ) (va_cwS 1 hts (gd_S in_tl (mw 418 rfl rfl) (mw 419 rfl rfl) (mw 45 rfl rfl) (mw 420 rfl rfl)) rfl rfl rfl (by decide +kernel) ⟨Nat.le_of_ble_eq_true rfl, Nat.le_of_ble_eq_true rfl⟩) (k_preS hK hP hD hS hA hE [] (by decide) rfl) rfl rfl hl.1 rfl (lv_room (Nat.le_of_ble_eq_true rfl)) d_Net_diff_22 ⟨Nat.zero_le _, Nat.zero_le _⟩) hP hD hS hA [] [0, 1, 2, 3] [0, 1, 2, 3] rfl rfl (by decide) (by decide) (by decide) (fun _ => rfl) (fun r_20 u H locs hw hP hD hS => ?_)
  obtain rfl : (r_20 = nI (op1 v_19)) := hw
  have hP : va_P (dC, dI) classes [(a_net, .inr (0, [.int (nI gv_12), .int (nI gdv_13), .ref a_pairs, .ref a_depths, .ref a_values, .ref a_slots, .int (nI st)])), (a_pairs, .inl (cI, 1393, .inl (nF Pv_14))), (a_depths, .inl (cI, 1393, .inl (nF Dpv_15))), (a_slots, .inl (cI, 2048, .inl (nF Slv_16)))] H := hP
  have hD : va_D A [(a_net, .inr (0, [.int (nI gv_12), .int (nI gdv_13), .ref a_pairs, .ref a_depths, .ref a_values, .ref a_slots, .int (nI st)])), (a_pairs, .inl (cI, 1393, .inl (nF Pv_14))), (a_depths, .inl (cI, 1393, .inl (nF Dpv_15))), (a_slots, .inl (cI, 2048, .inl (nF Slv_16)))] := hD
  refine k_i (wr := []) (w2 := fun (u : Nat × Nat × (Nat → Nat) × (Nat → Nat) × (Nat → Nat) × (Nat → Nat)) => [(a_net, .inr (0, [.int (nI u.1), .int (nI u.2.1), .ref a_pairs, .ref a_depths, .ref a_values, .ref a_slots, .int (nI st)])), (a_pairs, .inl (cI, 1393, .inl (nF u.2.2.1))), (a_depths, .inl (cI, 1393, .inl (nF u.2.2.2.1))), (a_slots, .inl (cI, 2048, .inl (nF u.2.2.2.2.1)))]) (va_runV (As := [.int (nI (op1 v_8)), .int (nI (op1 v_19))]) (rest := []) ⟨hx, hb, hml, hown, hts⟩ (c_Net_join l dC dI cI cZ a_net a_pairs a_depths a_values a_slots tt H.size gv_12 gdv_13 st Pv_14 Dpv_15 Slv_16 Tv_17 K (op1 v_8) (op1 v_19) (by omega) (by omega) (by omega) b_Pv_14 b_Dpv_15 b_Slv_16 hN_19 hAL_19 (op1_lt (by omega)) (op1_lt hrl_19) (by rw [LT_op, LT_op, a3, hc_19]; exact fun c h => hin c (List.mem_append_right _ (List.mem_append_right _ h)))) (cwV 2 hts (gd_V in_tl (mw 414 rfl rfl) (mw 415 rfl rfl) (mw 416 rfl rfl) (mw 45 rfl rfl) (mw 417 rfl rfl)) rfl rfl rfl (by decide +kernel) ⟨Nat.le_of_ble_eq_true rfl, Nat.le_of_ble_eq_true rfl⟩) (k_preV hK hP hD hS hA hE [0, 1, 2, 3] (by decide) rfl 0 0 rfl rfl) rfl rfl hl.1 rfl (lv_room (Nat.le_of_ble_eq_true rfl)) d_Net_diff_25 ⟨Nat.zero_le _, Nat.zero_le _⟩) hP hD hS hA [0, 1, 2, 3] [] [0, 1, 2, 3] rfl rfl (by decide) (by decide) (by decide) (fun _ => rfl) (fun r_27 u H locs hw hP hD hS => ?_)
  obtain ⟨gv_21, gdv_22, Pv_23, Dpv_24, Slv_25, Tv_26⟩ := u
  obtain ⟨v_28, rfl, b_gv_21, b_gdv_22, b_Pv_23, b_Dpv_24, b_Slv_25, hN_25, hst_25, hrl_25, hc_25, hAL_25⟩ : ∃ rv : Nat, r_27 = nI rv ∧ (gv_21 ≤ 1280) ∧ (gdv_22 < 1400) ∧ (∀ j, Pv_23 j < 16777216) ∧ (∀ j, Dpv_24 j < 1400) ∧ (∀ j, Slv_25 j < 1393) ∧ (NJ gv_21 gdv_22 Pv_23 Dpv_24 Slv_25 Tv_26) ∧ (ST Tv_17 gv_12 Tv_26 gv_21 (jl (LT Tv_17 (op1 v_8)) (LT Tv_17 (op1 v_19)))) ∧ (rv < 2 * (113 + gv_21)) ∧ (LT Tv_26 rv = jn (LT Tv_17 (op1 v_8)) (LT Tv_17 (op1 v_19))) ∧ (AL K Tv_26 gv_21) := hw
  have hP : va_P (dC, dI) classes [(a_net, .inr (0, [.int (nI gv_21), .int (nI gdv_22), .ref a_pairs, .ref a_depths, .ref a_values, .ref a_slots, .int (nI st)])), (a_pairs, .inl (cI, 1393, .inl (nF Pv_23))), (a_depths, .inl (cI, 1393, .inl (nF Dpv_24))), (a_slots, .inl (cI, 2048, .inl (nF Slv_25)))] H := hP
  have hD : va_D A [(a_net, .inr (0, [.int (nI gv_21), .int (nI gdv_22), .ref a_pairs, .ref a_depths, .ref a_values, .ref a_slots, .int (nI st)])), (a_pairs, .inl (cI, 1393, .inl (nF Pv_23))), (a_depths, .inl (cI, 1393, .inl (nF Dpv_24))), (a_slots, .inl (cI, 2048, .inl (nF Slv_25)))] := hD
  rw [LT_op, LT_op, a3, hc_19] at hst_25 hc_25
  exact W.iret (v := nI v_28) hx hb hr (fun t ht hW => ⟨⟨nI v_28, (gv_21, gdv_22, Pv_23, Dpv_24, Slv_25, Tv_26), rfl, ⟨v_28, rfl, (show gv_21 ≤ 1280 from by omega), (show gdv_22 < 1400 from by omega), b_Pv_23, b_Dpv_24, b_Slv_25, (show NJ gv_21 gdv_22 Pv_23 Dpv_24 Slv_25 Tv_26 from hN_25), (show ST T g Tv_26 gv_21 (dfl (LT T X) (LT T Y)) from (ST_tr hst_4 (ST_tr hst_19 hst_25))), (show v_28 < 2 * (113 + gv_21) from hrl_25), (show LT Tv_26 v_28 = df (LT T X) (LT T Y) from hc_25), (show AL K Tv_26 gv_21 from hAL_25)⟩, by rw [ht]; exact hP, va_K.moved hW.alike hK, hD⟩, hS.F ht⟩) hS.2.2 d_Net_diff_28
