abbrev b_Net_settle : ByteArray := prog_3_method_13_code
def y_Net_settle : MethodName := ⟨"CircuitDesk$Net", "settle", "()V"⟩
def w_Net_settle : List Cond := .code y_Net_settle b_Net_settle 4 none :: lw_gw
theorem d_Net_settle_0 : decode b_Net_settle 0 = .ok (.aload_n 0, 1) := by decide +kernel
theorem d_Net_settle_1 : decode b_Net_settle 1 = .ok (.getfield 37, 3) := by decide +kernel
theorem d_Net_settle_4 : decode b_Net_settle 4 = .ok (.ifCond .eq 4, 3) := by decide +kernel
theorem d_Net_settle_7 : decode b_Net_settle 7 = .ok (.return_, 1) := by decide +kernel
theorem d_Net_settle_8 : decode b_Net_settle 8 = .ok (.bipush 113, 2) := by decide +kernel
theorem d_Net_settle_10 : decode b_Net_settle 10 = .ok (.aload_n 0, 1) := by decide +kernel
theorem d_Net_settle_11 : decode b_Net_settle 11 = .ok (.getfield 30, 3) := by decide +kernel
theorem d_Net_settle_14 : decode b_Net_settle 14 = .ok (.iadd, 1) := by decide +kernel
theorem d_Net_settle_15 : decode b_Net_settle 15 = .ok (.istore_n 1, 1) := by decide +kernel
theorem d_Net_settle_16 : decode b_Net_settle 16 = .ok (.bipush 113, 2) := by decide +kernel
theorem d_Net_settle_18 : decode b_Net_settle 18 = .ok (.istore_n 2, 1) := by decide +kernel
theorem d_Net_settle_19 : decode b_Net_settle 19 = .ok (.iload_n 2, 1) := by decide +kernel
theorem d_Net_settle_20 : decode b_Net_settle 20 = .ok (.iload_n 1, 1) := by decide +kernel
theorem d_Net_settle_21 : decode b_Net_settle 21 = .ok (.if_icmp .ge 40, 3) := by decide +kernel
theorem d_Net_settle_24 : decode b_Net_settle 24 = .ok (.aload_n 0, 1) := by decide +kernel
theorem d_Net_settle_25 : decode b_Net_settle 25 = .ok (.getfield 11, 3) := by decide +kernel
theorem d_Net_settle_28 : decode b_Net_settle 28 = .ok (.iload_n 2, 1) := by decide +kernel
theorem d_Net_settle_29 : decode b_Net_settle 29 = .ok (.iaload, 1) := by decide +kernel
theorem d_Net_settle_30 : decode b_Net_settle 30 = .ok (.istore_n 3, 1) := by decide +kernel
theorem d_Net_settle_31 : decode b_Net_settle 31 = .ok (.aload_n 0, 1) := by decide +kernel
theorem d_Net_settle_32 : decode b_Net_settle 32 = .ok (.getfield 18, 3) := by decide +kernel
theorem d_Net_settle_35 : decode b_Net_settle 35 = .ok (.iload_n 2, 1) := by decide +kernel
theorem d_Net_settle_36 : decode b_Net_settle 36 = .ok (.aload_n 0, 1) := by decide +kernel
theorem d_Net_settle_37 : decode b_Net_settle 37 = .ok (.iload_n 3, 1) := by decide +kernel
theorem d_Net_settle_38 : decode b_Net_settle 38 = .ok (.bipush 12, 2) := by decide +kernel
theorem d_Net_settle_40 : decode b_Net_settle 40 = .ok (.ishr, 1) := by decide +kernel
theorem d_Net_settle_41 : decode b_Net_settle 41 = .ok (.invokevirtual 57, 3) := by decide +kernel
theorem d_Net_settle_44 : decode b_Net_settle 44 = .ok (.aload_n 0, 1) := by decide +kernel
theorem d_Net_settle_45 : decode b_Net_settle 45 = .ok (.iload_n 3, 1) := by decide +kernel
theorem d_Net_settle_46 : decode b_Net_settle 46 = .ok (.sipush 4095, 3) := by decide +kernel
theorem d_Net_settle_49 : decode b_Net_settle 49 = .ok (.iand, 1) := by decide +kernel
theorem d_Net_settle_50 : decode b_Net_settle 50 = .ok (.invokevirtual 57, 3) := by decide +kernel
theorem d_Net_settle_53 : decode b_Net_settle 53 = .ok (.iand, 1) := by decide +kernel
theorem d_Net_settle_54 : decode b_Net_settle 54 = .ok (.iastore, 1) := by decide +kernel
theorem d_Net_settle_55 : decode b_Net_settle 55 = .ok (.iinc 2 1, 3) := by decide +kernel
theorem d_Net_settle_58 : decode b_Net_settle 58 = .ok (.goto (-39), 3) := by decide +kernel
theorem d_Net_settle_61 : decode b_Net_settle 61 = .ok (.aload_n 0, 1) := by decide +kernel
theorem d_Net_settle_62 : decode b_Net_settle 62 = .ok (.iconst 1, 1) := by decide +kernel
theorem d_Net_settle_63 : decode b_Net_settle 63 = .ok (.putfield 37, 3) := by decide +kernel
theorem d_Net_settle_66 : decode b_Net_settle 66 = .ok (.return_, 1) := by decide +kernel
set_option maxHeartbeats 4000000 in
set_option maxRecDepth 100000 in
theorem c_Net_settle (l : Launch) (dC : Nat → ClassId) (dI : Nat → Nat → Nat) (cI cZ : ClassId) (a_net a_pairs a_depths a_values a_slots : Nat) (tt sz : Nat) (g : Nat) (gd : Nat) (st : Nat) (P : Nat → Nat) (Vv : Nat → Nat) (T : Nat → Nat) (E : Nat → Nat) (Dp : Nat → Nat) (Sl : Nat → Nat) (b_g : g ≤ 1280) (b_gd : gd < 1400) (b_st : st ≤ 1) (b_P : ∀ j, P j < 16777216) (b_Vv : ∀ j, Vv j < 2) (hNI : NI g P Dp Sl T) (hv0 : Vv 0 = 0) (hvb : ∀ k, k < 112 → Vv (k + 1) = E k) (hset : st = 1 → ∀ n, n < 113 + g → Vv n = evn E (T n)) : Met l y_Net_settle w_Net_settle ({ frames := 1, cells := 0, slots := 0, locals := 21 }) (va_Pc [.ref a_net] (PW (dC, dI) classes [(cI, .int), (cZ, .boolean)] tt [(a_net, .inr (0, [.int (nI g), .int (nI gd), .ref a_pairs, .ref a_depths, .ref a_values, .ref a_slots, .int (nI st)])), (a_pairs, .inl (cI, 1393, .inl (nF P))), (a_values, .inl (cI, 1393, .inl (nF Vv)))] sz)) (va_Qv (fun (u : (Nat → Nat)) => (∀ j, u j < 2) ∧ (∀ n, n < 113 + g → u n = evn E (T n))) (AT (dC, dI) classes [(cI, .int), (cZ, .boolean)] (va_A [(a_net, .inr (0, [.int (nI g), .int (nI gd), .ref a_pairs, .ref a_depths, .ref a_values, .ref a_slots, .int (nI st)])), (a_pairs, .inl (cI, 1393, .inl (nF P))), (a_values, .inl (cI, 1393, .inl (nF Vv)))] sz) (fun (u : (Nat → Nat)) => [(a_net, .inr (0, [.int (nI g), .int (nI gd), .ref a_pairs, .ref a_depths, .ref a_values, .ref a_slots, .int (nI 1)])), (a_pairs, .inl (cI, 1393, .inl (nF P))), (a_values, .inl (cI, 1393, .inl (nF u)))])) (va_A [(a_net, .inr (0, [.int (nI g), .int (nI gd), .ref a_pairs, .ref a_depths, .ref a_values, .ref a_slots, .int (nI st)])), (a_pairs, .inl (cI, 1393, .inl (nF P))), (a_values, .inl (cI, 1393, .inl (nF Vv)))] sz)) 0 0 (va_A [(a_net, .inr (0, [.int (nI g), .int (nI gd), .ref a_pairs, .ref a_depths, .ref a_values, .ref a_slots, .int (nI st)])), (a_pairs, .inl (cI, 1393, .inl (nF P))), (a_values, .inl (cI, 1393, .inl (nF Vv)))] sz) := by
  refine Met.ofW (cc := b_Net_settle) (maxL := 4) (ret := none) (by decide) rfl ?_
  intro p e s m args below meth c s₁ B hml hv
  obtain ⟨rfl, hsz, hP, hK, hD0, hE⟩ := hv
  have hx := B.exec
  have hb := B.bytes
  have hr := B.returns
  have hts := atoms_spec (ws := w_Net_settle) B.pre
  have hown : s.vm.findClass R_Net = some m.cls := findClass_of_methodNamed B.named
  have hlocks := B.notSynchronized
  subst hsz
  have hD := hD0.self (sz := s.heap.size)
  generalize hAe : va_A [(a_net, .inr (0, [.int (nI g), .int (nI gd), .ref a_pairs, .ref a_depths, .ref a_values, .ref a_slots, .int (nI st)])), (a_pairs, .inl (cI, 1393, .inl (nF P))), (a_values, .inl (cI, 1393, .inl (nF Vv)))] s.heap.size = A at hD hE ⊢
  have hA : ∀ q : Nat, s.heap.size ≤ q → A q := fun q h => by rw [← hAe]; exact Or.inr h
  have hS : va_S A s.heap s.heap [] := va_S.rf
  have hP : va_P (dC, dI) classes [(a_net, .inr (0, [.int (nI g), .int (nI gd), .ref a_pairs, .ref a_depths, .ref a_values, .ref a_slots, .int (nI st)])), (a_pairs, .inl (cI, 1393, .inl (nF P))), (a_values, .inl (cI, 1393, .inl (nF Vv)))] s.heap := hP
  have hl := lv_entry ([.ref a_net]) (n := 4) (Nat.le_of_ble_eq_true rfl)
  rw [lg_entry_eq]
  generalize (lg_sl ([.ref a_net]) ++ List.replicate (4 - (lg_sl ([.ref a_net])).length) Slot.unset).toArray = ls at hl ⊢
  have hl : lv_has ls 4 [(0, .ref a_net)] := hl
  refine lv_aload_n hx hb d_Net_settle_0 rfl (lv_at hl 0 rfl) ?_
  refine va_get (D := (dC, dI)) (ci := 0) (v := .int (nI st)) (C := R_Net) (T := F_Net) (N := 7) hx hb hts (wi i_Net) hown hK hP 0 rfl rfl 6 (by decide) (hts _ (mt 184 rfl rfl)) (fun _ h9 => h9) rfl d_Net_settle_1 ?_
  refine lv_if_eq (tgt := 8) hx hb d_Net_settle_4 (by decide) (fun c4 => ?_) (fun c4 => ?_)
  · skip
    have c4 : st = 0 := (nI_eq0 (by omega)).mp c4
    refine lv_bipush (v := nI 113) hx hb d_Net_settle_8 rfl ?_
    refine lv_aload_n hx hb d_Net_settle_10 rfl (lv_at hl 0 rfl) ?_
    refine va_get (D := (dC, dI)) (ci := 0) (v := .int (nI g)) (C := R_Net) (T := F_Net) (N := 7) hx hb hts (wi i_Net) hown hK hP 0 rfl rfl 0 (by decide) (hts _ (mt 176 rfl rfl)) (fun _ h9 => h9) rfl d_Net_settle_11 ?_
    refine lv_iadd hx hb d_Net_settle_14 ?_
    refine k_top (nI_add _ _) ?_
    refine lv_istore_n (lv' := [(1, .int (nI (113 + g))), (0, .ref a_net)]) hx hb d_Net_settle_15 rfl hl (by decide) rfl (fun ls hl => ?_)
    refine lv_bipush (v := nI 113) hx hb d_Net_settle_16 rfl ?_
    refine lv_istore_n (lv' := [(2, .int (nI 113)), (1, .int (nI (113 + g))), (0, .ref a_net)]) hx hb d_Net_settle_18 rfl hl (by decide) rfl (fun ls hl => ?_)
    have hI_1 : (∀ j, Vv j < 2) ∧ (∀ k, k < 113 → Vv k = evn E (T k)) ∧ (113 ≤ 113) ∧ (113 ≤ 113 + g) := ⟨b_Vv, (fun k hk => ev_base hNI hv0 hvb (by omega)), (by omega), (by omega)⟩
    refine k_loop (σ := Nat × (Nat → Nat)) (D := (dC, dI)) (cl := classes) (A := A) (H0 := s.heap) (fun x => [(a_net, .inr (0, [.int (nI g), .int (nI gd), .ref a_pairs, .ref a_depths, .ref a_values, .ref a_slots, .int (nI st)])), (a_pairs, .inl (cI, 1393, .inl (nF P))), (a_values, .inl (cI, 1393, .inl (nF x.2)))]) (fun x => [(2, .int (nI x.1)), (1, .int (nI (113 + g))), (0, .ref a_net)]) (fun x => (∀ j, x.2 j < 2) ∧ (∀ k, k < x.1 → x.2 k = evn E (T k)) ∧ (113 ≤ x.1) ∧ (x.1 ≤ 113 + g)) (fun x => 113 + g - x.1) ?_ (113, Vv) hI_1 hP hD hS (lv_sub hl [0, 1, 2] rfl)
    rintro ⟨n, V1⟩ hI ih_2 H locs ls hP hD hS hl
    obtain ⟨b_V1, hv1, hn, hn2⟩ : (∀ j, V1 j < 2) ∧ (∀ k, k < n → V1 k = evn E (T k)) ∧ (113 ≤ n) ∧ (n ≤ 113 + g) := hI
    have hP : va_P (dC, dI) classes [(a_net, .inr (0, [.int (nI g), .int (nI gd), .ref a_pairs, .ref a_depths, .ref a_values, .ref a_slots, .int (nI st)])), (a_pairs, .inl (cI, 1393, .inl (nF P))), (a_values, .inl (cI, 1393, .inl (nF V1)))] H := hP
    have hD : va_D A [(a_net, .inr (0, [.int (nI g), .int (nI gd), .ref a_pairs, .ref a_depths, .ref a_values, .ref a_slots, .int (nI st)])), (a_pairs, .inl (cI, 1393, .inl (nF P))), (a_values, .inl (cI, 1393, .inl (nF V1)))] := hD
    have hl : lv_has ls 4 [(2, .int (nI n)), (1, .int (nI (113 + g))), (0, .ref a_net)] := hl
    refine lv_iload_n hx hb d_Net_settle_19 rfl (lv_at hl 0 rfl) ?_
    refine lv_iload_n hx hb d_Net_settle_20 rfl (lv_at hl 1 rfl) ?_
    refine lv_icmp_ge (tgt := 61) hx hb d_Net_settle_21 (by decide) (fun c21 => ?_) (fun c21 => ?_)
    · skip
      have c21 : (113 + g) ≤ n := (nI_leI (by omega) (by omega)).mp c21
      refine lv_aload_n hx hb d_Net_settle_61 rfl (lv_at hl 2 rfl) ?_
      refine lv_iconst (v := nI 1) hx hb d_Net_settle_62 rfl ?_
      refine va_put (D := (dC, dI)) (ci := 0) (v := .int (nI 1)) (ty := .boolean) (C := R_Net) (T := F_Net) (N := 7) hx hb hts (wi i_Net) t_Net t_Net_ok n_Net hown hK hP hD hS 0 rfl rfl 6 (by decide) (hts _ (mt 184 rfl rfl)) (fun _ h9 => h9) rfl (by decide +kernel) (k_narZ (by omega)) (k_fitZ (by omega)) (Nat.le_of_ble_eq_true rfl) d_Net_settle_63 (fun H locs hP hD hS => ?_)
      have hP : va_P (dC, dI) classes [(a_net, .inr (0, [.int (nI g), .int (nI gd), .ref a_pairs, .ref a_depths, .ref a_values, .ref a_slots, .int (nI 1)])), (a_pairs, .inl (cI, 1393, .inl (nF P))), (a_values, .inl (cI, 1393, .inl (nF V1)))] H := hP
      have hD : va_D A [(a_net, .inr (0, [.int (nI g), .int (nI gd), .ref a_pairs, .ref a_depths, .ref a_values, .ref a_slots, .int (nI 1)])), (a_pairs, .inl (cI, 1393, .inl (nF P))), (a_values, .inl (cI, 1393, .inl (nF V1)))] := hD
      exact W.vret hx hb hr (fun t ht hW => ⟨⟨(V1), rfl, ⟨b_V1, (show ∀ n, n < 113 + g → V1 n = evn E (T n) from (fun k hk => hv1 k (by omega)))⟩, by rw [ht]; exact hP, va_K.moved hW.alike hK, hD⟩, hS.F ht⟩) hS.2.2 d_Net_settle_66
    · skip
      have c21 : ¬ ((113 + g) ≤ n) := fun h => c21 ((nI_leI (by omega) (by omega)).mpr h)
      refine lv_aload_n hx hb d_Net_settle_24 rfl (lv_at hl 2 rfl) ?_
      refine va_get (D := (dC, dI)) (ci := 0) (v := .ref a_pairs) (C := R_Net) (T := F_Net) (N := 7) hx hb hts (wi i_Net) hown hK hP 0 rfl rfl 2 (by decide) (hts _ (mt 180 rfl rfl)) (fun _ h9 => h9) rfl d_Net_settle_25 ?_
      refine lv_iload_n hx hb d_Net_settle_28 rfl (lv_at hl 0 rfl) ?_
      refine k_ild hx hb hK hP 1 0 rfl rfl (by omega) (by decide) d_Net_settle_29 ?_
      have hb_3 := b_P n
      obtain ⟨a, b, pe, pab, pb, pT, pq⟩ := hNI.2.2.1 n hn (by omega)
      have pe1 : P n / 2 ^ 12 = a := by rw [pe, show (2 : Nat) ^ 12 = 4096 from rfl]; omega
      have pe2 : P n &&& 4095 = b := by rw [pe, and4095]; omega
      have va : (V1 (a / 2) + a % 2) % 2 = evl E (LT T a) := ev_lit (hv1 _ (by omega))
      have vb : (V1 (b / 2) + b % 2) % 2 = evl E (LT T b) := ev_lit (hv1 _ (by omega))
      refine lv_istore_n (lv' := [(3, .int (nI (P n))), (2, .int (nI n)), (1, .int (nI (113 + g))), (0, .ref a_net)]) hx hb d_Net_settle_30 rfl hl (by decide) rfl (fun ls hl => ?_)
      refine lv_aload_n hx hb d_Net_settle_31 rfl (lv_at hl 3 rfl) ?_
      refine va_get (D := (dC, dI)) (ci := 0) (v := .ref a_values) (C := R_Net) (T := F_Net) (N := 7) hx hb hts (wi i_Net) hown hK hP 0 rfl rfl 4 (by decide) (hts _ (mt 182 rfl rfl)) (fun _ h9 => h9) rfl d_Net_settle_32 ?_
      refine lv_iload_n hx hb d_Net_settle_35 rfl (lv_at hl 1 rfl) ?_
      refine lv_aload_n hx hb d_Net_settle_36 rfl (lv_at hl 3 rfl) ?_
      refine lv_iload_n hx hb d_Net_settle_37 rfl (lv_at hl 0 rfl) ?_
      refine lv_bipush (v := nI 12) hx hb d_Net_settle_38 rfl ?_
      refine lv_ishr hx hb d_Net_settle_40 ?_
      refine k_top (nI_shr (by omega) (by omega)) ?_
      refine k_i (wr := [(a_pairs, .inl (cI, 1393, .inl (nF P)))]) (w2 := fun (u : Unit) => [(a_net, .inr (0, [.int (nI g), .int (nI gd), .ref a_pairs, .ref a_depths, .ref a_values, .ref a_slots, .int (nI st)])), (a_pairs, .inl (cI, 1393, .inl (nF P))), (a_values, .inl (cI, 1393, .inl (nF V1)))]) (va_runV (As := [.int (nI ((P n) / 2 ^ 12))]) (rest := [.int (nI n), .ref a_values]) ⟨hx, hb, hml, hown, hts⟩ (c_Net_valueOf l dC dI cI cZ a_net a_pairs a_depths a_values a_slots tt H.size g gd st V1 ((P n) / 2 ^ 12) (by omega) (by omega) (by omega) b_V1 (by rw [pe1]; omega) (by rw [pe1]; omega)) (cwV 1 hts (gd_V in_tl (mw 494 rfl rfl) (mw 496 rfl rfl) (mw 18 rfl rfl) (mw 45 rfl rfl) (mw 497 rfl rfl)) rfl rfl rfl (by decide +kernel) ⟨Nat.le_of_ble_eq_true rfl, Nat.le_of_ble_eq_true rfl⟩) (k_preV hK hP hD hS hA hE [0, 2] (by decide) rfl 0 0 rfl rfl) rfl rfl hl.1 rfl (lv_room (Nat.le_of_ble_eq_true rfl)) d_Net_settle_41 ⟨Nat.zero_le _, Nat.zero_le _⟩) hP hD hS hA [0, 2] [1] [1, 0, 2] rfl rfl (by decide) (by decide) (by decide) (fun _ => rfl) (fun r_4 u H locs hw hP hD hS => ?_)
      obtain rfl : (r_4 = nI ((V1 (((P n) / 2 ^ 12) / 2) + ((P n) / 2 ^ 12) % 2) % 2)) := hw
      have hP : va_P (dC, dI) classes [(a_net, .inr (0, [.int (nI g), .int (nI gd), .ref a_pairs, .ref a_depths, .ref a_values, .ref a_slots, .int (nI st)])), (a_pairs, .inl (cI, 1393, .inl (nF P))), (a_values, .inl (cI, 1393, .inl (nF V1)))] H := hP
      have hD : va_D A [(a_net, .inr (0, [.int (nI g), .int (nI gd), .ref a_pairs, .ref a_depths, .ref a_values, .ref a_slots, .int (nI st)])), (a_pairs, .inl (cI, 1393, .inl (nF P))), (a_values, .inl (cI, 1393, .inl (nF V1)))] := hD
      refine lv_aload_n hx hb d_Net_settle_44 rfl (lv_at hl 3 rfl) ?_
      refine lv_iload_n hx hb d_Net_settle_45 rfl (lv_at hl 0 rfl) ?_
      refine lv_sipush (v := nI 4095) hx hb d_Net_settle_46 rfl ?_
      refine lv_iand hx hb d_Net_settle_49 ?_
      refine k_top (nI_and _ _) ?_
      refine k_i (wr := [(a_pairs, .inl (cI, 1393, .inl (nF P)))]) (w2 := fun (u : Unit) => [(a_net, .inr (0, [.int (nI g), .int (nI gd), .ref a_pairs, .ref a_depths, .ref a_values, .ref a_slots, .int (nI st)])), (a_pairs, .inl (cI, 1393, .inl (nF P))), (a_values, .inl (cI, 1393, .inl (nF V1)))]) (va_runV (As := [.int (nI ((P n) &&& 4095))]) (rest := [.int (nI ((V1 (((P n) / 2 ^ 12) / 2) + ((P n) / 2 ^ 12) % 2) % 2)), .int (nI n), .ref a_values]) ⟨hx, hb, hml, hown, hts⟩ (c_Net_valueOf l dC dI cI cZ a_net a_pairs a_depths a_values a_slots tt H.size g gd st V1 ((P n) &&& 4095) (by omega) (by omega) (by omega) b_V1 (by rw [pe2]; omega) (by rw [pe2]; omega)) (cwV 1 hts (gd_V in_tl (mw 494 rfl rfl) (mw 496 rfl rfl) (mw 18 rfl rfl) (mw 45 rfl rfl) (mw 497 rfl rfl)) rfl rfl rfl (by decide +kernel) ⟨Nat.le_of_ble_eq_true rfl, Nat.le_of_ble_eq_true rfl⟩) (k_preV hK hP hD hS hA hE [0, 2] (by decide) rfl 0 0 rfl rfl) rfl rfl hl.1 rfl (lv_room (Nat.le_of_ble_eq_true rfl)) d_Net_settle_50 ⟨Nat.zero_le _, Nat.zero_le _⟩) hP hD hS hA [0, 2] [1] [1, 0, 2] rfl rfl (by decide) (by decide) (by decide) (fun _ => rfl) (fun r_5 u H locs hw hP hD hS => ?_)
      obtain rfl : (r_5 = nI ((V1 (((P n) &&& 4095) / 2) + ((P n) &&& 4095) % 2) % 2)) := hw
      have hP : va_P (dC, dI) classes [(a_net, .inr (0, [.int (nI g), .int (nI gd), .ref a_pairs, .ref a_depths, .ref a_values, .ref a_slots, .int (nI st)])), (a_pairs, .inl (cI, 1393, .inl (nF P))), (a_values, .inl (cI, 1393, .inl (nF V1)))] H := hP
      have hD : va_D A [(a_net, .inr (0, [.int (nI g), .int (nI gd), .ref a_pairs, .ref a_depths, .ref a_values, .ref a_slots, .int (nI st)])), (a_pairs, .inl (cI, 1393, .inl (nF P))), (a_values, .inl (cI, 1393, .inl (nF V1)))] := hD
      refine lv_iand hx hb d_Net_settle_53 ?_
      refine k_top (nI_and _ _) ?_
      refine k_ist hx hb hK hP hD hS 2 0 rfl rfl (by omega) (by decide) d_Net_settle_54 (fun H locs hP hD hS => ?_)
      have bb_6 : ∀ j, upN V1 n (((V1 (((P n) / 2 ^ 12) / 2) + ((P n) / 2 ^ 12) % 2) % 2) &&& ((V1 (((P n) &&& 4095) / 2) + ((P n) &&& 4095) % 2) % 2)) j < 2 := upN_lt b_V1 (by rw [ba1 (Nat.mod_lt _ (by decide)) (Nat.mod_lt _ (by decide)), pe1, pe2, va, vb]; exact ev_and E _ _)
      have hP : va_P (dC, dI) classes [(a_net, .inr (0, [.int (nI g), .int (nI gd), .ref a_pairs, .ref a_depths, .ref a_values, .ref a_slots, .int (nI st)])), (a_pairs, .inl (cI, 1393, .inl (nF P))), (a_values, .inl (cI, 1393, .inl (nF (upN V1 n (((V1 (((P n) / 2 ^ 12) / 2) + ((P n) / 2 ^ 12) % 2) % 2) &&& ((V1 (((P n) &&& 4095) / 2) + ((P n) &&& 4095) % 2) % 2))))))] H := hP
      have hD : va_D A [(a_net, .inr (0, [.int (nI g), .int (nI gd), .ref a_pairs, .ref a_depths, .ref a_values, .ref a_slots, .int (nI st)])), (a_pairs, .inl (cI, 1393, .inl (nF P))), (a_values, .inl (cI, 1393, .inl (nF (upN V1 n (((V1 (((P n) / 2 ^ 12) / 2) + ((P n) / 2 ^ 12) % 2) % 2) &&& ((V1 (((P n) &&& 4095) / 2) + ((P n) &&& 4095) % 2) % 2))))))] := hD
      refine lv_iinc (v := nI (n + 1)) (lv' := [(2, .int (nI (n + 1))), (3, .int (nI (P n))), (1, .int (nI (113 + g))), (0, .ref a_net)]) hx hb d_Net_settle_55 hl (k := 1) rfl (k_inc _ 1) (by decide) rfl (fun ls hl => ?_)
      refine lv_goto (tgt := 19) hx hb d_Net_settle_58 (by decide) ?_
      have hI_7 : (∀ j, (upN V1 n (((V1 (((P n) / 2 ^ 12) / 2) + ((P n) / 2 ^ 12) % 2) % 2) &&& ((V1 (((P n) &&& 4095) / 2) + ((P n) &&& 4095) % 2) % 2))) j < 2) ∧ (∀ k, k < (n + 1) → (upN V1 n (((V1 (((P n) / 2 ^ 12) / 2) + ((P n) / 2 ^ 12) % 2) % 2) &&& ((V1 (((P n) &&& 4095) / 2) + ((P n) &&& 4095) % 2) % 2))) k = evn E (T k)) ∧ (113 ≤ (n + 1)) ∧ ((n + 1) ≤ 113 + g) := ⟨bb_6, (fun k hk => by
      by_cases e : k = n
      · subst e; rw [upN_self, ba1 (Nat.mod_lt _ (by decide)) (Nat.mod_lt _ (by decide)), pe1, pe2, va, vb, pT, evn_gate]
      · rw [upN_ne _ _ e]; exact hv1 k (by omega)), (by omega), (by omega)⟩
      exact ih_2 (n + 1, upN V1 n (((V1 (((P n) / 2 ^ 12) / 2) + ((P n) / 2 ^ 12) % 2) % 2) &&& ((V1 (((P n) &&& 4095) / 2) + ((P n) &&& 4095) % 2) % 2))) hI_7 (show 113 + g - (n + 1) < 113 + g - n from by omega) _ _ _ hP hD hS (lv_sub hl [0, 2, 3] rfl)
  · skip
    have c4 : ¬ (st = 0) := fun h => c4 ((nI_eq0 (by omega)).mpr h)
    obtain rfl : st = 1 := by omega
    exact W.vret hx hb hr (fun t ht hW => ⟨⟨(Vv), rfl, ⟨b_Vv, (show ∀ n, n < 113 + g → Vv n = evn E (T n) from (hset rfl))⟩, by rw [ht]; exact hP, va_K.moved hW.alike hK, hD⟩, hS.F ht⟩) hS.2.2 d_Net_settle_7
