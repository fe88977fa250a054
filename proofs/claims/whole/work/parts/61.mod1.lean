abbrev b_Mod_in : ByteArray := prog_8_method_2_code
def y_Mod_in : MethodName := ⟨"CircuitDeskModel", "in", "(III)Z"⟩
def w_Mod_in : List Cond := .code y_Mod_in b_Mod_in 3 (some .boolean) :: lw_gw
theorem d_Mod_in_0 : decode b_Mod_in 0 = .ok (.iload_n 0, 1) := by decide +kernel
theorem d_Mod_in_1 : decode b_Mod_in 1 = .ok (.iload_n 1, 1) := by decide +kernel
theorem d_Mod_in_2 : decode b_Mod_in 2 = .ok (.if_icmp .lt 12, 3) := by decide +kernel
theorem d_Mod_in_5 : decode b_Mod_in 5 = .ok (.iload_n 0, 1) := by decide +kernel
theorem d_Mod_in_6 : decode b_Mod_in 6 = .ok (.iload_n 2, 1) := by decide +kernel
theorem d_Mod_in_7 : decode b_Mod_in 7 = .ok (.if_icmp .gt 7, 3) := by decide +kernel
theorem d_Mod_in_10 : decode b_Mod_in 10 = .ok (.iconst 1, 1) := by decide +kernel
theorem d_Mod_in_11 : decode b_Mod_in 11 = .ok (.goto 4, 3) := by decide +kernel
theorem d_Mod_in_14 : decode b_Mod_in 14 = .ok (.iconst 0, 1) := by decide +kernel
theorem d_Mod_in_15 : decode b_Mod_in 15 = .ok (.ireturn, 1) := by decide +kernel
abbrev b_Mod_is : ByteArray := prog_8_method_3_code
def y_Mod_is : MethodName := ⟨"CircuitDeskModel", "is", "(I)Z"⟩
def w_Mod_is : List Cond := .code y_Mod_is b_Mod_is 2 (some .boolean) :: lw_gw
theorem d_Mod_is_0 : decode b_Mod_is 0 = .ok (.iload_n 1, 1) := by decide +kernel
theorem d_Mod_is_1 : decode b_Mod_is 1 = .ok (.iconst 0, 1) := by decide +kernel
theorem d_Mod_is_2 : decode b_Mod_is 2 = .ok (.aload_n 0, 1) := by decide +kernel
theorem d_Mod_is_3 : decode b_Mod_is 3 = .ok (.getfield 78, 3) := by decide +kernel
theorem d_Mod_is_6 : decode b_Mod_is 6 = .ok (.iconst 1, 1) := by decide +kernel
theorem d_Mod_is_7 : decode b_Mod_is 7 = .ok (.isub, 1) := by decide +kernel
theorem d_Mod_is_8 : decode b_Mod_is 8 = .ok (.invokestatic 81, 3) := by decide +kernel
theorem d_Mod_is_11 : decode b_Mod_is 11 = .ok (.ireturn, 1) := by decide +kernel
abbrev b_Mod_more : ByteArray := prog_8_method_6_code
def y_Mod_more : MethodName := ⟨"CircuitDeskModel", "more", "(II)I"⟩
def w_Mod_more : List Cond := .code y_Mod_more b_Mod_more 2 (some .int) :: lw_gw
theorem d_Mod_more_0 : decode b_Mod_more 0 = .ok (.iload_n 0, 1) := by decide +kernel
theorem d_Mod_more_1 : decode b_Mod_more 1 = .ok (.iload_n 1, 1) := by decide +kernel
theorem d_Mod_more_2 : decode b_Mod_more 2 = .ok (.if_icmp .le 7, 3) := by decide +kernel
theorem d_Mod_more_5 : decode b_Mod_more 5 = .ok (.iload_n 0, 1) := by decide +kernel
theorem d_Mod_more_6 : decode b_Mod_more 6 = .ok (.goto 4, 3) := by decide +kernel
theorem d_Mod_more_9 : decode b_Mod_more 9 = .ok (.iload_n 1, 1) := by decide +kernel
theorem d_Mod_more_10 : decode b_Mod_more 10 = .ok (.ireturn, 1) := by decide +kernel
abbrev b_Mod_make : ByteArray := prog_8_method_4_code
def y_Mod_make : MethodName := ⟨"CircuitDeskModel", "make", "(II)I"⟩
def w_Mod_make : List Cond := .code y_Mod_make b_Mod_make 3 (some .int) :: lw_gw
theorem d_Mod_make_0 : decode b_Mod_make 0 = .ok (.aload_n 0, 1) := by decide +kernel
theorem d_Mod_make_1 : decode b_Mod_make 1 = .ok (.getfield 7, 3) := by decide +kernel
theorem d_Mod_make_4 : decode b_Mod_make 4 = .ok (.aload_n 0, 1) := by decide +kernel
theorem d_Mod_make_5 : decode b_Mod_make 5 = .ok (.getfield 78, 3) := by decide +kernel
theorem d_Mod_make_8 : decode b_Mod_make 8 = .ok (.iload_n 1, 1) := by decide +kernel
theorem d_Mod_make_9 : decode b_Mod_make 9 = .ok (.iastore, 1) := by decide +kernel
theorem d_Mod_make_10 : decode b_Mod_make 10 = .ok (.aload_n 0, 1) := by decide +kernel
theorem d_Mod_make_11 : decode b_Mod_make 11 = .ok (.getfield 13, 3) := by decide +kernel
theorem d_Mod_make_14 : decode b_Mod_make 14 = .ok (.aload_n 0, 1) := by decide +kernel
theorem d_Mod_make_15 : decode b_Mod_make 15 = .ok (.getfield 78, 3) := by decide +kernel
theorem d_Mod_make_18 : decode b_Mod_make 18 = .ok (.iload_n 2, 1) := by decide +kernel
theorem d_Mod_make_19 : decode b_Mod_make 19 = .ok (.iastore, 1) := by decide +kernel
theorem d_Mod_make_20 : decode b_Mod_make 20 = .ok (.aload_n 0, 1) := by decide +kernel
theorem d_Mod_make_21 : decode b_Mod_make 21 = .ok (.getfield 16, 3) := by decide +kernel
theorem d_Mod_make_24 : decode b_Mod_make 24 = .ok (.aload_n 0, 1) := by decide +kernel
theorem d_Mod_make_25 : decode b_Mod_make 25 = .ok (.getfield 78, 3) := by decide +kernel
theorem d_Mod_make_28 : decode b_Mod_make 28 = .ok (.iconst 0, 1) := by decide +kernel
theorem d_Mod_make_29 : decode b_Mod_make 29 = .ok (.iastore, 1) := by decide +kernel
theorem d_Mod_make_30 : decode b_Mod_make 30 = .ok (.aload_n 0, 1) := by decide +kernel
theorem d_Mod_make_31 : decode b_Mod_make 31 = .ok (.getfield 31, 3) := by decide +kernel
theorem d_Mod_make_34 : decode b_Mod_make 34 = .ok (.aload_n 0, 1) := by decide +kernel
theorem d_Mod_make_35 : decode b_Mod_make 35 = .ok (.getfield 78, 3) := by decide +kernel
theorem d_Mod_make_38 : decode b_Mod_make 38 = .ok (.iconst 0, 1) := by decide +kernel
theorem d_Mod_make_39 : decode b_Mod_make 39 = .ok (.iastore, 1) := by decide +kernel
theorem d_Mod_make_40 : decode b_Mod_make 40 = .ok (.aload_n 0, 1) := by decide +kernel
theorem d_Mod_make_41 : decode b_Mod_make 41 = .ok (.getfield 19, 3) := by decide +kernel
theorem d_Mod_make_44 : decode b_Mod_make 44 = .ok (.aload_n 0, 1) := by decide +kernel
theorem d_Mod_make_45 : decode b_Mod_make 45 = .ok (.getfield 78, 3) := by decide +kernel
theorem d_Mod_make_48 : decode b_Mod_make 48 = .ok (.bipush (-2), 2) := by decide +kernel
theorem d_Mod_make_50 : decode b_Mod_make 50 = .ok (.iastore, 1) := by decide +kernel
theorem d_Mod_make_51 : decode b_Mod_make 51 = .ok (.aload_n 0, 1) := by decide +kernel
theorem d_Mod_make_52 : decode b_Mod_make 52 = .ok (.iconst 0, 1) := by decide +kernel
theorem d_Mod_make_53 : decode b_Mod_make 53 = .ok (.putfield 85, 3) := by decide +kernel
theorem d_Mod_make_56 : decode b_Mod_make 56 = .ok (.aload_n 0, 1) := by decide +kernel
theorem d_Mod_make_57 : decode b_Mod_make 57 = .ok (.dup, 1) := by decide +kernel
theorem d_Mod_make_58 : decode b_Mod_make 58 = .ok (.getfield 78, 3) := by decide +kernel
theorem d_Mod_make_61 : decode b_Mod_make 61 = .ok (.iconst 1, 1) := by decide +kernel
theorem d_Mod_make_62 : decode b_Mod_make 62 = .ok (.iadd, 1) := by decide +kernel
theorem d_Mod_make_63 : decode b_Mod_make 63 = .ok (.putfield 78, 3) := by decide +kernel
theorem d_Mod_make_66 : decode b_Mod_make 66 = .ok (.aload_n 0, 1) := by decide +kernel
theorem d_Mod_make_67 : decode b_Mod_make 67 = .ok (.getfield 78, 3) := by decide +kernel
theorem d_Mod_make_70 : decode b_Mod_make 70 = .ok (.iconst 1, 1) := by decide +kernel
theorem d_Mod_make_71 : decode b_Mod_make 71 = .ok (.isub, 1) := by decide +kernel
theorem d_Mod_make_72 : decode b_Mod_make 72 = .ok (.ireturn, 1) := by decide +kernel
abbrev b_Mod_signal : ByteArray := prog_8_method_5_code
def y_Mod_signal : MethodName := ⟨"CircuitDeskModel", "signal", "(III)I"⟩
def w_Mod_signal : List Cond := .code y_Mod_signal b_Mod_signal 5 (some .int) :: lw_gw
theorem d_Mod_signal_0 : decode b_Mod_signal 0 = .ok (.iload_n 1, 1) := by decide +kernel
theorem d_Mod_signal_1 : decode b_Mod_signal 1 = .ok (.iconst 0, 1) := by decide +kernel
theorem d_Mod_signal_2 : decode b_Mod_signal 2 = .ok (.iconst 2, 1) := by decide +kernel
theorem d_Mod_signal_3 : decode b_Mod_signal 3 = .ok (.invokestatic 81, 3) := by decide +kernel
theorem d_Mod_signal_6 : decode b_Mod_signal 6 = .ok (.ifCond .eq 29, 3) := by decide +kernel
theorem d_Mod_signal_9 : decode b_Mod_signal 9 = .ok (.iload_n 2, 1) := by decide +kernel
theorem d_Mod_signal_10 : decode b_Mod_signal 10 = .ok (.iconst 1, 1) := by decide +kernel
theorem d_Mod_signal_11 : decode b_Mod_signal 11 = .ok (.bipush 8, 2) := by decide +kernel
theorem d_Mod_signal_13 : decode b_Mod_signal 13 = .ok (.invokestatic 81, 3) := by decide +kernel
theorem d_Mod_signal_16 : decode b_Mod_signal 16 = .ok (.ifCond .eq 19, 3) := by decide +kernel
theorem d_Mod_signal_19 : decode b_Mod_signal 19 = .ok (.iload_n 1, 1) := by decide +kernel
theorem d_Mod_signal_20 : decode b_Mod_signal 20 = .ok (.iconst 2, 1) := by decide +kernel
theorem d_Mod_signal_21 : decode b_Mod_signal 21 = .ok (.if_icmp .ne 16, 3) := by decide +kernel
theorem d_Mod_signal_24 : decode b_Mod_signal 24 = .ok (.iload_n 3, 1) := by decide +kernel
theorem d_Mod_signal_25 : decode b_Mod_signal 25 = .ok (.iconst 0, 1) := by decide +kernel
theorem d_Mod_signal_26 : decode b_Mod_signal 26 = .ok (.sipush 255, 3) := by decide +kernel
theorem d_Mod_signal_29 : decode b_Mod_signal 29 = .ok (.invokestatic 81, 3) := by decide +kernel
theorem d_Mod_signal_32 : decode b_Mod_signal 32 = .ok (.ifCond .ne 5, 3) := by decide +kernel
theorem d_Mod_signal_35 : decode b_Mod_signal 35 = .ok (.iconst (-1), 1) := by decide +kernel
theorem d_Mod_signal_36 : decode b_Mod_signal 36 = .ok (.ireturn, 1) := by decide +kernel
theorem d_Mod_signal_37 : decode b_Mod_signal 37 = .ok (.aload_n 0, 1) := by decide +kernel
theorem d_Mod_signal_38 : decode b_Mod_signal 38 = .ok (.getfield 78, 3) := by decide +kernel
theorem d_Mod_signal_41 : decode b_Mod_signal 41 = .ok (.bipush 14, 2) := by decide +kernel
theorem d_Mod_signal_43 : decode b_Mod_signal 43 = .ok (.if_icmp .ne 6, 3) := by decide +kernel
theorem d_Mod_signal_46 : decode b_Mod_signal 46 = .ok (.bipush (-3), 2) := by decide +kernel
theorem d_Mod_signal_48 : decode b_Mod_signal 48 = .ok (.ireturn, 1) := by decide +kernel
theorem d_Mod_signal_49 : decode b_Mod_signal 49 = .ok (.aload_n 0, 1) := by decide +kernel
theorem d_Mod_signal_50 : decode b_Mod_signal 50 = .ok (.iload_n 1, 1) := by decide +kernel
theorem d_Mod_signal_51 : decode b_Mod_signal 51 = .ok (.iload_n 2, 1) := by decide +kernel
theorem d_Mod_signal_52 : decode b_Mod_signal 52 = .ok (.invokevirtual 89, 3) := by decide +kernel
theorem d_Mod_signal_55 : decode b_Mod_signal 55 = .ok (.istore 4, 2) := by decide +kernel
theorem d_Mod_signal_57 : decode b_Mod_signal 57 = .ok (.iload_n 1, 1) := by decide +kernel
theorem d_Mod_signal_58 : decode b_Mod_signal 58 = .ok (.iconst 2, 1) := by decide +kernel
theorem d_Mod_signal_59 : decode b_Mod_signal 59 = .ok (.if_icmp .ne 17, 3) := by decide +kernel
theorem d_Mod_signal_62 : decode b_Mod_signal 62 = .ok (.aload_n 0, 1) := by decide +kernel
theorem d_Mod_signal_63 : decode b_Mod_signal 63 = .ok (.getfield 16, 3) := by decide +kernel
theorem d_Mod_signal_66 : decode b_Mod_signal 66 = .ok (.iload 4, 2) := by decide +kernel
theorem d_Mod_signal_68 : decode b_Mod_signal 68 = .ok (.iload_n 3, 1) := by decide +kernel
theorem d_Mod_signal_69 : decode b_Mod_signal 69 = .ok (.iconst 1, 1) := by decide +kernel
theorem d_Mod_signal_70 : decode b_Mod_signal 70 = .ok (.iload_n 2, 1) := by decide +kernel
theorem d_Mod_signal_71 : decode b_Mod_signal 71 = .ok (.ishl, 1) := by decide +kernel
theorem d_Mod_signal_72 : decode b_Mod_signal 72 = .ok (.iconst 1, 1) := by decide +kernel
theorem d_Mod_signal_73 : decode b_Mod_signal 73 = .ok (.isub, 1) := by decide +kernel
theorem d_Mod_signal_74 : decode b_Mod_signal 74 = .ok (.iand, 1) := by decide +kernel
theorem d_Mod_signal_75 : decode b_Mod_signal 75 = .ok (.iastore, 1) := by decide +kernel
theorem d_Mod_signal_76 : decode b_Mod_signal 76 = .ok (.iload 4, 2) := by decide +kernel
theorem d_Mod_signal_78 : decode b_Mod_signal 78 = .ok (.ireturn, 1) := by decide +kernel
set_option maxHeartbeats 4000000 in
set_option maxRecDepth 100000 in
theorem c_Mod_inN (l : Launch) (dC : Nat → ClassId) (dI : Nat → Nat → Nat) (cI cZ : ClassId) (tt sz : Nat) (v : Int32) (lo : Nat) (hi : Nat) (hlo : lo < 2147483648) (hhi : hi < 2147483648) : Met l y_Mod_in w_Mod_in ({ frames := 0, cells := 0, slots := 0, locals := 0 }) (va_Pc [.int v, .int (nI lo), .int (nI hi)] (PW (dC, dI) classes [(cI, .int), (cZ, .boolean)] tt [] sz)) (va_Qi (fun (r : Int32) (u : Unit) => (r = nI (inr v.toInt ((lo : Nat) : Int) ((hi : Nat) : Int)))) (AT (dC, dI) classes [(cI, .int), (cZ, .boolean)] (va_A [] sz) (fun (u : Unit) => [])) (va_A [] sz)) 0 0 (va_A [] sz) := by
  refine Met.ofW (cc := b_Mod_in) (maxL := 3) (ret := (some .boolean)) (by decide) rfl ?_
  intro p e s m args below meth c s₁ B hml hv
  obtain ⟨rfl, hsz, hP, hK, hD0, hE⟩ := hv
  have hx := B.exec
  have hb := B.bytes
  have hr := B.returns
  have hts := atoms_spec (ws := w_Mod_in) B.pre
  have hown : s.vm.findClass R_Mod = some m.cls := findClass_of_methodNamed B.named
  have hlocks := B.notSynchronized
  subst hsz
  have hD := hD0.self (sz := s.heap.size)
  generalize hAe : va_A [] s.heap.size = A at hD hE ⊢
  have hA : ∀ q : Nat, s.heap.size ≤ q → A q := fun q h => by rw [← hAe]; exact Or.inr h
  have hS : va_S A s.heap s.heap [] := va_S.rf
  have hP : va_P (dC, dI) classes [] s.heap := hP
  have hl := lv_entry ([.int v, .int (nI lo), .int (nI hi)]) (n := 3) (Nat.le_of_ble_eq_true rfl)
  rw [lg_entry_eq]
  generalize (lg_sl ([.int v, .int (nI lo), .int (nI hi)]) ++ List.replicate (3 - (lg_sl ([.int v, .int (nI lo), .int (nI hi)])).length) Slot.unset).toArray = ls at hl ⊢
  have hl : lv_has ls 3 [(0, .int v), (1, .int (nI lo)), (2, .int (nI hi))] := hl
  refine lv_iload_n hx hb d_Mod_in_0 rfl (lv_at hl 0 rfl) ?_
  refine lv_iload_n hx hb d_Mod_in_1 rfl (lv_at hl 1 rfl) ?_
  refine lv_icmp_lt (tgt := 14) hx hb d_Mod_in_2 (by decide) (fun c2 => ?_) (fun c2 => ?_)
  · skip
    have c2 : v.toInt < ((lo : Nat) : Int) := (ri_lt rfl (nI_toInt (show _ < 2 ^ 31 by omega))).mp c2
    refine lv_iconst (v := nI 0) hx hb d_Mod_in_14 rfl ?_
    exact W.zret (v := nI 0) (ty := .boolean) hx hb hr (k_narZ (by omega)) (fun t ht hW => ⟨⟨nI 0, (), rfl, (by unfold inr; rw [if_neg (by omega)]), by rw [ht]; exact hP, va_K.moved hW.alike hK, hD⟩, hS.F ht⟩) hS.2.2 d_Mod_in_15
  · skip
    have c2 : ¬ (v.toInt < ((lo : Nat) : Int)) := fun h => c2 ((ri_lt rfl (nI_toInt (show _ < 2 ^ 31 by omega))).mpr h)
    refine lv_iload_n hx hb d_Mod_in_5 rfl (lv_at hl 0 rfl) ?_
    refine lv_iload_n hx hb d_Mod_in_6 rfl (lv_at hl 2 rfl) ?_
    refine lv_icmp_gt (tgt := 14) hx hb d_Mod_in_7 (by decide) (fun c7 => ?_) (fun c7 => ?_)
    · skip
      have c7 : ((hi : Nat) : Int) < v.toInt := (ri_lt (nI_toInt (show _ < 2 ^ 31 by omega)) rfl).mp c7
      refine lv_iconst (v := nI 0) hx hb d_Mod_in_14 rfl ?_
      exact W.zret (v := nI 0) (ty := .boolean) hx hb hr (k_narZ (by omega)) (fun t ht hW => ⟨⟨nI 0, (), rfl, (by unfold inr; rw [if_neg (by omega)]), by rw [ht]; exact hP, va_K.moved hW.alike hK, hD⟩, hS.F ht⟩) hS.2.2 d_Mod_in_15
    · skip
      have c7 : ¬ (((hi : Nat) : Int) < v.toInt) := fun h => c7 ((ri_lt (nI_toInt (show _ < 2 ^ 31 by omega)) rfl).mpr h)
      refine lv_iconst (v := nI 1) hx hb d_Mod_in_10 rfl ?_
      refine lv_goto (tgt := 15) hx hb d_Mod_in_11 (by decide) ?_
      exact W.zret (v := nI 1) (ty := .boolean) hx hb hr (k_narZ (by omega)) (fun t ht hW => ⟨⟨nI 1, (), rfl, (by unfold inr; rw [if_pos (by omega)]), by rw [ht]; exact hP, va_K.moved hW.alike hK, hD⟩, hS.F ht⟩) hS.2.2 d_Mod_in_15
set_option maxHeartbeats 4000000 in
set_option maxRecDepth 100000 in
theorem c_Mod_inR (l : Launch) (dC : Nat → ClassId) (dI : Nat → Nat → Nat) (cI cZ : ClassId) (tt sz : Nat) (v : Int32) (lo : Nat) (hi : Int32) (hlo : lo < 2147483648) : Met l y_Mod_in w_Mod_in ({ frames := 0, cells := 0, slots := 0, locals := 0 }) (va_Pc [.int v, .int (nI lo), .int hi] (PW (dC, dI) classes [(cI, .int), (cZ, .boolean)] tt [] sz)) (va_Qi (fun (r : Int32) (u : Unit) => (r = nI (inr v.toInt ((lo : Nat) : Int) hi.toInt))) (AT (dC, dI) classes [(cI, .int), (cZ, .boolean)] (va_A [] sz) (fun (u : Unit) => [])) (va_A [] sz)) 0 0 (va_A [] sz) := by
  refine Met.ofW (cc := b_Mod_in) (maxL := 3) (ret := (some .boolean)) (by decide) rfl ?_
  intro p e s m args below meth c s₁ B hml hv
  obtain ⟨rfl, hsz, hP, hK, hD0, hE⟩ := hv
  have hx := B.exec
  have hb := B.bytes
  have hr := B.returns
  have hts := atoms_spec (ws := w_Mod_in) B.pre
  have hown : s.vm.findClass R_Mod = some m.cls := findClass_of_methodNamed B.named
  have hlocks := B.notSynchronized
  subst hsz
  have hD := hD0.self (sz := s.heap.size)
  generalize hAe : va_A [] s.heap.size = A at hD hE ⊢
  have hA : ∀ q : Nat, s.heap.size ≤ q → A q := fun q h => by rw [← hAe]; exact Or.inr h
  have hS : va_S A s.heap s.heap [] := va_S.rf
  have hP : va_P (dC, dI) classes [] s.heap := hP
  have hl := lv_entry ([.int v, .int (nI lo), .int hi]) (n := 3) (Nat.le_of_ble_eq_true rfl)
  rw [lg_entry_eq]
  generalize (lg_sl ([.int v, .int (nI lo), .int hi]) ++ List.replicate (3 - (lg_sl ([.int v, .int (nI lo), .int hi])).length) Slot.unset).toArray = ls at hl ⊢
  have hl : lv_has ls 3 [(0, .int v), (1, .int (nI lo)), (2, .int hi)] := hl
  refine lv_iload_n hx hb d_Mod_in_0 rfl (lv_at hl 0 rfl) ?_
  refine lv_iload_n hx hb d_Mod_in_1 rfl (lv_at hl 1 rfl) ?_
  refine lv_icmp_lt (tgt := 14) hx hb d_Mod_in_2 (by decide) (fun c2 => ?_) (fun c2 => ?_)
  · skip
    have c2 : v.toInt < ((lo : Nat) : Int) := (ri_lt rfl (nI_toInt (show _ < 2 ^ 31 by omega))).mp c2
    refine lv_iconst (v := nI 0) hx hb d_Mod_in_14 rfl ?_
    exact W.zret (v := nI 0) (ty := .boolean) hx hb hr (k_narZ (by omega)) (fun t ht hW => ⟨⟨nI 0, (), rfl, (by unfold inr; rw [if_neg (by omega)]), by rw [ht]; exact hP, va_K.moved hW.alike hK, hD⟩, hS.F ht⟩) hS.2.2 d_Mod_in_15
  · skip
    have c2 : ¬ (v.toInt < ((lo : Nat) : Int)) := fun h => c2 ((ri_lt rfl (nI_toInt (show _ < 2 ^ 31 by omega))).mpr h)
    refine lv_iload_n hx hb d_Mod_in_5 rfl (lv_at hl 0 rfl) ?_
    refine lv_iload_n hx hb d_Mod_in_6 rfl (lv_at hl 2 rfl) ?_
    refine lv_icmp_gt (tgt := 14) hx hb d_Mod_in_7 (by decide) (fun c7 => ?_) (fun c7 => ?_)
    · skip
      have c7 : hi.toInt < v.toInt := (ri_lt rfl rfl).mp c7
      refine lv_iconst (v := nI 0) hx hb d_Mod_in_14 rfl ?_
      exact W.zret (v := nI 0) (ty := .boolean) hx hb hr (k_narZ (by omega)) (fun t ht hW => ⟨⟨nI 0, (), rfl, (by unfold inr; rw [if_neg (by omega)]), by rw [ht]; exact hP, va_K.moved hW.alike hK, hD⟩, hS.F ht⟩) hS.2.2 d_Mod_in_15
    · skip
      have c7 : ¬ (hi.toInt < v.toInt) := fun h => c7 ((ri_lt rfl rfl).mpr h)
      refine lv_iconst (v := nI 1) hx hb d_Mod_in_10 rfl ?_
      refine lv_goto (tgt := 15) hx hb d_Mod_in_11 (by decide) ?_
      exact W.zret (v := nI 1) (ty := .boolean) hx hb hr (k_narZ (by omega)) (fun t ht hW => ⟨⟨nI 1, (), rfl, (by unfold inr; rw [if_pos (by omega)]), by rw [ht]; exact hP, va_K.moved hW.alike hK, hD⟩, hS.F ht⟩) hS.2.2 d_Mod_in_15
set_option maxHeartbeats 4000000 in
set_option maxRecDepth 100000 in
theorem c_Mod_is (l : Launch) (dC : Nat → ClassId) (dI : Nat → Nat → Nat) (cI cZ : ClassId) (a_mod a_mkind a_mwidth a_mreset a_mop a_mka a_mkb a_mkc a_mheld a_msort a_mof a_mfrom a_mbit a_mdone a_mrests a_mxx a_myy a_mdepth a_mone a_mbefore a_mfirst a_mturned : Nat) (tt sz : Nat) (mN : Nat) (mMs : Nat) (mG : Nat) (mCk : Nat) (mFw : Int32) (mRd : Nat) (x : Int32) (b_mN : mN ≤ 14) (b_mMs : mMs ≤ 20) (b_mG : mG ≤ 1280) (b_mRd : mRd ≤ 1) : Met l y_Mod_is w_Mod_is ({ frames := 1, cells := 0, slots := 0, locals := 22 }) (va_Pc [.ref a_mod, .int x] (PW (dC, dI) classes [(cI, .int), (cZ, .boolean)] tt [(a_mod, .inr (6, [.ref a_mkind, .ref a_mwidth, .ref a_mreset, .ref a_mop, .ref a_mka, .ref a_mkb, .ref a_mkc, .ref a_mheld, .int (nI mN), .ref a_msort, .ref a_mof, .ref a_mfrom, .int (nI mMs), .ref a_mbit, .ref a_mdone, .ref a_mrests, .ref a_mxx, .ref a_myy, .ref a_mdepth, .ref a_mone, .int (nI mG), .int (nI mCk), .int mFw, .int (nI mRd), .ref a_mbefore, .ref a_mfirst, .ref a_mturned]))] sz)) (va_Qi (fun (r : Int32) (u : Unit) => (r = nI (hs mN x))) (AT (dC, dI) classes [(cI, .int), (cZ, .boolean)] (va_A [(a_mod, .inr (6, [.ref a_mkind, .ref a_mwidth, .ref a_mreset, .ref a_mop, .ref a_mka, .ref a_mkb, .ref a_mkc, .ref a_mheld, .int (nI mN), .ref a_msort, .ref a_mof, .ref a_mfrom, .int (nI mMs), .ref a_mbit, .ref a_mdone, .ref a_mrests, .ref a_mxx, .ref a_myy, .ref a_mdepth, .ref a_mone, .int (nI mG), .int (nI mCk), .int mFw, .int (nI mRd), .ref a_mbefore, .ref a_mfirst, .ref a_mturned]))] sz) (fun (u : Unit) => [(a_mod, .inr (6, [.ref a_mkind, .ref a_mwidth, .ref a_mreset, .ref a_mop, .ref a_mka, .ref a_mkb, .ref a_mkc, .ref a_mheld, .int (nI mN), .ref a_msort, .ref a_mof, .ref a_mfrom, .int (nI mMs), .ref a_mbit, .ref a_mdone, .ref a_mrests, .ref a_mxx, .ref a_myy, .ref a_mdepth, .ref a_mone, .int (nI mG), .int (nI mCk), .int mFw, .int (nI mRd), .ref a_mbefore, .ref a_mfirst, .ref a_mturned]))])) (va_A [(a_mod, .inr (6, [.ref a_mkind, .ref a_mwidth, .ref a_mreset, .ref a_mop, .ref a_mka, .ref a_mkb, .ref a_mkc, .ref a_mheld, .int (nI mN), .ref a_msort, .ref a_mof, .ref a_mfrom, .int (nI mMs), .ref a_mbit, .ref a_mdone, .ref a_mrests, .ref a_mxx, .ref a_myy, .ref a_mdepth, .ref a_mone, .int (nI mG), .int (nI mCk), .int mFw, .int (nI mRd), .ref a_mbefore, .ref a_mfirst, .ref a_mturned]))] sz)) 0 0 (va_A [(a_mod, .inr (6, [.ref a_mkind, .ref a_mwidth, .ref a_mreset, .ref a_mop, .ref a_mka, .ref a_mkb, .ref a_mkc, .ref a_mheld, .int (nI mN), .ref a_msort, .ref a_mof, .ref a_mfrom, .int (nI mMs), .ref a_mbit, .ref a_mdone, .ref a_mrests, .ref a_mxx, .ref a_myy, .ref a_mdepth, .ref a_mone, .int (nI mG), .int (nI mCk), .int mFw, .int (nI mRd), .ref a_mbefore, .ref a_mfirst, .ref a_mturned]))] sz) := by
  refine Met.ofW (cc := b_Mod_is) (maxL := 2) (ret := (some .boolean)) (by decide) rfl ?_
  intro p e s m args below meth c s₁ B hml hv
  obtain ⟨rfl, hsz, hP, hK, hD0, hE⟩ := hv
  have hx := B.exec
  have hb := B.bytes
  have hr := B.returns
  have hts := atoms_spec (ws := w_Mod_is) B.pre
  have hown : s.vm.findClass R_Mod = some m.cls := findClass_of_methodNamed B.named
  have hlocks := B.notSynchronized
  subst hsz
  have hD := hD0.self (sz := s.heap.size)
  generalize hAe : va_A [(a_mod, .inr (6, [.ref a_mkind, .ref a_mwidth, .ref a_mreset, .ref a_mop, .ref a_mka, .ref a_mkb, .ref a_mkc, .ref a_mheld, .int (nI mN), .ref a_msort, .ref a_mof, .ref a_mfrom, .int (nI mMs), .ref a_mbit, .ref a_mdone, .ref a_mrests, .ref a_mxx, .ref a_myy, .ref a_mdepth, .ref a_mone, .int (nI mG), .int (nI mCk), .int mFw, .int (nI mRd), .ref a_mbefore, .ref a_mfirst, .ref a_mturned]))] s.heap.size = A at hD hE ⊢
  have hA : ∀ q : Nat, s.heap.size ≤ q → A q := fun q h => by rw [← hAe]; exact Or.inr h
  have hS : va_S A s.heap s.heap [] := va_S.rf
  have hP : va_P (dC, dI) classes [(a_mod, .inr (6, [.ref a_mkind, .ref a_mwidth, .ref a_mreset, .ref a_mop, .ref a_mka, .ref a_mkb, .ref a_mkc, .ref a_mheld, .int (nI mN), .ref a_msort, .ref a_mof, .ref a_mfrom, .int (nI mMs), .ref a_mbit, .ref a_mdone, .ref a_mrests, .ref a_mxx, .ref a_myy, .ref a_mdepth, .ref a_mone, .int (nI mG), .int (nI mCk), .int mFw, .int (nI mRd), .ref a_mbefore, .ref a_mfirst, .ref a_mturned]))] s.heap := hP
  have hl := lv_entry ([.ref a_mod, .int x]) (n := 2) (Nat.le_of_ble_eq_true rfl)
  rw [lg_entry_eq]
  generalize (lg_sl ([.ref a_mod, .int x]) ++ List.replicate (2 - (lg_sl ([.ref a_mod, .int x])).length) Slot.unset).toArray = ls at hl ⊢
  have hl : lv_has ls 2 [(0, .ref a_mod), (1, .int x)] := hl
  refine lv_iload_n hx hb d_Mod_is_0 rfl (lv_at hl 1 rfl) ?_
  refine lv_iconst (v := nI 0) hx hb d_Mod_is_1 rfl ?_
  refine lv_aload_n hx hb d_Mod_is_2 rfl (lv_at hl 0 rfl) ?_
  refine va_get (D := (dC, dI)) (ci := 6) (v := .int (nI mN)) (C := R_Mod) (T := F_Mod) (N := 27) hx hb hts (wi i_Mod) hown hK hP 0 rfl rfl 8 (by decide) (hts _ (mt 550 rfl rfl)) (fun _ h9 => h9) rfl d_Mod_is_3 ?_
  refine lv_iconst (v := nI 1) hx hb d_Mod_is_6 rfl ?_
  refine lv_isub hx hb d_Mod_is_7 ?_
  refine k_i (wr := [(a_mod, .inr (6, [.ref a_mkind, .ref a_mwidth, .ref a_mreset, .ref a_mop, .ref a_mka, .ref a_mkb, .ref a_mkc, .ref a_mheld, .int (nI mN), .ref a_msort, .ref a_mof, .ref a_mfrom, .int (nI mMs), .ref a_mbit, .ref a_mdone, .ref a_mrests, .ref a_mxx, .ref a_myy, .ref a_mdepth, .ref a_mone, .int (nI mG), .int (nI mCk), .int mFw, .int (nI mRd), .ref a_mbefore, .ref a_mfirst, .ref a_mturned]))]) (w2 := fun (u : Unit) => [(a_mod, .inr (6, [.ref a_mkind, .ref a_mwidth, .ref a_mreset, .ref a_mop, .ref a_mka, .ref a_mkb, .ref a_mkc, .ref a_mheld, .int (nI mN), .ref a_msort, .ref a_mof, .ref a_mfrom, .int (nI mMs), .ref a_mbit, .ref a_mdone, .ref a_mrests, .ref a_mxx, .ref a_myy, .ref a_mdepth, .ref a_mone, .int (nI mG), .int (nI mCk), .int mFw, .int (nI mRd), .ref a_mbefore, .ref a_mfirst, .ref a_mturned]))]) (va_runS (As := [.int x, .int (nI 0), .int ((nI mN) - (nI 1))]) (rest := []) ⟨hx, hb, hml, hown, hts⟩ (c_Mod_inR l dC dI cI cZ  tt s.heap.size  x 0 ((nI mN) - (nI 1)) (by omega)) (va_cwS 3 hts (gd_S in_tl (mw 628 rfl rfl) (mw 629 rfl rfl) (mw 47 rfl rfl) (mw 630 rfl rfl)) rfl rfl rfl (by decide +kernel) ⟨Nat.le_of_ble_eq_true rfl, Nat.le_of_ble_eq_true rfl⟩) (k_preS hK hP hD hS hA hE [] (by decide) rfl) rfl rfl hl.1 rfl (lv_room (Nat.le_of_ble_eq_true rfl)) d_Mod_is_8 ⟨Nat.zero_le _, Nat.zero_le _⟩) hP hD hS hA [] [0] [0] rfl rfl (by decide) (by decide) (by decide) (fun _ => rfl) (fun r_1 u H locs hw hP hD hS => ?_)
  obtain rfl : (r_1 = nI (inr x.toInt ((0 : Nat) : Int) ((nI mN) - (nI 1)).toInt)) := hw
  have hP : va_P (dC, dI) classes [(a_mod, .inr (6, [.ref a_mkind, .ref a_mwidth, .ref a_mreset, .ref a_mop, .ref a_mka, .ref a_mkb, .ref a_mkc, .ref a_mheld, .int (nI mN), .ref a_msort, .ref a_mof, .ref a_mfrom, .int (nI mMs), .ref a_mbit, .ref a_mdone, .ref a_mrests, .ref a_mxx, .ref a_myy, .ref a_mdepth, .ref a_mone, .int (nI mG), .int (nI mCk), .int mFw, .int (nI mRd), .ref a_mbefore, .ref a_mfirst, .ref a_mturned]))] H := hP
  have hD : va_D A [(a_mod, .inr (6, [.ref a_mkind, .ref a_mwidth, .ref a_mreset, .ref a_mop, .ref a_mka, .ref a_mkb, .ref a_mkc, .ref a_mheld, .int (nI mN), .ref a_msort, .ref a_mof, .ref a_mfrom, .int (nI mMs), .ref a_mbit, .ref a_mdone, .ref a_mrests, .ref a_mxx, .ref a_myy, .ref a_mdepth, .ref a_mone, .int (nI mG), .int (nI mCk), .int mFw, .int (nI mRd), .ref a_mbefore, .ref a_mfirst, .ref a_mturned]))] := hD
  exact W.zret (v := nI (inr x.toInt ((0 : Nat) : Int) ((nI mN) - (nI 1)).toInt)) (ty := .boolean) hx hb hr (k_narZ (inr_le _ _ _)) (fun t ht hW => ⟨⟨nI (inr x.toInt ((0 : Nat) : Int) ((nI mN) - (nI 1)).toInt), (), rfl, (by rw [pk_sub_toInt (by omega) (by decide)]; unfold inr hs; split <;> split <;> first | rfl | omega), by rw [ht]; exact hP, va_K.moved hW.alike hK, hD⟩, hS.F ht⟩) hS.2.2 d_Mod_is_11
set_option maxHeartbeats 4000000 in
set_option maxRecDepth 100000 in
theorem c_Mod_more (l : Launch) (dC : Nat → ClassId) (dI : Nat → Nat → Nat) (cI cZ : ClassId) (tt sz : Nat) (v : Nat) (w : Nat) (hv : v < 2147483648) (hw : w < 2147483648) : Met l y_Mod_more w_Mod_more ({ frames := 0, cells := 0, slots := 0, locals := 0 }) (va_Pc [.int (nI v), .int (nI w)] (PW (dC, dI) classes [(cI, .int), (cZ, .boolean)] tt [] sz)) (va_Qi (fun (r : Int32) (u : Unit) => (r = nI (max v w))) (AT (dC, dI) classes [(cI, .int), (cZ, .boolean)] (va_A [] sz) (fun (u : Unit) => [])) (va_A [] sz)) 0 0 (va_A [] sz) := by
  refine Met.ofW (cc := b_Mod_more) (maxL := 2) (ret := (some .int)) (by decide) rfl ?_
  intro p e s m args below meth c s₁ B hml hv
  obtain ⟨rfl, hsz, hP, hK, hD0, hE⟩ := hv
  have hx := B.exec
  have hb := B.bytes
  have hr := B.returns
  have hts := atoms_spec (ws := w_Mod_more) B.pre
  have hown : s.vm.findClass R_Mod = some m.cls := findClass_of_methodNamed B.named
  have hlocks := B.notSynchronized
  subst hsz
  have hD := hD0.self (sz := s.heap.size)
  generalize hAe : va_A [] s.heap.size = A at hD hE ⊢
  have hA : ∀ q : Nat, s.heap.size ≤ q → A q := fun q h => by rw [← hAe]; exact Or.inr h
  have hS : va_S A s.heap s.heap [] := va_S.rf
  have hP : va_P (dC, dI) classes [] s.heap := hP
  have hl := lv_entry ([.int (nI v), .int (nI w)]) (n := 2) (Nat.le_of_ble_eq_true rfl)
  rw [lg_entry_eq]
  generalize (lg_sl ([.int (nI v), .int (nI w)]) ++ List.replicate (2 - (lg_sl ([.int (nI v), .int (nI w)])).length) Slot.unset).toArray = ls at hl ⊢
  have hl : lv_has ls 2 [(0, .int (nI v)), (1, .int (nI w))] := hl
  refine lv_iload_n hx hb d_Mod_more_0 rfl (lv_at hl 0 rfl) ?_
  refine lv_iload_n hx hb d_Mod_more_1 rfl (lv_at hl 1 rfl) ?_
  refine lv_icmp_le (tgt := 9) hx hb d_Mod_more_2 (by decide) (fun c2 => ?_) (fun c2 => ?_)
  · skip
    have c2 : v ≤ w := (nI_leI (by omega) (by omega)).mp c2
    refine lv_iload_n hx hb d_Mod_more_9 rfl (lv_at hl 1 rfl) ?_
    exact W.iret (v := nI w) hx hb hr (fun t ht hW => ⟨⟨nI w, (), rfl, (by rw [Nat.max_eq_right (by omega)]), by rw [ht]; exact hP, va_K.moved hW.alike hK, hD⟩, hS.F ht⟩) hS.2.2 d_Mod_more_10
  · skip
    have c2 : ¬ (v ≤ w) := fun h => c2 ((nI_leI (by omega) (by omega)).mpr h)
    refine lv_iload_n hx hb d_Mod_more_5 rfl (lv_at hl 0 rfl) ?_
    refine lv_goto (tgt := 10) hx hb d_Mod_more_6 (by decide) ?_
    exact W.iret (v := nI v) hx hb hr (fun t ht hW => ⟨⟨nI v, (), rfl, (by rw [Nat.max_eq_left (by omega)]), by rw [ht]; exact hP, va_K.moved hW.alike hK, hD⟩, hS.F ht⟩) hS.2.2 d_Mod_more_10
set_option maxHeartbeats 4000000 in
set_option maxRecDepth 100000 in
theorem c_Mod_make (l : Launch) (dC : Nat → ClassId) (dI : Nat → Nat → Nat) (cI cZ : ClassId) (a_mod a_mkind a_mwidth a_mreset a_mop a_mka a_mkb a_mkc a_mheld a_msort a_mof a_mfrom a_mbit a_mdone a_mrests a_mxx a_myy a_mdepth a_mone a_mbefore a_mfirst a_mturned : Nat) (tt sz : Nat) (mN : Nat) (mMs : Nat) (mG : Nat) (mCk : Nat) (mFw : Int32) (mRd : Nat) (mKd : Nat → Nat) (mWd : Nat → Nat) (mRs : Nat → Nat) (mHd : Nat → Nat) (mOp : Nat → Int32) (k0 : Nat) (w0 : Nat) (b_mN : mN ≤ 14) (b_mMs : mMs ≤ 20) (b_mG : mG ≤ 1280) (b_mRd : mRd ≤ 1) (b_mKd : ∀ j, mKd j < 4) (b_mWd : ∀ j, mWd j < 9) (b_mRs : ∀ j, mRs j < 256) (b_mHd : ∀ j, mHd j < 256) (hn : mN < 14) (hk : k0 < 4) (hw : w0 ≤ 8) : Met l y_Mod_make w_Mod_make ({ frames := 0, cells := 0, slots := 0, locals := 0 }) (va_Pc [.ref a_mod, .int (nI k0), .int (nI w0)] (PW (dC, dI) classes [(cI, .int), (cZ, .boolean)] tt [(a_mod, .inr (6, [.ref a_mkind, .ref a_mwidth, .ref a_mreset, .ref a_mop, .ref a_mka, .ref a_mkb, .ref a_mkc, .ref a_mheld, .int (nI mN), .ref a_msort, .ref a_mof, .ref a_mfrom, .int (nI mMs), .ref a_mbit, .ref a_mdone, .ref a_mrests, .ref a_mxx, .ref a_myy, .ref a_mdepth, .ref a_mone, .int (nI mG), .int (nI mCk), .int mFw, .int (nI mRd), .ref a_mbefore, .ref a_mfirst, .ref a_mturned])), (a_mkind, .inl (cI, 14, .inl (nF mKd))), (a_mwidth, .inl (cI, 14, .inl (nF mWd))), (a_mreset, .inl (cI, 14, .inl (nF mRs))), (a_mheld, .inl (cI, 14, .inl (nF mHd))), (a_mop, .inl (cI, 14, .inl mOp))] sz)) (va_Qi (fun (r : Int32) (u : Unit) => (r = nI mN)) (AT (dC, dI) classes [(cI, .int), (cZ, .boolean)] (va_A [(a_mod, .inr (6, [.ref a_mkind, .ref a_mwidth, .ref a_mreset, .ref a_mop, .ref a_mka, .ref a_mkb, .ref a_mkc, .ref a_mheld, .int (nI mN), .ref a_msort, .ref a_mof, .ref a_mfrom, .int (nI mMs), .ref a_mbit, .ref a_mdone, .ref a_mrests, .ref a_mxx, .ref a_myy, .ref a_mdepth, .ref a_mone, .int (nI mG), .int (nI mCk), .int mFw, .int (nI mRd), .ref a_mbefore, .ref a_mfirst, .ref a_mturned])), (a_mkind, .inl (cI, 14, .inl (nF mKd))), (a_mwidth, .inl (cI, 14, .inl (nF mWd))), (a_mreset, .inl (cI, 14, .inl (nF mRs))), (a_mheld, .inl (cI, 14, .inl (nF mHd))), (a_mop, .inl (cI, 14, .inl mOp))] sz) (fun (u : Unit) => [(a_mod, .inr (6, [.ref a_mkind, .ref a_mwidth, .ref a_mreset, .ref a_mop, .ref a_mka, .ref a_mkb, .ref a_mkc, .ref a_mheld, .int (nI (mN + 1)), .ref a_msort, .ref a_mof, .ref a_mfrom, .int (nI mMs), .ref a_mbit, .ref a_mdone, .ref a_mrests, .ref a_mxx, .ref a_myy, .ref a_mdepth, .ref a_mone, .int (nI mG), .int (nI mCk), .int mFw, .int (nI 0), .ref a_mbefore, .ref a_mfirst, .ref a_mturned])), (a_mkind, .inl (cI, 14, .inl (nF (upN mKd mN k0)))), (a_mwidth, .inl (cI, 14, .inl (nF (upN mWd mN w0)))), (a_mreset, .inl (cI, 14, .inl (nF (upN mRs mN 0)))), (a_mheld, .inl (cI, 14, .inl (nF (upN mHd mN 0)))), (a_mop, .inl (cI, 14, .inl (upd mOp mN (-2 : Int32))))])) (va_A [(a_mod, .inr (6, [.ref a_mkind, .ref a_mwidth, .ref a_mreset, .ref a_mop, .ref a_mka, .ref a_mkb, .ref a_mkc, .ref a_mheld, .int (nI mN), .ref a_msort, .ref a_mof, .ref a_mfrom, .int (nI mMs), .ref a_mbit, .ref a_mdone, .ref a_mrests, .ref a_mxx, .ref a_myy, .ref a_mdepth, .ref a_mone, .int (nI mG), .int (nI mCk), .int mFw, .int (nI mRd), .ref a_mbefore, .ref a_mfirst, .ref a_mturned])), (a_mkind, .inl (cI, 14, .inl (nF mKd))), (a_mwidth, .inl (cI, 14, .inl (nF mWd))), (a_mreset, .inl (cI, 14, .inl (nF mRs))), (a_mheld, .inl (cI, 14, .inl (nF mHd))), (a_mop, .inl (cI, 14, .inl mOp))] sz)) 0 0 (va_A [(a_mod, .inr (6, [.ref a_mkind, .ref a_mwidth, .ref a_mreset, .ref a_mop, .ref a_mka, .ref a_mkb, .ref a_mkc, .ref a_mheld, .int (nI mN), .ref a_msort, .ref a_mof, .ref a_mfrom, .int (nI mMs), .ref a_mbit, .ref a_mdone, .ref a_mrests, .ref a_mxx, .ref a_myy, .ref a_mdepth, .ref a_mone, .int (nI mG), .int (nI mCk), .int mFw, .int (nI mRd), .ref a_mbefore, .ref a_mfirst, .ref a_mturned])), (a_mkind, .inl (cI, 14, .inl (nF mKd))), (a_mwidth, .inl (cI, 14, .inl (nF mWd))), (a_mreset, .inl (cI, 14, .inl (nF mRs))), (a_mheld, .inl (cI, 14, .inl (nF mHd))), (a_mop, .inl (cI, 14, .inl mOp))] sz) := by
  refine Met.ofW (cc := b_Mod_make) (maxL := 3) (ret := (some .int)) (by decide) rfl ?_
  intro p e s m args below meth c s₁ B hml hv
  obtain ⟨rfl, hsz, hP, hK, hD0, hE⟩ := hv
  have hx := B.exec
  have hb := B.bytes
  have hr := B.returns
  have hts := atoms_spec (ws := w_Mod_make) B.pre
  have hown : s.vm.findClass R_Mod = some m.cls := findClass_of_methodNamed B.named
  have hlocks := B.notSynchronized
  subst hsz
  have hD := hD0.self (sz := s.heap.size)
  generalize hAe : va_A [(a_mod, .inr (6, [.ref a_mkind, .ref a_mwidth, .ref a_mreset, .ref a_mop, .ref a_mka, .ref a_mkb, .ref a_mkc, .ref a_mheld, .int (nI mN), .ref a_msort, .ref a_mof, .ref a_mfrom, .int (nI mMs), .ref a_mbit, .ref a_mdone, .ref a_mrests, .ref a_mxx, .ref a_myy, .ref a_mdepth, .ref a_mone, .int (nI mG), .int (nI mCk), .int mFw, .int (nI mRd), .ref a_mbefore, .ref a_mfirst, .ref a_mturned])), (a_mkind, .inl (cI, 14, .inl (nF mKd))), (a_mwidth, .inl (cI, 14, .inl (nF mWd))), (a_mreset, .inl (cI, 14, .inl (nF mRs))), (a_mheld, .inl (cI, 14, .inl (nF mHd))), (a_mop, .inl (cI, 14, .inl mOp))] s.heap.size = A at hD hE ⊢
  have hA : ∀ q : Nat, s.heap.size ≤ q → A q := fun q h => by rw [← hAe]; exact Or.inr h
  have hS : va_S A s.heap s.heap [] := va_S.rf
  have hP : va_P (dC, dI) classes [(a_mod, .inr (6, [.ref a_mkind, .ref a_mwidth, .ref a_mreset, .ref a_mop, .ref a_mka, .ref a_mkb, .ref a_mkc, .ref a_mheld, .int (nI mN), .ref a_msort, .ref a_mof, .ref a_mfrom, .int (nI mMs), .ref a_mbit, .ref a_mdone, .ref a_mrests, .ref a_mxx, .ref a_myy, .ref a_mdepth, .ref a_mone, .int (nI mG), .int (nI mCk), .int mFw, .int (nI mRd), .ref a_mbefore, .ref a_mfirst, .ref a_mturned])), (a_mkind, .inl (cI, 14, .inl (nF mKd))), (a_mwidth, .inl (cI, 14, .inl (nF mWd))), (a_mreset, .inl (cI, 14, .inl (nF mRs))), (a_mheld, .inl (cI, 14, .inl (nF mHd))), (a_mop, .inl (cI, 14, .inl mOp))] s.heap := hP
  have hl := lv_entry ([.ref a_mod, .int (nI k0), .int (nI w0)]) (n := 3) (Nat.le_of_ble_eq_true rfl)
  rw [lg_entry_eq]
  generalize (lg_sl ([.ref a_mod, .int (nI k0), .int (nI w0)]) ++ List.replicate (3 - (lg_sl ([.ref a_mod, .int (nI k0), .int (nI w0)])).length) Slot.unset).toArray = ls at hl ⊢
  have hl : lv_has ls 3 [(0, .ref a_mod), (1, .int (nI k0)), (2, .int (nI w0))] := hl
  refine lv_aload_n hx hb d_Mod_make_0 rfl (lv_at hl 0 rfl) ?_
  refine va_get (D := (dC, dI)) (ci := 6) (v := .ref a_mkind) (C := R_Mod) (T := F_Mod) (N := 27) hx hb hts (wi i_Mod) hown hK hP 0 rfl rfl 0 (by decide) (hts _ (mt 542 rfl rfl)) (fun _ h9 => h9) rfl d_Mod_make_1 ?_
  refine lv_aload_n hx hb d_Mod_make_4 rfl (lv_at hl 0 rfl) ?_
  refine va_get (D := (dC, dI)) (ci := 6) (v := .int (nI mN)) (C := R_Mod) (T := F_Mod) (N := 27) hx hb hts (wi i_Mod) hown hK hP 0 rfl rfl 8 (by decide) (hts _ (mt 550 rfl rfl)) (fun _ h9 => h9) rfl d_Mod_make_5 ?_
  refine lv_iload_n hx hb d_Mod_make_8 rfl (lv_at hl 1 rfl) ?_
  refine k_ist hx hb hK hP hD hS 1 0 rfl rfl (by omega) (by decide) d_Mod_make_9 (fun H locs hP hD hS => ?_)
  have bb_1 : ∀ j, upN mKd mN k0 j < 4 := upN_lt b_mKd (by omega)
  have hP : va_P (dC, dI) classes [(a_mod, .inr (6, [.ref a_mkind, .ref a_mwidth, .ref a_mreset, .ref a_mop, .ref a_mka, .ref a_mkb, .ref a_mkc, .ref a_mheld, .int (nI mN), .ref a_msort, .ref a_mof, .ref a_mfrom, .int (nI mMs), .ref a_mbit, .ref a_mdone, .ref a_mrests, .ref a_mxx, .ref a_myy, .ref a_mdepth, .ref a_mone, .int (nI mG), .int (nI mCk), .int mFw, .int (nI mRd), .ref a_mbefore, .ref a_mfirst, .ref a_mturned])), (a_mkind, .inl (cI, 14, .inl (nF (upN mKd mN k0)))), (a_mwidth, .inl (cI, 14, .inl (nF mWd))), (a_mreset, .inl (cI, 14, .inl (nF mRs))), (a_mheld, .inl (cI, 14, .inl (nF mHd))), (a_mop, .inl (cI, 14, .inl mOp))] H := hP
  have hD : va_D A [(a_mod, .inr (6, [.ref a_mkind, .ref a_mwidth, .ref a_mreset, .ref a_mop, .ref a_mka, .ref a_mkb, .ref a_mkc, .ref a_mheld, .int (nI mN), .ref a_msort, .ref a_mof, .ref a_mfrom, .int (nI mMs), .ref a_mbit, .ref a_mdone, .ref a_mrests, .ref a_mxx, .ref a_myy, .ref a_mdepth, .ref a_mone, .int (nI mG), .int (nI mCk), .int mFw, .int (nI mRd), .ref a_mbefore, .ref a_mfirst, .ref a_mturned])), (a_mkind, .inl (cI, 14, .inl (nF (upN mKd mN k0)))), (a_mwidth, .inl (cI, 14, .inl (nF mWd))), (a_mreset, .inl (cI, 14, .inl (nF mRs))), (a_mheld, .inl (cI, 14, .inl (nF mHd))), (a_mop, .inl (cI, 14, .inl mOp))] := hD
  refine lv_aload_n hx hb d_Mod_make_10 rfl (lv_at hl 0 rfl) ?_
  refine va_get (D := (dC, dI)) (ci := 6) (v := .ref a_mwidth) (C := R_Mod) (T := F_Mod) (N := 27) hx hb hts (wi i_Mod) hown hK hP 0 rfl rfl 1 (by decide) (hts _ (mt 543 rfl rfl)) (fun _ h9 => h9) rfl d_Mod_make_11 ?_
  refine lv_aload_n hx hb d_Mod_make_14 rfl (lv_at hl 0 rfl) ?_
  refine va_get (D := (dC, dI)) (ci := 6) (v := .int (nI mN)) (C := R_Mod) (T := F_Mod) (N := 27) hx hb hts (wi i_Mod) hown hK hP 0 rfl rfl 8 (by decide) (hts _ (mt 550 rfl rfl)) (fun _ h9 => h9) rfl d_Mod_make_15 ?_
  refine lv_iload_n hx hb d_Mod_make_18 rfl (lv_at hl 2 rfl) ?_
  refine k_ist hx hb hK hP hD hS 2 0 rfl rfl (by omega) (by decide) d_Mod_make_19 (fun H locs hP hD hS => ?_)
  have bb_2 : ∀ j, upN mWd mN w0 j < 9 := upN_lt b_mWd (by omega)
  have hP : va_P (dC, dI) classes [(a_mod, .inr (6, [.ref a_mkind, .ref a_mwidth, .ref a_mreset, .ref a_mop, .ref a_mka, .ref a_mkb, .ref a_mkc, .ref a_mheld, .int (nI mN), .ref a_msort, .ref a_mof, .ref a_mfrom, .int (nI mMs), .ref a_mbit, .ref a_mdone, .ref a_mrests, .ref a_mxx, .ref a_myy, .ref a_mdepth, .ref a_mone, .int (nI mG), .int (nI mCk), .int mFw, .int (nI mRd), .ref a_mbefore, .ref a_mfirst, .ref a_mturned])), (a_mkind, .inl (cI, 14, .inl (nF (upN mKd mN k0)))), (a_mwidth, .inl (cI, 14, .inl (nF (upN mWd mN w0)))), (a_mreset, .inl (cI, 14, .inl (nF mRs))), (a_mheld, .inl (cI, 14, .inl (nF mHd))), (a_mop, .inl (cI, 14, .inl mOp))] H := hP
  have hD : va_D A [(a_mod, .inr (6, [.ref a_mkind, .ref a_mwidth, .ref a_mreset, .ref a_mop, .ref a_mka, .ref a_mkb, .ref a_mkc, .ref a_mheld, .int (nI mN), .ref a_msort, .ref a_mof, .ref a_mfrom, .int (nI mMs), .ref a_mbit, .ref a_mdone, .ref a_mrests, .ref a_mxx, .ref a_myy, .ref a_mdepth, .ref a_mone, .int (nI mG), .int (nI mCk), .int mFw, .int (nI mRd), .ref a_mbefore, .ref a_mfirst, .ref a_mturned])), (a_mkind, .inl (cI, 14, .inl (nF (upN mKd mN k0)))), (a_mwidth, .inl (cI, 14, .inl (nF (upN mWd mN w0)))), (a_mreset, .inl (cI, 14, .inl (nF mRs))), (a_mheld, .inl (cI, 14, .inl (nF mHd))), (a_mop, .inl (cI, 14, .inl mOp))] := hD
  refine lv_aload_n hx hb d_Mod_make_20 rfl (lv_at hl 0 rfl) ?_
  refine va_get (D := (dC, dI)) (ci := 6) (v := .ref a_mreset) (C := R_Mod) (T := F_Mod) (N := 27) hx hb hts (wi i_Mod) hown hK hP 0 rfl rfl 2 (by decide) (hts _ (mt 544 rfl rfl)) (fun _ h9 => h9) rfl d_Mod_make_21 ?_
  refine lv_aload_n hx hb d_Mod_make_24 rfl (lv_at hl 0 rfl) ?_
  refine va_get (D := (dC, dI)) (ci := 6) (v := .int (nI mN)) (C := R_Mod) (T := F_Mod) (N := 27) hx hb hts (wi i_Mod) hown hK hP 0 rfl rfl 8 (by decide) (hts _ (mt 550 rfl rfl)) (fun _ h9 => h9) rfl d_Mod_make_25 ?_
  refine lv_iconst (v := nI 0) hx hb d_Mod_make_28 rfl ?_
  refine k_ist hx hb hK hP hD hS 3 0 rfl rfl (by omega) (by decide) d_Mod_make_29 (fun H locs hP hD hS => ?_)
  have bb_3 : ∀ j, upN mRs mN 0 j < 256 := upN_lt b_mRs (by omega)
  have hP : va_P (dC, dI) classes [(a_mod, .inr (6, [.ref a_mkind, .ref a_mwidth, .ref a_mreset, .ref a_mop, .ref a_mka, .ref a_mkb, .ref a_mkc, .ref a_mheld, .int (nI mN), .ref a_msort, .ref a_mof, .ref a_mfrom, .int (nI mMs), .ref a_mbit, .ref a_mdone, .ref a_mrests, .ref a_mxx, .ref a_myy, .ref a_mdepth, .ref a_mone, .int (nI mG), .int (nI mCk), .int mFw, .int (nI mRd), .ref a_mbefore, .ref a_mfirst, .ref a_mturned])), (a_mkind, .inl (cI, 14, .inl (nF (upN mKd mN k0)))), (a_mwidth, .inl (cI, 14, .inl (nF (upN mWd mN w0)))), (a_mreset, .inl (cI, 14, .inl (nF (upN mRs mN 0)))), (a_mheld, .inl (cI, 14, .inl (nF mHd))), (a_mop, .inl (cI, 14, .inl mOp))] H := hP
  have hD : va_D A [(a_mod, .inr (6, [.ref a_mkind, .ref a_mwidth, .ref a_mreset, .ref a_mop, .ref a_mka, .ref a_mkb, .ref a_mkc, .ref a_mheld, .int (nI mN), .ref a_msort, .ref a_mof, .ref a_mfrom, .int (nI mMs), .ref a_mbit, .ref a_mdone, .ref a_mrests, .ref a_mxx, .ref a_myy, .ref a_mdepth, .ref a_mone, .int (nI mG), .int (nI mCk), .int mFw, .int (nI mRd), .ref a_mbefore, .ref a_mfirst, .ref a_mturned])), (a_mkind, .inl (cI, 14, .inl (nF (upN mKd mN k0)))), (a_mwidth, .inl (cI, 14, .inl (nF (upN mWd mN w0)))), (a_mreset, .inl (cI, 14, .inl (nF (upN mRs mN 0)))), (a_mheld, .inl (cI, 14, .inl (nF mHd))), (a_mop, .inl (cI, 14, .inl mOp))] := hD
  refine lv_aload_n hx hb d_Mod_make_30 rfl (lv_at hl 0 rfl) ?_
  refine va_get (D := (dC, dI)) (ci := 6) (v := .ref a_mheld) (C := R_Mod) (T := F_Mod) (N := 27) hx hb hts (wi i_Mod) hown hK hP 0 rfl rfl 7 (by decide) (hts _ (mt 549 rfl rfl)) (fun _ h9 => h9) rfl d_Mod_make_31 ?_
  refine lv_aload_n hx hb d_Mod_make_34 rfl (lv_at hl 0 rfl) ?_
  refine va_get (D := (dC, dI)) (ci := 6) (v := .int (nI mN)) (C := R_Mod) (T := F_Mod) (N := 27) hx hb hts (wi i_Mod) hown hK hP 0 rfl rfl 8 (by decide) (hts _ (mt 550 rfl rfl)) (fun _ h9 => h9) rfl d_Mod_make_35 ?_
  refine lv_iconst (v := nI 0) hx hb d_Mod_make_38 rfl ?_
  refine k_ist hx hb hK hP hD hS 4 0 rfl rfl (by omega) (by decide) d_Mod_make_39 (fun H locs hP hD hS => ?_)
  have bb_4 : ∀ j, upN mHd mN 0 j < 256 := upN_lt b_mHd (by omega)
  have hP : va_P (dC, dI) classes [(a_mod, .inr (6, [.ref a_mkind, .ref a_mwidth, .ref a_mreset, .ref a_mop, .ref a_mka, .ref a_mkb, .ref a_mkc, .ref a_mheld, .int (nI mN), .ref a_msort, .ref a_mof, .ref a_mfrom, .int (nI mMs), .ref a_mbit, .ref a_mdone, .ref a_mrests, .ref a_mxx, .ref a_myy, .ref a_mdepth, .ref a_mone, .int (nI mG), .int (nI mCk), .int mFw, .int (nI mRd), .ref a_mbefore, .ref a_mfirst, .ref a_mturned])), (a_mkind, .inl (cI, 14, .inl (nF (upN mKd mN k0)))), (a_mwidth, .inl (cI, 14, .inl (nF (upN mWd mN w0)))), (a_mreset, .inl (cI, 14, .inl (nF (upN mRs mN 0)))), (a_mheld, .inl (cI, 14, .inl (nF (upN mHd mN 0)))), (a_mop, .inl (cI, 14, .inl mOp))] H := hP
  have hD : va_D A [(a_mod, .inr (6, [.ref a_mkind, .ref a_mwidth, .ref a_mreset, .ref a_mop, .ref a_mka, .ref a_mkb, .ref a_mkc, .ref a_mheld, .int (nI mN), .ref a_msort, .ref a_mof, .ref a_mfrom, .int (nI mMs), .ref a_mbit, .ref a_mdone, .ref a_mrests, .ref a_mxx, .ref a_myy, .ref a_mdepth, .ref a_mone, .int (nI mG), .int (nI mCk), .int mFw, .int (nI mRd), .ref a_mbefore, .ref a_mfirst, .ref a_mturned])), (a_mkind, .inl (cI, 14, .inl (nF (upN mKd mN k0)))), (a_mwidth, .inl (cI, 14, .inl (nF (upN mWd mN w0)))), (a_mreset, .inl (cI, 14, .inl (nF (upN mRs mN 0)))), (a_mheld, .inl (cI, 14, .inl (nF (upN mHd mN 0)))), (a_mop, .inl (cI, 14, .inl mOp))] := hD
  refine lv_aload_n hx hb d_Mod_make_40 rfl (lv_at hl 0 rfl) ?_
  refine va_get (D := (dC, dI)) (ci := 6) (v := .ref a_mop) (C := R_Mod) (T := F_Mod) (N := 27) hx hb hts (wi i_Mod) hown hK hP 0 rfl rfl 3 (by decide) (hts _ (mt 545 rfl rfl)) (fun _ h9 => h9) rfl d_Mod_make_41 ?_
  refine lv_aload_n hx hb d_Mod_make_44 rfl (lv_at hl 0 rfl) ?_
  refine va_get (D := (dC, dI)) (ci := 6) (v := .int (nI mN)) (C := R_Mod) (T := F_Mod) (N := 27) hx hb hts (wi i_Mod) hown hK hP 0 rfl rfl 8 (by decide) (hts _ (mt 550 rfl rfl)) (fun _ h9 => h9) rfl d_Mod_make_45 ?_
  refine lv_bipush (v := (-2 : Int32)) hx hb d_Mod_make_48 rfl ?_
  refine k_rst hx hb hK hP hD hS 5 0 rfl rfl (by omega) (by decide) d_Mod_make_50 (fun H locs hP hD hS => ?_)
  have hP : va_P (dC, dI) classes [(a_mod, .inr (6, [.ref a_mkind, .ref a_mwidth, .ref a_mreset, .ref a_mop, .ref a_mka, .ref a_mkb, .ref a_mkc, .ref a_mheld, .int (nI mN), .ref a_msort, .ref a_mof, .ref a_mfrom, .int (nI mMs), .ref a_mbit, .ref a_mdone, .ref a_mrests, .ref a_mxx, .ref a_myy, .ref a_mdepth, .ref a_mone, .int (nI mG), .int (nI mCk), .int mFw, .int (nI mRd), .ref a_mbefore, .ref a_mfirst, .ref a_mturned])), (a_mkind, .inl (cI, 14, .inl (nF (upN mKd mN k0)))), (a_mwidth, .inl (cI, 14, .inl (nF (upN mWd mN w0)))), (a_mreset, .inl (cI, 14, .inl (nF (upN mRs mN 0)))), (a_mheld, .inl (cI, 14, .inl (nF (upN mHd mN 0)))), (a_mop, .inl (cI, 14, .inl (upd mOp mN (-2 : Int32))))] H := hP
  have hD : va_D A [(a_mod, .inr (6, [.ref a_mkind, .ref a_mwidth, .ref a_mreset, .ref a_mop, .ref a_mka, .ref a_mkb, .ref a_mkc, .ref a_mheld, .int (nI mN), .ref a_msort, .ref a_mof, .ref a_mfrom, .int (nI mMs), .ref a_mbit, .ref a_mdone, .ref a_mrests, .ref a_mxx, .ref a_myy, .ref a_mdepth, .ref a_mone, .int (nI mG), .int (nI mCk), .int mFw, .int (nI mRd), .ref a_mbefore, .ref a_mfirst, .ref a_mturned])), (a_mkind, .inl (cI, 14, .inl (nF (upN mKd mN k0)))), (a_mwidth, .inl (cI, 14, .inl (nF (upN mWd mN w0)))), (a_mreset, .inl (cI, 14, .inl (nF (upN mRs mN 0)))), (a_mheld, .inl (cI, 14, .inl (nF (upN mHd mN 0)))), (a_mop, .inl (cI, 14, .inl (upd mOp mN (-2 : Int32))))] := hD
  refine lv_aload_n hx hb d_Mod_make_51 rfl (lv_at hl 0 rfl) ?_
  refine lv_iconst (v := nI 0) hx hb d_Mod_make_52 rfl ?_
  refine va_put (D := (dC, dI)) (ci := 6) (v := .int (nI 0)) (ty := .boolean) (C := R_Mod) (T := F_Mod) (N := 27) hx hb hts (wi i_Mod) t_Mod t_Mod_ok n_Mod hown hK hP hD hS 0 rfl rfl 23 (by decide) (hts _ (mt 565 rfl rfl)) (fun _ h9 => h9) rfl (by decide +kernel) (k_narZ (by omega)) (k_fitZ (by omega)) (Nat.le_of_ble_eq_true rfl) d_Mod_make_53 (fun H locs hP hD hS => ?_)
  have hP : va_P (dC, dI) classes [(a_mod, .inr (6, [.ref a_mkind, .ref a_mwidth, .ref a_mreset, .ref a_mop, .ref a_mka, .ref a_mkb, .ref a_mkc, .ref a_mheld, .int (nI mN), .ref a_msort, .ref a_mof, .ref a_mfrom, .int (nI mMs), .ref a_mbit, .ref a_mdone, .ref a_mrests, .ref a_mxx, .ref a_myy, .ref a_mdepth, .ref a_mone, .int (nI mG), .int (nI mCk), .int mFw, .int (nI 0), .ref a_mbefore, .ref a_mfirst, .ref a_mturned])), (a_mkind, .inl (cI, 14, .inl (nF (upN mKd mN k0)))), (a_mwidth, .inl (cI, 14, .inl (nF (upN mWd mN w0)))), (a_mreset, .inl (cI, 14, .inl (nF (upN mRs mN 0)))), (a_mheld, .inl (cI, 14, .inl (nF (upN mHd mN 0)))), (a_mop, .inl (cI, 14, .inl (upd mOp mN (-2 : Int32))))] H := hP
  have hD : va_D A [(a_mod, .inr (6, [.ref a_mkind, .ref a_mwidth, .ref a_mreset, .ref a_mop, .ref a_mka, .ref a_mkb, .ref a_mkc, .ref a_mheld, .int (nI mN), .ref a_msort, .ref a_mof, .ref a_mfrom, .int (nI mMs), .ref a_mbit, .ref a_mdone, .ref a_mrests, .ref a_mxx, .ref a_myy, .ref a_mdepth, .ref a_mone, .int (nI mG), .int (nI mCk), .int mFw, .int (nI 0), .ref a_mbefore, .ref a_mfirst, .ref a_mturned])), (a_mkind, .inl (cI, 14, .inl (nF (upN mKd mN k0)))), (a_mwidth, .inl (cI, 14, .inl (nF (upN mWd mN w0)))), (a_mreset, .inl (cI, 14, .inl (nF (upN mRs mN 0)))), (a_mheld, .inl (cI, 14, .inl (nF (upN mHd mN 0)))), (a_mop, .inl (cI, 14, .inl (upd mOp mN (-2 : Int32))))] := hD
  refine lv_aload_n hx hb d_Mod_make_56 rfl (lv_at hl 0 rfl) ?_
  refine lv_dup hx hb d_Mod_make_57 rfl ?_
  refine va_get (D := (dC, dI)) (ci := 6) (v := .int (nI mN)) (C := R_Mod) (T := F_Mod) (N := 27) hx hb hts (wi i_Mod) hown hK hP 0 rfl rfl 8 (by decide) (hts _ (mt 550 rfl rfl)) (fun _ h9 => h9) rfl d_Mod_make_58 ?_
  refine lv_iconst (v := nI 1) hx hb d_Mod_make_61 rfl ?_
  refine lv_iadd hx hb d_Mod_make_62 ?_
  refine k_top (nI_add _ _) ?_
  refine va_put (D := (dC, dI)) (ci := 6) (v := .int (nI (mN + 1))) (ty := .int) (C := R_Mod) (T := F_Mod) (N := 27) hx hb hts (wi i_Mod) t_Mod t_Mod_ok n_Mod hown hK hP hD hS 0 rfl rfl 8 (by decide) (hts _ (mt 550 rfl rfl)) (fun _ h9 => h9) rfl (by decide +kernel) rfl rfl (Nat.le_of_ble_eq_true rfl) d_Mod_make_63 (fun H locs hP hD hS => ?_)
  have hP : va_P (dC, dI) classes [(a_mod, .inr (6, [.ref a_mkind, .ref a_mwidth, .ref a_mreset, .ref a_mop, .ref a_mka, .ref a_mkb, .ref a_mkc, .ref a_mheld, .int (nI (mN + 1)), .ref a_msort, .ref a_mof, .ref a_mfrom, .int (nI mMs), .ref a_mbit, .ref a_mdone, .ref a_mrests, .ref a_mxx, .ref a_myy, .ref a_mdepth, .ref a_mone, .int (nI mG), .int (nI mCk), .int mFw, .int (nI 0), .ref a_mbefore, .ref a_mfirst, .ref a_mturned])), (a_mkind, .inl (cI, 14, .inl (nF (upN mKd mN k0)))), (a_mwidth, .inl (cI, 14, .inl (nF (upN mWd mN w0)))), (a_mreset, .inl (cI, 14, .inl (nF (upN mRs mN 0)))), (a_mheld, .inl (cI, 14, .inl (nF (upN mHd mN 0)))), (a_mop, .inl (cI, 14, .inl (upd mOp mN (-2 : Int32))))] H := hP
  have hD : va_D A [(a_mod, .inr (6, [.ref a_mkind, .ref a_mwidth, .ref a_mreset, .ref a_mop, .ref a_mka, .ref a_mkb, .ref a_mkc, .ref a_mheld, .int (nI (mN + 1)), .ref a_msort, .ref a_mof, .ref a_mfrom, .int (nI mMs), .ref a_mbit, .ref a_mdone, .ref a_mrests, .ref a_mxx, .ref a_myy, .ref a_mdepth, .ref a_mone, .int (nI mG), .int (nI mCk), .int mFw, .int (nI 0), .ref a_mbefore, .ref a_mfirst, .ref a_mturned])), (a_mkind, .inl (cI, 14, .inl (nF (upN mKd mN k0)))), (a_mwidth, .inl (cI, 14, .inl (nF (upN mWd mN w0)))), (a_mreset, .inl (cI, 14, .inl (nF (upN mRs mN 0)))), (a_mheld, .inl (cI, 14, .inl (nF (upN mHd mN 0)))), (a_mop, .inl (cI, 14, .inl (upd mOp mN (-2 : Int32))))] := hD
  refine lv_aload_n hx hb d_Mod_make_66 rfl (lv_at hl 0 rfl) ?_
  refine va_get (D := (dC, dI)) (ci := 6) (v := .int (nI (mN + 1))) (C := R_Mod) (T := F_Mod) (N := 27) hx hb hts (wi i_Mod) hown hK hP 0 rfl rfl 8 (by decide) (hts _ (mt 550 rfl rfl)) (fun _ h9 => h9) rfl d_Mod_make_67 ?_
  refine lv_iconst (v := nI 1) hx hb d_Mod_make_70 rfl ?_
  refine lv_isub hx hb d_Mod_make_71 ?_
  refine k_top (pk_sub (by omega)) ?_
  exact W.iret (v := nI ((mN + 1) - 1)) hx hb hr (fun t ht hW => ⟨⟨nI ((mN + 1) - 1), (), rfl, (by rw [Nat.add_sub_cancel]), by rw [ht]; exact hP, va_K.moved hW.alike hK, hD⟩, hS.F ht⟩) hS.2.2 d_Mod_make_72
set_option maxHeartbeats 4000000 in
set_option maxRecDepth 100000 in
theorem c_Mod_signal (l : Launch) (dC : Nat → ClassId) (dI : Nat → Nat → Nat) (cI cZ : ClassId) (a_mod a_mkind a_mwidth a_mreset a_mop a_mka a_mkb a_mkc a_mheld a_msort a_mof a_mfrom a_mbit a_mdone a_mrests a_mxx a_myy a_mdepth a_mone a_mbefore a_mfirst a_mturned : Nat) (tt sz : Nat) (mN : Nat) (mMs : Nat) (mG : Nat) (mCk : Nat) (mFw : Int32) (mRd : Nat) (mKd : Nat → Nat) (mWd : Nat → Nat) (mRs : Nat → Nat) (mHd : Nat → Nat) (mOp : Nat → Int32) (x : Int32) (w0 : Int32) (y : Int32) (b_mN : mN ≤ 14) (b_mMs : mMs ≤ 20) (b_mG : mG ≤ 1280) (b_mRd : mRd ≤ 1) (b_mKd : ∀ j, mKd j < 4) (b_mWd : ∀ j, mWd j < 9) (b_mRs : ∀ j, mRs j < 256) (b_mHd : ∀ j, mHd j < 256) : Met l y_Mod_signal w_Mod_signal ({ frames := 1, cells := 0, slots := 0, locals := 22 }) (va_Pc [.ref a_mod, .int x, .int w0, .int y] (PW (dC, dI) classes [(cI, .int), (cZ, .boolean)] tt [(a_mod, .inr (6, [.ref a_mkind, .ref a_mwidth, .ref a_mreset, .ref a_mop, .ref a_mka, .ref a_mkb, .ref a_mkc, .ref a_mheld, .int (nI mN), .ref a_msort, .ref a_mof, .ref a_mfrom, .int (nI mMs), .ref a_mbit, .ref a_mdone, .ref a_mrests, .ref a_mxx, .ref a_myy, .ref a_mdepth, .ref a_mone, .int (nI mG), .int (nI mCk), .int mFw, .int (nI mRd), .ref a_mbefore, .ref a_mfirst, .ref a_mturned])), (a_mkind, .inl (cI, 14, .inl (nF mKd))), (a_mwidth, .inl (cI, 14, .inl (nF mWd))), (a_mreset, .inl (cI, 14, .inl (nF mRs))), (a_mheld, .inl (cI, 14, .inl (nF mHd))), (a_mop, .inl (cI, 14, .inl mOp))] sz)) (va_Qi (fun (r : Int32) (u : Nat × (Nat → Nat) × (Nat → Nat) × (Nat → Nat) × (Nat → Nat) × (Nat → Int32) × Nat) => (u.1 ≤ 14) ∧ (∀ j, u.2.1 j < 4) ∧ (∀ j, u.2.2.1 j < 9) ∧ (∀ j, u.2.2.2.1 j < 256) ∧ (∀ j, u.2.2.2.2.1 j < 256) ∧ (u.2.2.2.2.2.2 ≤ 1) ∧ ((¬ sgOK x w0 y ∧ (-1) = r ∧ mN = u.1 ∧ mKd = u.2.1 ∧ mWd = u.2.2.1 ∧ mRs = u.2.2.2.1 ∧ mHd = u.2.2.2.2.1 ∧ mOp = u.2.2.2.2.2.1 ∧ mRd = u.2.2.2.2.2.2) ∨ (sgOK x w0 y ∧ mN = 14 ∧ (-3) = r ∧ mN = u.1 ∧ mKd = u.2.1 ∧ mWd = u.2.2.1 ∧ mRs = u.2.2.2.1 ∧ mHd = u.2.2.2.2.1 ∧ mOp = u.2.2.2.2.2.1 ∧ mRd = u.2.2.2.2.2.2) ∨ (sgOK x w0 y ∧ mN < 14 ∧ nI mN = r ∧ mN + 1 = u.1 ∧ upN mKd mN (ix x) = u.2.1 ∧ upN mWd mN (ix w0) = u.2.2.1 ∧ upN mRs mN (if x.toInt = 2 then lowb y (ix w0) else 0) = u.2.2.2.1 ∧ upN mHd mN 0 = u.2.2.2.2.1 ∧ upd mOp mN (-2) = u.2.2.2.2.2.1 ∧ 0 = u.2.2.2.2.2.2))) (AT (dC, dI) classes [(cI, .int), (cZ, .boolean)] (va_A [(a_mod, .inr (6, [.ref a_mkind, .ref a_mwidth, .ref a_mreset, .ref a_mop, .ref a_mka, .ref a_mkb, .ref a_mkc, .ref a_mheld, .int (nI mN), .ref a_msort, .ref a_mof, .ref a_mfrom, .int (nI mMs), .ref a_mbit, .ref a_mdone, .ref a_mrests, .ref a_mxx, .ref a_myy, .ref a_mdepth, .ref a_mone, .int (nI mG), .int (nI mCk), .int mFw, .int (nI mRd), .ref a_mbefore, .ref a_mfirst, .ref a_mturned])), (a_mkind, .inl (cI, 14, .inl (nF mKd))), (a_mwidth, .inl (cI, 14, .inl (nF mWd))), (a_mreset, .inl (cI, 14, .inl (nF mRs))), (a_mheld, .inl (cI, 14, .inl (nF mHd))), (a_mop, .inl (cI, 14, .inl mOp))] sz) (fun (u : Nat × (Nat → Nat) × (Nat → Nat) × (Nat → Nat) × (Nat → Nat) × (Nat → Int32) × Nat) => [(a_mod, .inr (6, [.ref a_mkind, .ref a_mwidth, .ref a_mreset, .ref a_mop, .ref a_mka, .ref a_mkb, .ref a_mkc, .ref a_mheld, .int (nI u.1), .ref a_msort, .ref a_mof, .ref a_mfrom, .int (nI mMs), .ref a_mbit, .ref a_mdone, .ref a_mrests, .ref a_mxx, .ref a_myy, .ref a_mdepth, .ref a_mone, .int (nI mG), .int (nI mCk), .int mFw, .int (nI u.2.2.2.2.2.2), .ref a_mbefore, .ref a_mfirst, .ref a_mturned])), (a_mkind, .inl (cI, 14, .inl (nF u.2.1))), (a_mwidth, .inl (cI, 14, .inl (nF u.2.2.1))), (a_mreset, .inl (cI, 14, .inl (nF u.2.2.2.1))), (a_mheld, .inl (cI, 14, .inl (nF u.2.2.2.2.1))), (a_mop, .inl (cI, 14, .inl u.2.2.2.2.2.1))])) (va_A [(a_mod, .inr (6, [.ref a_mkind, .ref a_mwidth, .ref a_mreset, .ref a_mop, .ref a_mka, .ref a_mkb, .ref a_mkc, .ref a_mheld, .int (nI mN), .ref a_msort, .ref a_mof, .ref a_mfrom, .int (nI mMs), .ref a_mbit, .ref a_mdone, .ref a_mrests, .ref a_mxx, .ref a_myy, .ref a_mdepth, .ref a_mone, .int (nI mG), .int (nI mCk), .int mFw, .int (nI mRd), .ref a_mbefore, .ref a_mfirst, .ref a_mturned])), (a_mkind, .inl (cI, 14, .inl (nF mKd))), (a_mwidth, .inl (cI, 14, .inl (nF mWd))), (a_mreset, .inl (cI, 14, .inl (nF mRs))), (a_mheld, .inl (cI, 14, .inl (nF mHd))), (a_mop, .inl (cI, 14, .inl mOp))] sz)) 0 0 (va_A [(a_mod, .inr (6, [.ref a_mkind, .ref a_mwidth, .ref a_mreset, .ref a_mop, .ref a_mka, .ref a_mkb, .ref a_mkc, .ref a_mheld, .int (nI mN), .ref a_msort, .ref a_mof, .ref a_mfrom, .int (nI mMs), .ref a_mbit, .ref a_mdone, .ref a_mrests, .ref a_mxx, .ref a_myy, .ref a_mdepth, .ref a_mone, .int (nI mG), .int (nI mCk), .int mFw, .int (nI mRd), .ref a_mbefore, .ref a_mfirst, .ref a_mturned])), (a_mkind, .inl (cI, 14, .inl (nF mKd))), (a_mwidth, .inl (cI, 14, .inl (nF mWd))), (a_mreset, .inl (cI, 14, .inl (nF mRs))), (a_mheld, .inl (cI, 14, .inl (nF mHd))), (a_mop, .inl (cI, 14, .inl mOp))] sz) := by
  refine Met.ofW (cc := b_Mod_signal) (maxL := 5) (ret := (some .int)) (by decide) rfl ?_
  intro p e s m args below meth c s₁ B hml hv
  obtain ⟨rfl, hsz, hP, hK, hD0, hE⟩ := hv
  have hx := B.exec
  have hb := B.bytes
  have hr := B.returns
  have hts := atoms_spec (ws := w_Mod_signal) B.pre
  have hown : s.vm.findClass R_Mod = some m.cls := findClass_of_methodNamed B.named
  have hlocks := B.notSynchronized
  subst hsz
  have hD := hD0.self (sz := s.heap.size)
  generalize hAe : va_A [(a_mod, .inr (6, [.ref a_mkind, .ref a_mwidth, .ref a_mreset, .ref a_mop, .ref a_mka, .ref a_mkb, .ref a_mkc, .ref a_mheld, .int (nI mN), .ref a_msort, .ref a_mof, .ref a_mfrom, .int (nI mMs), .ref a_mbit, .ref a_mdone, .ref a_mrests, .ref a_mxx, .ref a_myy, .ref a_mdepth, .ref a_mone, .int (nI mG), .int (nI mCk), .int mFw, .int (nI mRd), .ref a_mbefore, .ref a_mfirst, .ref a_mturned])), (a_mkind, .inl (cI, 14, .inl (nF mKd))), (a_mwidth, .inl (cI, 14, .inl (nF mWd))), (a_mreset, .inl (cI, 14, .inl (nF mRs))), (a_mheld, .inl (cI, 14, .inl (nF mHd))), (a_mop, .inl (cI, 14, .inl mOp))] s.heap.size = A at hD hE ⊢
  have hA : ∀ q : Nat, s.heap.size ≤ q → A q := fun q h => by rw [← hAe]; exact Or.inr h
  have hS : va_S A s.heap s.heap [] := va_S.rf
  have hP : va_P (dC, dI) classes [(a_mod, .inr (6, [.ref a_mkind, .ref a_mwidth, .ref a_mreset, .ref a_mop, .ref a_mka, .ref a_mkb, .ref a_mkc, .ref a_mheld, .int (nI mN), .ref a_msort, .ref a_mof, .ref a_mfrom, .int (nI mMs), .ref a_mbit, .ref a_mdone, .ref a_mrests, .ref a_mxx, .ref a_myy, .ref a_mdepth, .ref a_mone, .int (nI mG), .int (nI mCk), .int mFw, .int (nI mRd), .ref a_mbefore, .ref a_mfirst, .ref a_mturned])), (a_mkind, .inl (cI, 14, .inl (nF mKd))), (a_mwidth, .inl (cI, 14, .inl (nF mWd))), (a_mreset, .inl (cI, 14, .inl (nF mRs))), (a_mheld, .inl (cI, 14, .inl (nF mHd))), (a_mop, .inl (cI, 14, .inl mOp))] s.heap := hP
  have hl := lv_entry ([.ref a_mod, .int x, .int w0, .int y]) (n := 5) (Nat.le_of_ble_eq_true rfl)
  rw [lg_entry_eq]
  generalize (lg_sl ([.ref a_mod, .int x, .int w0, .int y]) ++ List.replicate (5 - (lg_sl ([.ref a_mod, .int x, .int w0, .int y])).length) Slot.unset).toArray = ls at hl ⊢
  have hl : lv_has ls 5 [(0, .ref a_mod), (1, .int x), (2, .int w0), (3, .int y)] := hl
  refine lv_iload_n hx hb d_Mod_signal_0 rfl (lv_at hl 1 rfl) ?_
  refine lv_iconst (v := nI 0) hx hb d_Mod_signal_1 rfl ?_
  refine lv_iconst (v := nI 2) hx hb d_Mod_signal_2 rfl ?_
  refine k_i (wr := [(a_mod, .inr (6, [.ref a_mkind, .ref a_mwidth, .ref a_mreset, .ref a_mop, .ref a_mka, .ref a_mkb, .ref a_mkc, .ref a_mheld, .int (nI mN), .ref a_msort, .ref a_mof, .ref a_mfrom, .int (nI mMs), .ref a_mbit, .ref a_mdone, .ref a_mrests, .ref a_mxx, .ref a_myy, .ref a_mdepth, .ref a_mone, .int (nI mG), .int (nI mCk), .int mFw, .int (nI mRd), .ref a_mbefore, .ref a_mfirst, .ref a_mturned])), (a_mkind, .inl (cI, 14, .inl (nF mKd))), (a_mwidth, .inl (cI, 14, .inl (nF mWd))), (a_mreset, .inl (cI, 14, .inl (nF mRs))), (a_mheld, .inl (cI, 14, .inl (nF mHd))), (a_mop, .inl (cI, 14, .inl mOp))]) (w2 := fun (u : Unit) => [(a_mod, .inr (6, [.ref a_mkind, .ref a_mwidth, .ref a_mreset, .ref a_mop, .ref a_mka, .ref a_mkb, .ref a_mkc, .ref a_mheld, .int (nI mN), .ref a_msort, .ref a_mof, .ref a_mfrom, .int (nI mMs), .ref a_mbit, .ref a_mdone, .ref a_mrests, .ref a_mxx, .ref a_myy, .ref a_mdepth, .ref a_mone, .int (nI mG), .int (nI mCk), .int mFw, .int (nI mRd), .ref a_mbefore, .ref a_mfirst, .ref a_mturned])), (a_mkind, .inl (cI, 14, .inl (nF mKd))), (a_mwidth, .inl (cI, 14, .inl (nF mWd))), (a_mreset, .inl (cI, 14, .inl (nF mRs))), (a_mheld, .inl (cI, 14, .inl (nF mHd))), (a_mop, .inl (cI, 14, .inl mOp))]) (va_runS (As := [.int x, .int (nI 0), .int (nI 2)]) (rest := []) ⟨hx, hb, hml, hown, hts⟩ (c_Mod_inN l dC dI cI cZ  tt s.heap.size  x 0 2 (by omega) (by omega)) (va_cwS 3 hts (gd_S in_tl (mw 628 rfl rfl) (mw 629 rfl rfl) (mw 47 rfl rfl) (mw 630 rfl rfl)) rfl rfl rfl (by decide +kernel) ⟨Nat.le_of_ble_eq_true rfl, Nat.le_of_ble_eq_true rfl⟩) (k_preS hK hP hD hS hA hE [] (by decide) rfl) rfl rfl hl.1 rfl (lv_room (Nat.le_of_ble_eq_true rfl)) d_Mod_signal_3 ⟨Nat.zero_le _, Nat.zero_le _⟩) hP hD hS hA [] [0, 1, 2, 3, 4, 5] [0, 1, 2, 3, 4, 5] rfl rfl (by decide) (by decide) (by decide) (fun _ => rfl) (fun r_1 u H locs hw hP hD hS => ?_)
  obtain rfl : (r_1 = nI (inr x.toInt ((0 : Nat) : Int) ((2 : Nat) : Int))) := hw
  have hP : va_P (dC, dI) classes [(a_mod, .inr (6, [.ref a_mkind, .ref a_mwidth, .ref a_mreset, .ref a_mop, .ref a_mka, .ref a_mkb, .ref a_mkc, .ref a_mheld, .int (nI mN), .ref a_msort, .ref a_mof, .ref a_mfrom, .int (nI mMs), .ref a_mbit, .ref a_mdone, .ref a_mrests, .ref a_mxx, .ref a_myy, .ref a_mdepth, .ref a_mone, .int (nI mG), .int (nI mCk), .int mFw, .int (nI mRd), .ref a_mbefore, .ref a_mfirst, .ref a_mturned])), (a_mkind, .inl (cI, 14, .inl (nF mKd))), (a_mwidth, .inl (cI, 14, .inl (nF mWd))), (a_mreset, .inl (cI, 14, .inl (nF mRs))), (a_mheld, .inl (cI, 14, .inl (nF mHd))), (a_mop, .inl (cI, 14, .inl mOp))] H := hP
  have hD : va_D A [(a_mod, .inr (6, [.ref a_mkind, .ref a_mwidth, .ref a_mreset, .ref a_mop, .ref a_mka, .ref a_mkb, .ref a_mkc, .ref a_mheld, .int (nI mN), .ref a_msort, .ref a_mof, .ref a_mfrom, .int (nI mMs), .ref a_mbit, .ref a_mdone, .ref a_mrests, .ref a_mxx, .ref a_myy, .ref a_mdepth, .ref a_mone, .int (nI mG), .int (nI mCk), .int mFw, .int (nI mRd), .ref a_mbefore, .ref a_mfirst, .ref a_mturned])), (a_mkind, .inl (cI, 14, .inl (nF mKd))), (a_mwidth, .inl (cI, 14, .inl (nF mWd))), (a_mreset, .inl (cI, 14, .inl (nF mRs))), (a_mheld, .inl (cI, 14, .inl (nF mHd))), (a_mop, .inl (cI, 14, .inl mOp))] := hD
  refine lv_if_eq (tgt := 35) hx hb d_Mod_signal_6 (by decide) (fun c6 => ?_) (fun c6 => ?_)
  · skip
    have c6 : (inr x.toInt ((0 : Nat) : Int) ((2 : Nat) : Int)) = 0 := (nI_eq0 (Nat.lt_of_le_of_lt (inr_le _ _ _) (by decide))).mp c6
    have q6 := inr_0 c6
    have hq : ¬ sgOK x w0 y := by unfold sgOK; omega
    refine lv_iconst (v := (-1 : Int32)) hx hb d_Mod_signal_35 rfl ?_
    exact W.iret (v := (-1 : Int32)) hx hb hr (fun t ht hW => ⟨⟨(-1 : Int32), (mN, mKd, mWd, mRs, mHd, mOp, mRd), rfl, ⟨(show mN ≤ 14 from by omega), b_mKd, b_mWd, b_mRs, b_mHd, (show mRd ≤ 1 from by omega), (show (¬ sgOK x w0 y ∧ (-1) = (-1 : Int32) ∧ mN = mN ∧ mKd = mKd ∧ mWd = mWd ∧ mRs = mRs ∧ mHd = mHd ∧ mOp = mOp ∧ mRd = mRd) ∨ (sgOK x w0 y ∧ mN = 14 ∧ (-3) = (-1 : Int32) ∧ mN = mN ∧ mKd = mKd ∧ mWd = mWd ∧ mRs = mRs ∧ mHd = mHd ∧ mOp = mOp ∧ mRd = mRd) ∨ (sgOK x w0 y ∧ mN < 14 ∧ nI mN = (-1 : Int32) ∧ mN + 1 = mN ∧ upN mKd mN (ix x) = mKd ∧ upN mWd mN (ix w0) = mWd ∧ upN mRs mN (if x.toInt = 2 then lowb y (ix w0) else 0) = mRs ∧ upN mHd mN 0 = mHd ∧ upd mOp mN (-2) = mOp ∧ 0 = mRd) from Or.inl ⟨hq, rfl, rfl, rfl, rfl, rfl, rfl, rfl, rfl⟩)⟩, by rw [ht]; exact hP, va_K.moved hW.alike hK, hD⟩, hS.F ht⟩) hS.2.2 d_Mod_signal_36
  · skip
    have c6 : ¬ ((inr x.toInt ((0 : Nat) : Int) ((2 : Nat) : Int)) = 0) := fun h => c6 ((nI_eq0 (Nat.lt_of_le_of_lt (inr_le _ _ _) (by decide))).mpr h)
    have q6 := inr_1 c6
    refine lv_iload_n hx hb d_Mod_signal_9 rfl (lv_at hl 2 rfl) ?_
    refine lv_iconst (v := nI 1) hx hb d_Mod_signal_10 rfl ?_
    refine lv_bipush (v := nI 8) hx hb d_Mod_signal_11 rfl ?_
    refine k_i (wr := [(a_mod, .inr (6, [.ref a_mkind, .ref a_mwidth, .ref a_mreset, .ref a_mop, .ref a_mka, .ref a_mkb, .ref a_mkc, .ref a_mheld, .int (nI mN), .ref a_msort, .ref a_mof, .ref a_mfrom, .int (nI mMs), .ref a_mbit, .ref a_mdone, .ref a_mrests, .ref a_mxx, .ref a_myy, .ref a_mdepth, .ref a_mone, .int (nI mG), .int (nI mCk), .int mFw, .int (nI mRd), .ref a_mbefore, .ref a_mfirst, .ref a_mturned])), (a_mkind, .inl (cI, 14, .inl (nF mKd))), (a_mwidth, .inl (cI, 14, .inl (nF mWd))), (a_mreset, .inl (cI, 14, .inl (nF mRs))), (a_mheld, .inl (cI, 14, .inl (nF mHd))), (a_mop, .inl (cI, 14, .inl mOp))]) (w2 := fun (u : Unit) => [(a_mod, .inr (6, [.ref a_mkind, .ref a_mwidth, .ref a_mreset, .ref a_mop, .ref a_mka, .ref a_mkb, .ref a_mkc, .ref a_mheld, .int (nI mN), .ref a_msort, .ref a_mof, .ref a_mfrom, .int (nI mMs), .ref a_mbit, .ref a_mdone, .ref a_mrests, .ref a_mxx, .ref a_myy, .ref a_mdepth, .ref a_mone, .int (nI mG), .int (nI mCk), .int mFw, .int (nI mRd), .ref a_mbefore, .ref a_mfirst, .ref a_mturned])), (a_mkind, .inl (cI, 14, .inl (nF mKd))), (a_mwidth, .inl (cI, 14, .inl (nF mWd))), (a_mreset, .inl (cI, 14, .inl (nF mRs))), (a_mheld, .inl (cI, 14, .inl (nF mHd))), (a_mop, .inl (cI, 14, .inl mOp))]) (va_runS (As := [.int w0, .int (nI 1), .int (nI 8)]) (rest := []) ⟨hx, hb, hml, hown, hts⟩ (c_Mod_inN l dC dI cI cZ  tt H.size  w0 1 8 (by omega) (by omega)) (va_cwS 3 hts (gd_S in_tl (mw 628 rfl rfl) (mw 629 rfl rfl) (mw 47 rfl rfl) (mw 630 rfl rfl)) rfl rfl rfl (by decide +kernel) ⟨Nat.le_of_ble_eq_true rfl, Nat.le_of_ble_eq_true rfl⟩) (k_preS hK hP hD hS hA hE [] (by decide) rfl) rfl rfl hl.1 rfl (lv_room (Nat.le_of_ble_eq_true rfl)) d_Mod_signal_13 ⟨Nat.zero_le _, Nat.zero_le _⟩) hP hD hS hA [] [0, 1, 2, 3, 4, 5] [0, 1, 2, 3, 4, 5] rfl rfl (by decide) (by decide) (by decide) (fun _ => rfl) (fun r_2 u H locs hw hP hD hS => ?_)
    obtain rfl : (r_2 = nI (inr w0.toInt ((1 : Nat) : Int) ((8 : Nat) : Int))) := hw
    have hP : va_P (dC, dI) classes [(a_mod, .inr (6, [.ref a_mkind, .ref a_mwidth, .ref a_mreset, .ref a_mop, .ref a_mka, .ref a_mkb, .ref a_mkc, .ref a_mheld, .int (nI mN), .ref a_msort, .ref a_mof, .ref a_mfrom, .int (nI mMs), .ref a_mbit, .ref a_mdone, .ref a_mrests, .ref a_mxx, .ref a_myy, .ref a_mdepth, .ref a_mone, .int (nI mG), .int (nI mCk), .int mFw, .int (nI mRd), .ref a_mbefore, .ref a_mfirst, .ref a_mturned])), (a_mkind, .inl (cI, 14, .inl (nF mKd))), (a_mwidth, .inl (cI, 14, .inl (nF mWd))), (a_mreset, .inl (cI, 14, .inl (nF mRs))), (a_mheld, .inl (cI, 14, .inl (nF mHd))), (a_mop, .inl (cI, 14, .inl mOp))] H := hP
    have hD : va_D A [(a_mod, .inr (6, [.ref a_mkind, .ref a_mwidth, .ref a_mreset, .ref a_mop, .ref a_mka, .ref a_mkb, .ref a_mkc, .ref a_mheld, .int (nI mN), .ref a_msort, .ref a_mof, .ref a_mfrom, .int (nI mMs), .ref a_mbit, .ref a_mdone, .ref a_mrests, .ref a_mxx, .ref a_myy, .ref a_mdepth, .ref a_mone, .int (nI mG), .int (nI mCk), .int mFw, .int (nI mRd), .ref a_mbefore, .ref a_mfirst, .ref a_mturned])), (a_mkind, .inl (cI, 14, .inl (nF mKd))), (a_mwidth, .inl (cI, 14, .inl (nF mWd))), (a_mreset, .inl (cI, 14, .inl (nF mRs))), (a_mheld, .inl (cI, 14, .inl (nF mHd))), (a_mop, .inl (cI, 14, .inl mOp))] := hD
    refine lv_if_eq (tgt := 35) hx hb d_Mod_signal_16 (by decide) (fun c16 => ?_) (fun c16 => ?_)
    · skip
      have c16 : (inr w0.toInt ((1 : Nat) : Int) ((8 : Nat) : Int)) = 0 := (nI_eq0 (Nat.lt_of_le_of_lt (inr_le _ _ _) (by decide))).mp c16
      have q16 := inr_0 c16
      have hq : ¬ sgOK x w0 y := by unfold sgOK; omega
      refine lv_iconst (v := (-1 : Int32)) hx hb d_Mod_signal_35 rfl ?_
      exact W.iret (v := (-1 : Int32)) hx hb hr (fun t ht hW => ⟨⟨(-1 : Int32), (mN, mKd, mWd, mRs, mHd, mOp, mRd), rfl, ⟨(show mN ≤ 14 from by omega), b_mKd, b_mWd, b_mRs, b_mHd, (show mRd ≤ 1 from by omega), (show (¬ sgOK x w0 y ∧ (-1) = (-1 : Int32) ∧ mN = mN ∧ mKd = mKd ∧ mWd = mWd ∧ mRs = mRs ∧ mHd = mHd ∧ mOp = mOp ∧ mRd = mRd) ∨ (sgOK x w0 y ∧ mN = 14 ∧ (-3) = (-1 : Int32) ∧ mN = mN ∧ mKd = mKd ∧ mWd = mWd ∧ mRs = mRs ∧ mHd = mHd ∧ mOp = mOp ∧ mRd = mRd) ∨ (sgOK x w0 y ∧ mN < 14 ∧ nI mN = (-1 : Int32) ∧ mN + 1 = mN ∧ upN mKd mN (ix x) = mKd ∧ upN mWd mN (ix w0) = mWd ∧ upN mRs mN (if x.toInt = 2 then lowb y (ix w0) else 0) = mRs ∧ upN mHd mN 0 = mHd ∧ upd mOp mN (-2) = mOp ∧ 0 = mRd) from Or.inl ⟨hq, rfl, rfl, rfl, rfl, rfl, rfl, rfl, rfl⟩)⟩, by rw [ht]; exact hP, va_K.moved hW.alike hK, hD⟩, hS.F ht⟩) hS.2.2 d_Mod_signal_36
    · skip
      have c16 : ¬ ((inr w0.toInt ((1 : Nat) : Int) ((8 : Nat) : Int)) = 0) := fun h => c16 ((nI_eq0 (Nat.lt_of_le_of_lt (inr_le _ _ _) (by decide))).mpr h)
      have q16 := inr_1 c16
      refine lv_iload_n hx hb d_Mod_signal_19 rfl (lv_at hl 1 rfl) ?_
      refine lv_iconst (v := nI 2) hx hb d_Mod_signal_20 rfl ?_
      refine lv_icmp_ne (tgt := 37) hx hb d_Mod_signal_21 (by decide) (fun c21 => ?_) (fun c21 => ?_)
      · skip
        have c21 : ¬ (x.toInt = ((2 : Nat) : Int)) := fun h => c21 ((ri_eq rfl (nI_toInt (show _ < 2 ^ 31 by omega))).mpr h)
        have hq : sgOK x w0 y := by unfold sgOK; omega
        refine lv_aload_n hx hb d_Mod_signal_37 rfl (lv_at hl 0 rfl) ?_
        refine va_get (D := (dC, dI)) (ci := 6) (v := .int (nI mN)) (C := R_Mod) (T := F_Mod) (N := 27) hx hb hts (wi i_Mod) hown hK hP 0 rfl rfl 8 (by decide) (hts _ (mt 550 rfl rfl)) (fun _ h9 => h9) rfl d_Mod_signal_38 ?_
        refine lv_bipush (v := nI 14) hx hb d_Mod_signal_41 rfl ?_
        refine lv_icmp_ne (tgt := 49) hx hb d_Mod_signal_43 (by decide) (fun c43 => ?_) (fun c43 => ?_)
        · skip
          have c43 : ¬ (mN = 14) := fun h => c43 ((nI_eq (by omega) (by omega)).mpr h)
          obtain ⟨X, eX, hX, hXb⟩ := raw_nat (x := x) (by omega)
          rw [eX] at hl
          obtain ⟨Wq, eWq, hWq, hWqb⟩ := raw_nat (x := w0) (by omega)
          rw [eWq] at hl
          refine lv_aload_n hx hb d_Mod_signal_49 rfl (lv_at hl 0 rfl) ?_
          refine lv_iload_n hx hb d_Mod_signal_50 rfl (lv_at hl 1 rfl) ?_
          refine lv_iload_n hx hb d_Mod_signal_51 rfl (lv_at hl 2 rfl) ?_
          refine k_i (wr := []) (w2 := fun (u : Unit) => [(a_mod, .inr (6, [.ref a_mkind, .ref a_mwidth, .ref a_mreset, .ref a_mop, .ref a_mka, .ref a_mkb, .ref a_mkc, .ref a_mheld, .int (nI (mN + 1)), .ref a_msort, .ref a_mof, .ref a_mfrom, .int (nI mMs), .ref a_mbit, .ref a_mdone, .ref a_mrests, .ref a_mxx, .ref a_myy, .ref a_mdepth, .ref a_mone, .int (nI mG), .int (nI mCk), .int mFw, .int (nI 0), .ref a_mbefore, .ref a_mfirst, .ref a_mturned])), (a_mkind, .inl (cI, 14, .inl (nF (upN mKd mN X)))), (a_mwidth, .inl (cI, 14, .inl (nF (upN mWd mN Wq)))), (a_mreset, .inl (cI, 14, .inl (nF (upN mRs mN 0)))), (a_mheld, .inl (cI, 14, .inl (nF (upN mHd mN 0)))), (a_mop, .inl (cI, 14, .inl (upd mOp mN (-2 : Int32))))]) (va_runV (As := [.int (nI X), .int (nI Wq)]) (rest := []) ⟨hx, hb, hml, hown, hts⟩ (c_Mod_make l dC dI cI cZ a_mod a_mkind a_mwidth a_mreset a_mop a_mka a_mkb a_mkc a_mheld a_msort a_mof a_mfrom a_mbit a_mdone a_mrests a_mxx a_myy a_mdepth a_mone a_mbefore a_mfirst a_mturned tt H.size mN mMs mG mCk mFw mRd mKd mWd mRs mHd mOp X Wq (by omega) (by omega) (by omega) (by omega) b_mKd b_mWd b_mRs b_mHd (by omega) (by omega) (by omega)) (cwV 2 hts (gd_V in_tl (mw 631 rfl rfl) (mw 633 rfl rfl) (mw 19 rfl rfl) (mw 47 rfl rfl) (mw 634 rfl rfl)) rfl rfl rfl (by decide +kernel) ⟨Nat.le_of_ble_eq_true rfl, Nat.le_of_ble_eq_true rfl⟩) (k_preV hK hP hD hS hA hE [0, 1, 2, 3, 4, 5] (by decide) rfl 6 0 rfl rfl) rfl rfl hl.1 rfl (lv_room (Nat.le_of_ble_eq_true rfl)) d_Mod_signal_52 ⟨Nat.zero_le _, Nat.zero_le _⟩) hP hD hS hA [0, 1, 2, 3, 4, 5] [] [0, 1, 2, 3, 4, 5] rfl rfl (by decide) (by decide) (by decide) (fun _ => rfl) (fun r_3 u H locs hw hP hD hS => ?_)
          obtain rfl : (r_3 = nI mN) := hw
          have hP : va_P (dC, dI) classes [(a_mod, .inr (6, [.ref a_mkind, .ref a_mwidth, .ref a_mreset, .ref a_mop, .ref a_mka, .ref a_mkb, .ref a_mkc, .ref a_mheld, .int (nI (mN + 1)), .ref a_msort, .ref a_mof, .ref a_mfrom, .int (nI mMs), .ref a_mbit, .ref a_mdone, .ref a_mrests, .ref a_mxx, .ref a_myy, .ref a_mdepth, .ref a_mone, .int (nI mG), .int (nI mCk), .int mFw, .int (nI 0), .ref a_mbefore, .ref a_mfirst, .ref a_mturned])), (a_mkind, .inl (cI, 14, .inl (nF (upN mKd mN X)))), (a_mwidth, .inl (cI, 14, .inl (nF (upN mWd mN Wq)))), (a_mreset, .inl (cI, 14, .inl (nF (upN mRs mN 0)))), (a_mheld, .inl (cI, 14, .inl (nF (upN mHd mN 0)))), (a_mop, .inl (cI, 14, .inl (upd mOp mN (-2 : Int32))))] H := hP
          have hD : va_D A [(a_mod, .inr (6, [.ref a_mkind, .ref a_mwidth, .ref a_mreset, .ref a_mop, .ref a_mka, .ref a_mkb, .ref a_mkc, .ref a_mheld, .int (nI (mN + 1)), .ref a_msort, .ref a_mof, .ref a_mfrom, .int (nI mMs), .ref a_mbit, .ref a_mdone, .ref a_mrests, .ref a_mxx, .ref a_myy, .ref a_mdepth, .ref a_mone, .int (nI mG), .int (nI mCk), .int mFw, .int (nI 0), .ref a_mbefore, .ref a_mfirst, .ref a_mturned])), (a_mkind, .inl (cI, 14, .inl (nF (upN mKd mN X)))), (a_mwidth, .inl (cI, 14, .inl (nF (upN mWd mN Wq)))), (a_mreset, .inl (cI, 14, .inl (nF (upN mRs mN 0)))), (a_mheld, .inl (cI, 14, .inl (nF (upN mHd mN 0)))), (a_mop, .inl (cI, 14, .inl (upd mOp mN (-2 : Int32))))] := hD
          have hp8 := pow8 (n := Wq) (by omega)
          have hpp := Nat.two_pow_pos Wq
          have bK : ∀ j, upN mKd mN X j < 4 := upN_lt b_mKd (by omega)
          have bW : ∀ j, upN mWd mN Wq j < 9 := upN_lt b_mWd (by omega)
          have bR : ∀ j, upN mRs mN 0 j < 256 := upN_lt b_mRs (by decide)
          have bH : ∀ j, upN mHd mN 0 j < 256 := upN_lt b_mHd (by decide)
          refine lv_istore (lv' := [(4, .int (nI mN)), (0, .ref a_mod), (1, .int (nI X)), (2, .int (nI Wq)), (3, .int y)]) hx hb d_Mod_signal_55 hl (by decide) rfl (fun ls hl => ?_)
          refine lv_iload_n hx hb d_Mod_signal_57 rfl (lv_at hl 2 rfl) ?_
          refine lv_iconst (v := nI 2) hx hb d_Mod_signal_58 rfl ?_
          refine lv_icmp_ne (tgt := 76) hx hb d_Mod_signal_59 (by decide) (fun c59 => ?_) (fun c59 => ?_)
          · skip
            have c59 : ¬ (X = 2) := fun h => c59 ((nI_eq (by omega) (by omega)).mpr h)
            refine lv_iload hx hb d_Mod_signal_76 (lv_at hl 0 rfl) ?_
            exact W.iret (v := nI mN) hx hb hr (fun t ht hW => ⟨⟨nI mN, (mN + 1, upN mKd mN X, upN mWd mN Wq, upN mRs mN 0, upN mHd mN 0, upd mOp mN (-2 : Int32), 0), rfl, ⟨(show (mN + 1) ≤ 14 from by omega), bK, bW, bR, bH, (show 0 ≤ 1 from by omega), (show (¬ sgOK x w0 y ∧ (-1) = (nI mN) ∧ mN = (mN + 1) ∧ mKd = (upN mKd mN X) ∧ mWd = (upN mWd mN Wq) ∧ mRs = (upN mRs mN 0) ∧ mHd = (upN mHd mN 0) ∧ mOp = (upd mOp mN (-2 : Int32)) ∧ mRd = 0) ∨ (sgOK x w0 y ∧ mN = 14 ∧ (-3) = (nI mN) ∧ mN = (mN + 1) ∧ mKd = (upN mKd mN X) ∧ mWd = (upN mWd mN Wq) ∧ mRs = (upN mRs mN 0) ∧ mHd = (upN mHd mN 0) ∧ mOp = (upd mOp mN (-2 : Int32)) ∧ mRd = 0) ∨ (sgOK x w0 y ∧ mN < 14 ∧ nI mN = (nI mN) ∧ mN + 1 = (mN + 1) ∧ upN mKd mN (ix x) = (upN mKd mN X) ∧ upN mWd mN (ix w0) = (upN mWd mN Wq) ∧ upN mRs mN (if x.toInt = 2 then lowb y (ix w0) else 0) = (upN mRs mN 0) ∧ upN mHd mN 0 = (upN mHd mN 0) ∧ upd mOp mN (-2) = (upd mOp mN (-2 : Int32)) ∧ 0 = 0) from Or.inr (Or.inr ⟨hq, by omega, rfl, rfl, by rw [ix_of eX hXb], by rw [ix_of eWq hWqb], by rw [if_neg (by omega)], rfl, rfl, rfl⟩))⟩, by rw [ht]; exact hP, va_K.moved hW.alike hK, hD⟩, hS.F ht⟩) hS.2.2 d_Mod_signal_78
          · skip
            have c59 : X = 2 := (nI_eq (by omega) (by omega)).mp c59
            refine lv_aload_n hx hb d_Mod_signal_62 rfl (lv_at hl 1 rfl) ?_
            refine va_get (D := (dC, dI)) (ci := 6) (v := .ref a_mreset) (C := R_Mod) (T := F_Mod) (N := 27) hx hb hts (wi i_Mod) hown hK hP 0 rfl rfl 2 (by decide) (hts _ (mt 544 rfl rfl)) (fun _ h9 => h9) rfl d_Mod_signal_63 ?_
            refine lv_iload hx hb d_Mod_signal_66 (lv_at hl 0 rfl) ?_
            refine lv_iload_n hx hb d_Mod_signal_68 rfl (lv_at hl 4 rfl) ?_
            refine lv_iconst (v := nI 1) hx hb d_Mod_signal_69 rfl ?_
            refine lv_iload_n hx hb d_Mod_signal_70 rfl (lv_at hl 3 rfl) ?_
            refine lv_ishl hx hb d_Mod_signal_71 ?_
            refine k_top (nI_shl _ (by omega)) ?_
            refine lv_iconst (v := nI 1) hx hb d_Mod_signal_72 rfl ?_
            refine lv_isub hx hb d_Mod_signal_73 ?_
            refine k_top (pk_sub (by omega)) ?_
            refine lv_iand hx hb d_Mod_signal_74 ?_
            refine k_top (show y &&& (nI ((1 * 2 ^ Wq) - 1)) = nI (lowb y Wq) from (by rw [Nat.one_mul]; exact lowb_row y (by omega))) ?_
            refine k_ist hx hb hK hP hD hS 3 0 rfl rfl (by omega) (by decide) d_Mod_signal_75 (fun H locs hP hD hS => ?_)
            have bb_4 : ∀ j, upN (upN mRs mN 0) mN (lowb y Wq) j < 256 := upN_lt bR (by have := lowb_lt y Wq; omega)
            have hP : va_P (dC, dI) classes [(a_mod, .inr (6, [.ref a_mkind, .ref a_mwidth, .ref a_mreset, .ref a_mop, .ref a_mka, .ref a_mkb, .ref a_mkc, .ref a_mheld, .int (nI (mN + 1)), .ref a_msort, .ref a_mof, .ref a_mfrom, .int (nI mMs), .ref a_mbit, .ref a_mdone, .ref a_mrests, .ref a_mxx, .ref a_myy, .ref a_mdepth, .ref a_mone, .int (nI mG), .int (nI mCk), .int mFw, .int (nI 0), .ref a_mbefore, .ref a_mfirst, .ref a_mturned])), (a_mkind, .inl (cI, 14, .inl (nF (upN mKd mN X)))), (a_mwidth, .inl (cI, 14, .inl (nF (upN mWd mN Wq)))), (a_mreset, .inl (cI, 14, .inl (nF (upN (upN mRs mN 0) mN (lowb y Wq))))), (a_mheld, .inl (cI, 14, .inl (nF (upN mHd mN 0)))), (a_mop, .inl (cI, 14, .inl (upd mOp mN (-2 : Int32))))] H := hP
            have hD : va_D A [(a_mod, .inr (6, [.ref a_mkind, .ref a_mwidth, .ref a_mreset, .ref a_mop, .ref a_mka, .ref a_mkb, .ref a_mkc, .ref a_mheld, .int (nI (mN + 1)), .ref a_msort, .ref a_mof, .ref a_mfrom, .int (nI mMs), .ref a_mbit, .ref a_mdone, .ref a_mrests, .ref a_mxx, .ref a_myy, .ref a_mdepth, .ref a_mone, .int (nI mG), .int (nI mCk), .int mFw, .int (nI 0), .ref a_mbefore, .ref a_mfirst, .ref a_mturned])), (a_mkind, .inl (cI, 14, .inl (nF (upN mKd mN X)))), (a_mwidth, .inl (cI, 14, .inl (nF (upN mWd mN Wq)))), (a_mreset, .inl (cI, 14, .inl (nF (upN (upN mRs mN 0) mN (lowb y Wq))))), (a_mheld, .inl (cI, 14, .inl (nF (upN mHd mN 0)))), (a_mop, .inl (cI, 14, .inl (upd mOp mN (-2 : Int32))))] := hD
            refine lv_iload hx hb d_Mod_signal_76 (lv_at hl 0 rfl) ?_
            exact W.iret (v := nI mN) hx hb hr (fun t ht hW => ⟨⟨nI mN, (mN + 1, upN mKd mN X, upN mWd mN Wq, upN (upN mRs mN 0) mN (lowb y Wq), upN mHd mN 0, upd mOp mN (-2 : Int32), 0), rfl, ⟨(show (mN + 1) ≤ 14 from by omega), bK, bW, bb_4, bH, (show 0 ≤ 1 from by omega), (show (¬ sgOK x w0 y ∧ (-1) = (nI mN) ∧ mN = (mN + 1) ∧ mKd = (upN mKd mN X) ∧ mWd = (upN mWd mN Wq) ∧ mRs = (upN (upN mRs mN 0) mN (lowb y Wq)) ∧ mHd = (upN mHd mN 0) ∧ mOp = (upd mOp mN (-2 : Int32)) ∧ mRd = 0) ∨ (sgOK x w0 y ∧ mN = 14 ∧ (-3) = (nI mN) ∧ mN = (mN + 1) ∧ mKd = (upN mKd mN X) ∧ mWd = (upN mWd mN Wq) ∧ mRs = (upN (upN mRs mN 0) mN (lowb y Wq)) ∧ mHd = (upN mHd mN 0) ∧ mOp = (upd mOp mN (-2 : Int32)) ∧ mRd = 0) ∨ (sgOK x w0 y ∧ mN < 14 ∧ nI mN = (nI mN) ∧ mN + 1 = (mN + 1) ∧ upN mKd mN (ix x) = (upN mKd mN X) ∧ upN mWd mN (ix w0) = (upN mWd mN Wq) ∧ upN mRs mN (if x.toInt = 2 then lowb y (ix w0) else 0) = (upN (upN mRs mN 0) mN (lowb y Wq)) ∧ upN mHd mN 0 = (upN mHd mN 0) ∧ upd mOp mN (-2) = (upd mOp mN (-2 : Int32)) ∧ 0 = 0) from Or.inr (Or.inr ⟨hq, by omega, rfl, rfl, by rw [ix_of eX hXb], by rw [ix_of eWq hWqb], by rw [if_pos (by omega), ix_of eWq hWqb, upN_upN], rfl, rfl, rfl⟩))⟩, by rw [ht]; exact hP, va_K.moved hW.alike hK, hD⟩, hS.F ht⟩) hS.2.2 d_Mod_signal_78
        · skip
          have c43 : mN = 14 := (nI_eq (by omega) (by omega)).mp c43
          refine lv_bipush (v := (-3 : Int32)) hx hb d_Mod_signal_46 rfl ?_
          exact W.iret (v := (-3 : Int32)) hx hb hr (fun t ht hW => ⟨⟨(-3 : Int32), (mN, mKd, mWd, mRs, mHd, mOp, mRd), rfl, ⟨(show mN ≤ 14 from by omega), b_mKd, b_mWd, b_mRs, b_mHd, (show mRd ≤ 1 from by omega), (show (¬ sgOK x w0 y ∧ (-1) = (-3 : Int32) ∧ mN = mN ∧ mKd = mKd ∧ mWd = mWd ∧ mRs = mRs ∧ mHd = mHd ∧ mOp = mOp ∧ mRd = mRd) ∨ (sgOK x w0 y ∧ mN = 14 ∧ (-3) = (-3 : Int32) ∧ mN = mN ∧ mKd = mKd ∧ mWd = mWd ∧ mRs = mRs ∧ mHd = mHd ∧ mOp = mOp ∧ mRd = mRd) ∨ (sgOK x w0 y ∧ mN < 14 ∧ nI mN = (-3 : Int32) ∧ mN + 1 = mN ∧ upN mKd mN (ix x) = mKd ∧ upN mWd mN (ix w0) = mWd ∧ upN mRs mN (if x.toInt = 2 then lowb y (ix w0) else 0) = mRs ∧ upN mHd mN 0 = mHd ∧ upd mOp mN (-2) = mOp ∧ 0 = mRd) from Or.inr (Or.inl ⟨hq, c43, rfl, rfl, rfl, rfl, rfl, rfl, rfl, rfl⟩))⟩, by rw [ht]; exact hP, va_K.moved hW.alike hK, hD⟩, hS.F ht⟩) hS.2.2 d_Mod_signal_48
      · skip
        have c21 : x.toInt = ((2 : Nat) : Int) := (ri_eq rfl (nI_toInt (show _ < 2 ^ 31 by omega))).mp c21
        refine lv_iload_n hx hb d_Mod_signal_24 rfl (lv_at hl 3 rfl) ?_
        refine lv_iconst (v := nI 0) hx hb d_Mod_signal_25 rfl ?_
        refine lv_sipush (v := nI 255) hx hb d_Mod_signal_26 rfl ?_
        refine k_i (wr := [(a_mod, .inr (6, [.ref a_mkind, .ref a_mwidth, .ref a_mreset, .ref a_mop, .ref a_mka, .ref a_mkb, .ref a_mkc, .ref a_mheld, .int (nI mN), .ref a_msort, .ref a_mof, .ref a_mfrom, .int (nI mMs), .ref a_mbit, .ref a_mdone, .ref a_mrests, .ref a_mxx, .ref a_myy, .ref a_mdepth, .ref a_mone, .int (nI mG), .int (nI mCk), .int mFw, .int (nI mRd), .ref a_mbefore, .ref a_mfirst, .ref a_mturned])), (a_mkind, .inl (cI, 14, .inl (nF mKd))), (a_mwidth, .inl (cI, 14, .inl (nF mWd))), (a_mreset, .inl (cI, 14, .inl (nF mRs))), (a_mheld, .inl (cI, 14, .inl (nF mHd))), (a_mop, .inl (cI, 14, .inl mOp))]) (w2 := fun (u : Unit) => [(a_mod, .inr (6, [.ref a_mkind, .ref a_mwidth, .ref a_mreset, .ref a_mop, .ref a_mka, .ref a_mkb, .ref a_mkc, .ref a_mheld, .int (nI mN), .ref a_msort, .ref a_mof, .ref a_mfrom, .int (nI mMs), .ref a_mbit, .ref a_mdone, .ref a_mrests, .ref a_mxx, .ref a_myy, .ref a_mdepth, .ref a_mone, .int (nI mG), .int (nI mCk), .int mFw, .int (nI mRd), .ref a_mbefore, .ref a_mfirst, .ref a_mturned])), (a_mkind, .inl (cI, 14, .inl (nF mKd))), (a_mwidth, .inl (cI, 14, .inl (nF mWd))), (a_mreset, .inl (cI, 14, .inl (nF mRs))), (a_mheld, .inl (cI, 14, .inl (nF mHd))), (a_mop, .inl (cI, 14, .inl mOp))]) (va_runS (As := [.int y, .int (nI 0), .int (nI 255)]) (rest := []) ⟨hx, hb, hml, hown, hts⟩ (c_Mod_inN l dC dI cI cZ  tt H.size  y 0 255 (by omega) (by omega)) (va_cwS 3 hts (gd_S in_tl (mw 628 rfl rfl) (mw 629 rfl rfl) (mw 47 rfl rfl) (mw 630 rfl rfl)) rfl rfl rfl (by decide +kernel) ⟨Nat.le_of_ble_eq_true rfl, Nat.le_of_ble_eq_true rfl⟩) (k_preS hK hP hD hS hA hE [] (by decide) rfl) rfl rfl hl.1 rfl (lv_room (Nat.le_of_ble_eq_true rfl)) d_Mod_signal_29 ⟨Nat.zero_le _, Nat.zero_le _⟩) hP hD hS hA [] [0, 1, 2, 3, 4, 5] [0, 1, 2, 3, 4, 5] rfl rfl (by decide) (by decide) (by decide) (fun _ => rfl) (fun r_5 u H locs hw hP hD hS => ?_)
        obtain rfl : (r_5 = nI (inr y.toInt ((0 : Nat) : Int) ((255 : Nat) : Int))) := hw
        have hP : va_P (dC, dI) classes [(a_mod, .inr (6, [.ref a_mkind, .ref a_mwidth, .ref a_mreset, .ref a_mop, .ref a_mka, .ref a_mkb, .ref a_mkc, .ref a_mheld, .int (nI mN), .ref a_msort, .ref a_mof, .ref a_mfrom, .int (nI mMs), .ref a_mbit, .ref a_mdone, .ref a_mrests, .ref a_mxx, .ref a_myy, .ref a_mdepth, .ref a_mone, .int (nI mG), .int (nI mCk), .int mFw, .int (nI mRd), .ref a_mbefore, .ref a_mfirst, .ref a_mturned])), (a_mkind, .inl (cI, 14, .inl (nF mKd))), (a_mwidth, .inl (cI, 14, .inl (nF mWd))), (a_mreset, .inl (cI, 14, .inl (nF mRs))), (a_mheld, .inl (cI, 14, .inl (nF mHd))), (a_mop, .inl (cI, 14, .inl mOp))] H := hP
        have hD : va_D A [(a_mod, .inr (6, [.ref a_mkind, .ref a_mwidth, .ref a_mreset, .ref a_mop, .ref a_mka, .ref a_mkb, .ref a_mkc, .ref a_mheld, .int (nI mN), .ref a_msort, .ref a_mof, .ref a_mfrom, .int (nI mMs), .ref a_mbit, .ref a_mdone, .ref a_mrests, .ref a_mxx, .ref a_myy, .ref a_mdepth, .ref a_mone, .int (nI mG), .int (nI mCk), .int mFw, .int (nI mRd), .ref a_mbefore, .ref a_mfirst, .ref a_mturned])), (a_mkind, .inl (cI, 14, .inl (nF mKd))), (a_mwidth, .inl (cI, 14, .inl (nF mWd))), (a_mreset, .inl (cI, 14, .inl (nF mRs))), (a_mheld, .inl (cI, 14, .inl (nF mHd))), (a_mop, .inl (cI, 14, .inl mOp))] := hD
        refine lv_if_ne (tgt := 37) hx hb d_Mod_signal_32 (by decide) (fun c32 => ?_) (fun c32 => ?_)
        · skip
          have c32 : ¬ ((inr y.toInt ((0 : Nat) : Int) ((255 : Nat) : Int)) = 0) := fun h => c32 ((nI_eq0 (Nat.lt_of_le_of_lt (inr_le _ _ _) (by decide))).mpr h)
          have q32 := inr_1 c32
          have hq : sgOK x w0 y := by unfold sgOK; omega
          refine lv_aload_n hx hb d_Mod_signal_37 rfl (lv_at hl 0 rfl) ?_
          refine va_get (D := (dC, dI)) (ci := 6) (v := .int (nI mN)) (C := R_Mod) (T := F_Mod) (N := 27) hx hb hts (wi i_Mod) hown hK hP 0 rfl rfl 8 (by decide) (hts _ (mt 550 rfl rfl)) (fun _ h9 => h9) rfl d_Mod_signal_38 ?_
          refine lv_bipush (v := nI 14) hx hb d_Mod_signal_41 rfl ?_
          refine lv_icmp_ne (tgt := 49) hx hb d_Mod_signal_43 (by decide) (fun c43 => ?_) (fun c43 => ?_)
          · skip
            have c43 : ¬ (mN = 14) := fun h => c43 ((nI_eq (by omega) (by omega)).mpr h)
            obtain ⟨X, eX, hX, hXb⟩ := raw_nat (x := x) (by omega)
            rw [eX] at hl
            obtain ⟨Wq, eWq, hWq, hWqb⟩ := raw_nat (x := w0) (by omega)
            rw [eWq] at hl
            refine lv_aload_n hx hb d_Mod_signal_49 rfl (lv_at hl 0 rfl) ?_
            refine lv_iload_n hx hb d_Mod_signal_50 rfl (lv_at hl 1 rfl) ?_
            refine lv_iload_n hx hb d_Mod_signal_51 rfl (lv_at hl 2 rfl) ?_
            refine k_i (wr := []) (w2 := fun (u : Unit) => [(a_mod, .inr (6, [.ref a_mkind, .ref a_mwidth, .ref a_mreset, .ref a_mop, .ref a_mka, .ref a_mkb, .ref a_mkc, .ref a_mheld, .int (nI (mN + 1)), .ref a_msort, .ref a_mof, .ref a_mfrom, .int (nI mMs), .ref a_mbit, .ref a_mdone, .ref a_mrests, .ref a_mxx, .ref a_myy, .ref a_mdepth, .ref a_mone, .int (nI mG), .int (nI mCk), .int mFw, .int (nI 0), .ref a_mbefore, .ref a_mfirst, .ref a_mturned])), (a_mkind, .inl (cI, 14, .inl (nF (upN mKd mN X)))), (a_mwidth, .inl (cI, 14, .inl (nF (upN mWd mN Wq)))), (a_mreset, .inl (cI, 14, .inl (nF (upN mRs mN 0)))), (a_mheld, .inl (cI, 14, .inl (nF (upN mHd mN 0)))), (a_mop, .inl (cI, 14, .inl (upd mOp mN (-2 : Int32))))]) (va_runV (As := [.int (nI X), .int (nI Wq)]) (rest := []) ⟨hx, hb, hml, hown, hts⟩ (c_Mod_make l dC dI cI cZ a_mod a_mkind a_mwidth a_mreset a_mop a_mka a_mkb a_mkc a_mheld a_msort a_mof a_mfrom a_mbit a_mdone a_mrests a_mxx a_myy a_mdepth a_mone a_mbefore a_mfirst a_mturned tt H.size mN mMs mG mCk mFw mRd mKd mWd mRs mHd mOp X Wq (by omega) (by omega) (by omega) (by omega) b_mKd b_mWd b_mRs b_mHd (by omega) (by omega) (by omega)) (cwV 2 hts (gd_V in_tl (mw 631 rfl rfl) (mw 633 rfl rfl) (mw 19 rfl rfl) (mw 47 rfl rfl) (mw 634 rfl rfl)) rfl rfl rfl (by decide +kernel) ⟨Nat.le_of_ble_eq_true rfl, Nat.le_of_ble_eq_true rfl⟩) (k_preV hK hP hD hS hA hE [0, 1, 2, 3, 4, 5] (by decide) rfl 6 0 rfl rfl) rfl rfl hl.1 rfl (lv_room (Nat.le_of_ble_eq_true rfl)) d_Mod_signal_52 ⟨Nat.zero_le _, Nat.zero_le _⟩) hP hD hS hA [0, 1, 2, 3, 4, 5] [] [0, 1, 2, 3, 4, 5] rfl rfl (by decide) (by decide) (by decide) (fun _ => rfl) (fun r_6 u H locs hw hP hD hS => ?_)
            obtain rfl : (r_6 = nI mN) := hw
            have hP : va_P (dC, dI) classes [(a_mod, .inr (6, [.ref a_mkind, .ref a_mwidth, .ref a_mreset, .ref a_mop, .ref a_mka, .ref a_mkb, .ref a_mkc, .ref a_mheld, .int (nI (mN + 1)), .ref a_msort, .ref a_mof, .ref a_mfrom, .int (nI mMs), .ref a_mbit, .ref a_mdone, .ref a_mrests, .ref a_mxx, .ref a_myy, .ref a_mdepth, .ref a_mone, .int (nI mG), .int (nI mCk), .int mFw, .int (nI 0), .ref a_mbefore, .ref a_mfirst, .ref a_mturned])), (a_mkind, .inl (cI, 14, .inl (nF (upN mKd mN X)))), (a_mwidth, .inl (cI, 14, .inl (nF (upN mWd mN Wq)))), (a_mreset, .inl (cI, 14, .inl (nF (upN mRs mN 0)))), (a_mheld, .inl (cI, 14, .inl (nF (upN mHd mN 0)))), (a_mop, .inl (cI, 14, .inl (upd mOp mN (-2 : Int32))))] H := hP
            have hD : va_D A [(a_mod, .inr (6, [.ref a_mkind, .ref a_mwidth, .ref a_mreset, .ref a_mop, .ref a_mka, .ref a_mkb, .ref a_mkc, .ref a_mheld, .int (nI (mN + 1)), .ref a_msort, .ref a_mof, .ref a_mfrom, .int (nI mMs), .ref a_mbit, .ref a_mdone, .ref a_mrests, .ref a_mxx, .ref a_myy, .ref a_mdepth, .ref a_mone, .int (nI mG), .int (nI mCk), .int mFw, .int (nI 0), .ref a_mbefore, .ref a_mfirst, .ref a_mturned])), (a_mkind, .inl (cI, 14, .inl (nF (upN mKd mN X)))), (a_mwidth, .inl (cI, 14, .inl (nF (upN mWd mN Wq)))), (a_mreset, .inl (cI, 14, .inl (nF (upN mRs mN 0)))), (a_mheld, .inl (cI, 14, .inl (nF (upN mHd mN 0)))), (a_mop, .inl (cI, 14, .inl (upd mOp mN (-2 : Int32))))] := hD
            have hp8 := pow8 (n := Wq) (by omega)
            have hpp := Nat.two_pow_pos Wq
            have bK : ∀ j, upN mKd mN X j < 4 := upN_lt b_mKd (by omega)
            have bW : ∀ j, upN mWd mN Wq j < 9 := upN_lt b_mWd (by omega)
            have bR : ∀ j, upN mRs mN 0 j < 256 := upN_lt b_mRs (by decide)
            have bH : ∀ j, upN mHd mN 0 j < 256 := upN_lt b_mHd (by decide)
            refine lv_istore (lv' := [(4, .int (nI mN)), (0, .ref a_mod), (1, .int (nI X)), (2, .int (nI Wq)), (3, .int y)]) hx hb d_Mod_signal_55 hl (by decide) rfl (fun ls hl => ?_)
            refine lv_iload_n hx hb d_Mod_signal_57 rfl (lv_at hl 2 rfl) ?_
            refine lv_iconst (v := nI 2) hx hb d_Mod_signal_58 rfl ?_
            refine lv_icmp_ne (tgt := 76) hx hb d_Mod_signal_59 (by decide) (fun c59 => ?_) (fun c59 => ?_)
            · skip
              have c59 : ¬ (X = 2) := fun h => c59 ((nI_eq (by omega) (by omega)).mpr h)
              refine lv_iload hx hb d_Mod_signal_76 (lv_at hl 0 rfl) ?_
              exact W.iret (v := nI mN) hx hb hr (fun t ht hW => ⟨⟨nI mN, (mN + 1, upN mKd mN X, upN mWd mN Wq, upN mRs mN 0, upN mHd mN 0, upd mOp mN (-2 : Int32), 0), rfl, ⟨(show (mN + 1) ≤ 14 from by omega), bK, bW, bR, bH, (show 0 ≤ 1 from by omega), (show (¬ sgOK x w0 y ∧ (-1) = (nI mN) ∧ mN = (mN + 1) ∧ mKd = (upN mKd mN X) ∧ mWd = (upN mWd mN Wq) ∧ mRs = (upN mRs mN 0) ∧ mHd = (upN mHd mN 0) ∧ mOp = (upd mOp mN (-2 : Int32)) ∧ mRd = 0) ∨ (sgOK x w0 y ∧ mN = 14 ∧ (-3) = (nI mN) ∧ mN = (mN + 1) ∧ mKd = (upN mKd mN X) ∧ mWd = (upN mWd mN Wq) ∧ mRs = (upN mRs mN 0) ∧ mHd = (upN mHd mN 0) ∧ mOp = (upd mOp mN (-2 : Int32)) ∧ mRd = 0) ∨ (sgOK x w0 y ∧ mN < 14 ∧ nI mN = (nI mN) ∧ mN + 1 = (mN + 1) ∧ upN mKd mN (ix x) = (upN mKd mN X) ∧ upN mWd mN (ix w0) = (upN mWd mN Wq) ∧ upN mRs mN (if x.toInt = 2 then lowb y (ix w0) else 0) = (upN mRs mN 0) ∧ upN mHd mN 0 = (upN mHd mN 0) ∧ upd mOp mN (-2) = (upd mOp mN (-2 : Int32)) ∧ 0 = 0) from Or.inr (Or.inr ⟨hq, by omega, rfl, rfl, by rw [ix_of eX hXb], by rw [ix_of eWq hWqb], by rw [if_neg (by omega)], rfl, rfl, rfl⟩))⟩, by rw [ht]; exact hP, va_K.moved hW.alike hK, hD⟩, hS.F ht⟩) hS.2.2 d_Mod_signal_78
            · skip
              have c59 : X = 2 := (nI_eq (by omega) (by omega)).mp c59
              refine lv_aload_n hx hb d_Mod_signal_62 rfl (lv_at hl 1 rfl) ?_
              refine va_get (D := (dC, dI)) (ci := 6) (v := .ref a_mreset) (C := R_Mod) (T := F_Mod) (N := 27) hx hb hts (wi i_Mod) hown hK hP 0 rfl rfl 2 (by decide) (hts _ (mt 544 rfl rfl)) (fun _ h9 => h9) rfl d_Mod_signal_63 ?_
              refine lv_iload hx hb d_Mod_signal_66 (lv_at hl 0 rfl) ?_
              refine lv_iload_n hx hb d_Mod_signal_68 rfl (lv_at hl 4 rfl) ?_
              refine lv_iconst (v := nI 1) hx hb d_Mod_signal_69 rfl ?_
              refine lv_iload_n hx hb d_Mod_signal_70 rfl (lv_at hl 3 rfl) ?_
              refine lv_ishl hx hb d_Mod_signal_71 ?_
              refine k_top (nI_shl _ (by omega)) ?_
              refine lv_iconst (v := nI 1) hx hb d_Mod_signal_72 rfl ?_
              refine lv_isub hx hb d_Mod_signal_73 ?_
              refine k_top (pk_sub (by omega)) ?_
              refine lv_iand hx hb d_Mod_signal_74 ?_
              refine k_top (show y &&& (nI ((1 * 2 ^ Wq) - 1)) = nI (lowb y Wq) from (by rw [Nat.one_mul]; exact lowb_row y (by omega))) ?_
              refine k_ist hx hb hK hP hD hS 3 0 rfl rfl (by omega) (by decide) d_Mod_signal_75 (fun H locs hP hD hS => ?_)
              have bb_7 : ∀ j, upN (upN mRs mN 0) mN (lowb y Wq) j < 256 := upN_lt bR (by have := lowb_lt y Wq; omega)
              have hP : va_P (dC, dI) classes [(a_mod, .inr (6, [.ref a_mkind, .ref a_mwidth, .ref a_mreset, .ref a_mop, .ref a_mka, .ref a_mkb, .ref a_mkc, .ref a_mheld, .int (nI (mN + 1)), .ref a_msort, .ref a_mof, .ref a_mfrom, .int (nI mMs), .ref a_mbit, .ref a_mdone, .ref a_mrests, .ref a_mxx, .ref a_myy, .ref a_mdepth, .ref a_mone, .int (nI mG), .int (nI mCk), .int mFw, .int (nI 0), .ref a_mbefore, .ref a_mfirst, .ref a_mturned])), (a_mkind, .inl (cI, 14, .inl (nF (upN mKd mN X)))), (a_mwidth, .inl (cI, 14, .inl (nF (upN mWd mN Wq)))), (a_mreset, .inl (cI, 14, .inl (nF (upN (upN mRs mN 0) mN (lowb y Wq))))), (a_mheld, .inl (cI, 14, .inl (nF (upN mHd mN 0)))), (a_mop, .inl (cI, 14, .inl (upd mOp mN (-2 : Int32))))] H := hP
              have hD : va_D A [(a_mod, .inr (6, [.ref a_mkind, .ref a_mwidth, .ref a_mreset, .ref a_mop, .ref a_mka, .ref a_mkb, .ref a_mkc, .ref a_mheld, .int (nI (mN + 1)), .ref a_msort, .ref a_mof, .ref a_mfrom, .int (nI mMs), .ref a_mbit, .ref a_mdone, .ref a_mrests, .ref a_mxx, .ref a_myy, .ref a_mdepth, .ref a_mone, .int (nI mG), .int (nI mCk), .int mFw, .int (nI 0), .ref a_mbefore, .ref a_mfirst, .ref a_mturned])), (a_mkind, .inl (cI, 14, .inl (nF (upN mKd mN X)))), (a_mwidth, .inl (cI, 14, .inl (nF (upN mWd mN Wq)))), (a_mreset, .inl (cI, 14, .inl (nF (upN (upN mRs mN 0) mN (lowb y Wq))))), (a_mheld, .inl (cI, 14, .inl (nF (upN mHd mN 0)))), (a_mop, .inl (cI, 14, .inl (upd mOp mN (-2 : Int32))))] := hD
              refine lv_iload hx hb d_Mod_signal_76 (lv_at hl 0 rfl) ?_
              exact W.iret (v := nI mN) hx hb hr (fun t ht hW => ⟨⟨nI mN, (mN + 1, upN mKd mN X, upN mWd mN Wq, upN (upN mRs mN 0) mN (lowb y Wq), upN mHd mN 0, upd mOp mN (-2 : Int32), 0), rfl, ⟨(show (mN + 1) ≤ 14 from by omega), bK, bW, bb_7, bH, (show 0 ≤ 1 from by omega), (show (¬ sgOK x w0 y ∧ (-1) = (nI mN) ∧ mN = (mN + 1) ∧ mKd = (upN mKd mN X) ∧ mWd = (upN mWd mN Wq) ∧ mRs = (upN (upN mRs mN 0) mN (lowb y Wq)) ∧ mHd = (upN mHd mN 0) ∧ mOp = (upd mOp mN (-2 : Int32)) ∧ mRd = 0) ∨ (sgOK x w0 y ∧ mN = 14 ∧ (-3) = (nI mN) ∧ mN = (mN + 1) ∧ mKd = (upN mKd mN X) ∧ mWd = (upN mWd mN Wq) ∧ mRs = (upN (upN mRs mN 0) mN (lowb y Wq)) ∧ mHd = (upN mHd mN 0) ∧ mOp = (upd mOp mN (-2 : Int32)) ∧ mRd = 0) ∨ (sgOK x w0 y ∧ mN < 14 ∧ nI mN = (nI mN) ∧ mN + 1 = (mN + 1) ∧ upN mKd mN (ix x) = (upN mKd mN X) ∧ upN mWd mN (ix w0) = (upN mWd mN Wq) ∧ upN mRs mN (if x.toInt = 2 then lowb y (ix w0) else 0) = (upN (upN mRs mN 0) mN (lowb y Wq)) ∧ upN mHd mN 0 = (upN mHd mN 0) ∧ upd mOp mN (-2) = (upd mOp mN (-2 : Int32)) ∧ 0 = 0) from Or.inr (Or.inr ⟨hq, by omega, rfl, rfl, by rw [ix_of eX hXb], by rw [ix_of eWq hWqb], by rw [if_pos (by omega), ix_of eWq hWqb, upN_upN], rfl, rfl, rfl⟩))⟩, by rw [ht]; exact hP, va_K.moved hW.alike hK, hD⟩, hS.F ht⟩) hS.2.2 d_Mod_signal_78
          · skip
            have c43 : mN = 14 := (nI_eq (by omega) (by omega)).mp c43
            refine lv_bipush (v := (-3 : Int32)) hx hb d_Mod_signal_46 rfl ?_
            exact W.iret (v := (-3 : Int32)) hx hb hr (fun t ht hW => ⟨⟨(-3 : Int32), (mN, mKd, mWd, mRs, mHd, mOp, mRd), rfl, ⟨(show mN ≤ 14 from by omega), b_mKd, b_mWd, b_mRs, b_mHd, (show mRd ≤ 1 from by omega), (show (¬ sgOK x w0 y ∧ (-1) = (-3 : Int32) ∧ mN = mN ∧ mKd = mKd ∧ mWd = mWd ∧ mRs = mRs ∧ mHd = mHd ∧ mOp = mOp ∧ mRd = mRd) ∨ (sgOK x w0 y ∧ mN = 14 ∧ (-3) = (-3 : Int32) ∧ mN = mN ∧ mKd = mKd ∧ mWd = mWd ∧ mRs = mRs ∧ mHd = mHd ∧ mOp = mOp ∧ mRd = mRd) ∨ (sgOK x w0 y ∧ mN < 14 ∧ nI mN = (-3 : Int32) ∧ mN + 1 = mN ∧ upN mKd mN (ix x) = mKd ∧ upN mWd mN (ix w0) = mWd ∧ upN mRs mN (if x.toInt = 2 then lowb y (ix w0) else 0) = mRs ∧ upN mHd mN 0 = mHd ∧ upd mOp mN (-2) = mOp ∧ 0 = mRd) from Or.inr (Or.inl ⟨hq, c43, rfl, rfl, rfl, rfl, rfl, rfl, rfl, rfl⟩))⟩, by rw [ht]; exact hP, va_K.moved hW.alike hK, hD⟩, hS.F ht⟩) hS.2.2 d_Mod_signal_48
        · skip
          have c32 : (inr y.toInt ((0 : Nat) : Int) ((255 : Nat) : Int)) = 0 := (nI_eq0 (Nat.lt_of_le_of_lt (inr_le _ _ _) (by decide))).mp c32
          have q32 := inr_0 c32
          have hq : ¬ sgOK x w0 y := by unfold sgOK; omega
          refine lv_iconst (v := (-1 : Int32)) hx hb d_Mod_signal_35 rfl ?_
          exact W.iret (v := (-1 : Int32)) hx hb hr (fun t ht hW => ⟨⟨(-1 : Int32), (mN, mKd, mWd, mRs, mHd, mOp, mRd), rfl, ⟨(show mN ≤ 14 from by omega), b_mKd, b_mWd, b_mRs, b_mHd, (show mRd ≤ 1 from by omega), (show (¬ sgOK x w0 y ∧ (-1) = (-1 : Int32) ∧ mN = mN ∧ mKd = mKd ∧ mWd = mWd ∧ mRs = mRs ∧ mHd = mHd ∧ mOp = mOp ∧ mRd = mRd) ∨ (sgOK x w0 y ∧ mN = 14 ∧ (-3) = (-1 : Int32) ∧ mN = mN ∧ mKd = mKd ∧ mWd = mWd ∧ mRs = mRs ∧ mHd = mHd ∧ mOp = mOp ∧ mRd = mRd) ∨ (sgOK x w0 y ∧ mN < 14 ∧ nI mN = (-1 : Int32) ∧ mN + 1 = mN ∧ upN mKd mN (ix x) = mKd ∧ upN mWd mN (ix w0) = mWd ∧ upN mRs mN (if x.toInt = 2 then lowb y (ix w0) else 0) = mRs ∧ upN mHd mN 0 = mHd ∧ upd mOp mN (-2) = mOp ∧ 0 = mRd) from Or.inl ⟨hq, rfl, rfl, rfl, rfl, rfl, rfl, rfl, rfl⟩)⟩, by rw [ht]; exact hP, va_K.moved hW.alike hK, hD⟩, hS.F ht⟩) hS.2.2 d_Mod_signal_36
