abbrev b_Net_init : ByteArray := prog_3_method_1_code
def y_Net_init : MethodName := ⟨"CircuitDesk$Net", "<init>", "()V"⟩
def w_Net_init : List Cond := .code y_Net_init b_Net_init 1 none :: lw_gw
theorem d_Net_init_0 : decode b_Net_init 0 = .ok (.aload_n 0, 1) := by decide +kernel
theorem d_Net_init_1 : decode b_Net_init 1 = .ok (.invokespecial 5, 3) := by decide +kernel
theorem d_Net_init_4 : decode b_Net_init 4 = .ok (.aload_n 0, 1) := by decide +kernel
theorem d_Net_init_5 : decode b_Net_init 5 = .ok (.sipush 1393, 3) := by decide +kernel
theorem d_Net_init_8 : decode b_Net_init 8 = .ok (.newarray .int, 2) := by decide +kernel
theorem d_Net_init_10 : decode b_Net_init 10 = .ok (.putfield 11, 3) := by decide +kernel
theorem d_Net_init_13 : decode b_Net_init 13 = .ok (.aload_n 0, 1) := by decide +kernel
theorem d_Net_init_14 : decode b_Net_init 14 = .ok (.sipush 1393, 3) := by decide +kernel
theorem d_Net_init_17 : decode b_Net_init 17 = .ok (.newarray .int, 2) := by decide +kernel
theorem d_Net_init_19 : decode b_Net_init 19 = .ok (.putfield 15, 3) := by decide +kernel
theorem d_Net_init_22 : decode b_Net_init 22 = .ok (.aload_n 0, 1) := by decide +kernel
theorem d_Net_init_23 : decode b_Net_init 23 = .ok (.sipush 1393, 3) := by decide +kernel
theorem d_Net_init_26 : decode b_Net_init 26 = .ok (.newarray .int, 2) := by decide +kernel
theorem d_Net_init_28 : decode b_Net_init 28 = .ok (.putfield 18, 3) := by decide +kernel
theorem d_Net_init_31 : decode b_Net_init 31 = .ok (.aload_n 0, 1) := by decide +kernel
theorem d_Net_init_32 : decode b_Net_init 32 = .ok (.sipush 2048, 3) := by decide +kernel
theorem d_Net_init_35 : decode b_Net_init 35 = .ok (.newarray .int, 2) := by decide +kernel
theorem d_Net_init_37 : decode b_Net_init 37 = .ok (.putfield 21, 3) := by decide +kernel
theorem d_Net_init_40 : decode b_Net_init 40 = .ok (.return_, 1) := by decide +kernel
abbrev b_Sig_init : ByteArray := prog_5_method_1_code
def y_Sig_init : MethodName := ⟨"CircuitDesk$Signals", "<init>", "()V"⟩
def w_Sig_init : List Cond := .code y_Sig_init b_Sig_init 1 none :: lw_gw
theorem d_Sig_init_0 : decode b_Sig_init 0 = .ok (.aload_n 0, 1) := by decide +kernel
theorem d_Sig_init_1 : decode b_Sig_init 1 = .ok (.invokespecial 3, 3) := by decide +kernel
theorem d_Sig_init_4 : decode b_Sig_init 4 = .ok (.aload_n 0, 1) := by decide +kernel
theorem d_Sig_init_5 : decode b_Sig_init 5 = .ok (.bipush 14, 2) := by decide +kernel
theorem d_Sig_init_7 : decode b_Sig_init 7 = .ok (.newarray .int, 2) := by decide +kernel
theorem d_Sig_init_9 : decode b_Sig_init 9 = .ok (.putfield 9, 3) := by decide +kernel
theorem d_Sig_init_12 : decode b_Sig_init 12 = .ok (.aload_n 0, 1) := by decide +kernel
theorem d_Sig_init_13 : decode b_Sig_init 13 = .ok (.bipush 14, 2) := by decide +kernel
theorem d_Sig_init_15 : decode b_Sig_init 15 = .ok (.newarray .int, 2) := by decide +kernel
theorem d_Sig_init_17 : decode b_Sig_init 17 = .ok (.putfield 15, 3) := by decide +kernel
theorem d_Sig_init_20 : decode b_Sig_init 20 = .ok (.aload_n 0, 1) := by decide +kernel
theorem d_Sig_init_21 : decode b_Sig_init 21 = .ok (.bipush 14, 2) := by decide +kernel
theorem d_Sig_init_23 : decode b_Sig_init 23 = .ok (.newarray .int, 2) := by decide +kernel
theorem d_Sig_init_25 : decode b_Sig_init 25 = .ok (.putfield 18, 3) := by decide +kernel
theorem d_Sig_init_28 : decode b_Sig_init 28 = .ok (.aload_n 0, 1) := by decide +kernel
theorem d_Sig_init_29 : decode b_Sig_init 29 = .ok (.bipush 14, 2) := by decide +kernel
theorem d_Sig_init_31 : decode b_Sig_init 31 = .ok (.newarray .int, 2) := by decide +kernel
theorem d_Sig_init_33 : decode b_Sig_init 33 = .ok (.putfield 21, 3) := by decide +kernel
theorem d_Sig_init_36 : decode b_Sig_init 36 = .ok (.aload_n 0, 1) := by decide +kernel
theorem d_Sig_init_37 : decode b_Sig_init 37 = .ok (.bipush 14, 2) := by decide +kernel
theorem d_Sig_init_39 : decode b_Sig_init 39 = .ok (.newarray .int, 2) := by decide +kernel
theorem d_Sig_init_41 : decode b_Sig_init 41 = .ok (.putfield 24, 3) := by decide +kernel
theorem d_Sig_init_44 : decode b_Sig_init 44 = .ok (.aload_n 0, 1) := by decide +kernel
theorem d_Sig_init_45 : decode b_Sig_init 45 = .ok (.bipush 14, 2) := by decide +kernel
theorem d_Sig_init_47 : decode b_Sig_init 47 = .ok (.newarray .int, 2) := by decide +kernel
theorem d_Sig_init_49 : decode b_Sig_init 49 = .ok (.putfield 27, 3) := by decide +kernel
theorem d_Sig_init_52 : decode b_Sig_init 52 = .ok (.aload_n 0, 1) := by decide +kernel
theorem d_Sig_init_53 : decode b_Sig_init 53 = .ok (.bipush 14, 2) := by decide +kernel
theorem d_Sig_init_55 : decode b_Sig_init 55 = .ok (.newarray .int, 2) := by decide +kernel
theorem d_Sig_init_57 : decode b_Sig_init 57 = .ok (.putfield 30, 3) := by decide +kernel
theorem d_Sig_init_60 : decode b_Sig_init 60 = .ok (.return_, 1) := by decide +kernel
abbrev b_Stm_init : ByteArray := prog_6_method_1_code
def y_Stm_init : MethodName := ⟨"CircuitDesk$Statements", "<init>", "()V"⟩
def w_Stm_init : List Cond := .code y_Stm_init b_Stm_init 1 none :: lw_gw
theorem d_Stm_init_0 : decode b_Stm_init 0 = .ok (.aload_n 0, 1) := by decide +kernel
theorem d_Stm_init_1 : decode b_Stm_init 1 = .ok (.invokespecial 3, 3) := by decide +kernel
theorem d_Stm_init_4 : decode b_Stm_init 4 = .ok (.aload_n 0, 1) := by decide +kernel
theorem d_Stm_init_5 : decode b_Stm_init 5 = .ok (.bipush 20, 2) := by decide +kernel
theorem d_Stm_init_7 : decode b_Stm_init 7 = .ok (.newarray .int, 2) := by decide +kernel
theorem d_Stm_init_9 : decode b_Stm_init 9 = .ok (.putfield 9, 3) := by decide +kernel
theorem d_Stm_init_12 : decode b_Stm_init 12 = .ok (.aload_n 0, 1) := by decide +kernel
theorem d_Stm_init_13 : decode b_Stm_init 13 = .ok (.bipush 20, 2) := by decide +kernel
theorem d_Stm_init_15 : decode b_Stm_init 15 = .ok (.newarray .int, 2) := by decide +kernel
theorem d_Stm_init_17 : decode b_Stm_init 17 = .ok (.putfield 15, 3) := by decide +kernel
theorem d_Stm_init_20 : decode b_Stm_init 20 = .ok (.aload_n 0, 1) := by decide +kernel
theorem d_Stm_init_21 : decode b_Stm_init 21 = .ok (.bipush 20, 2) := by decide +kernel
theorem d_Stm_init_23 : decode b_Stm_init 23 = .ok (.newarray .int, 2) := by decide +kernel
theorem d_Stm_init_25 : decode b_Stm_init 25 = .ok (.putfield 18, 3) := by decide +kernel
theorem d_Stm_init_28 : decode b_Stm_init 28 = .ok (.aload_n 0, 1) := by decide +kernel
theorem d_Stm_init_29 : decode b_Stm_init 29 = .ok (.iconst 4, 1) := by decide +kernel
theorem d_Stm_init_30 : decode b_Stm_init 30 = .ok (.newarray .boolean, 2) := by decide +kernel
theorem d_Stm_init_32 : decode b_Stm_init 32 = .ok (.putfield 21, 3) := by decide +kernel
theorem d_Stm_init_35 : decode b_Stm_init 35 = .ok (.return_, 1) := by decide +kernel
abbrev b_Chk_init : ByteArray := prog_2_method_1_code
def y_Chk_init : MethodName := ⟨"CircuitDesk$Checks", "<init>", "(LCircuitDesk$Signals;LCircuitDesk$Statements;)V"⟩
def w_Chk_init : List Cond := .code y_Chk_init b_Chk_init 3 none :: lw_gw
theorem d_Chk_init_0 : decode b_Chk_init 0 = .ok (.aload_n 0, 1) := by decide +kernel
theorem d_Chk_init_1 : decode b_Chk_init 1 = .ok (.invokespecial 3, 3) := by decide +kernel
theorem d_Chk_init_4 : decode b_Chk_init 4 = .ok (.aload_n 0, 1) := by decide +kernel
theorem d_Chk_init_5 : decode b_Chk_init 5 = .ok (.bipush 14, 2) := by decide +kernel
theorem d_Chk_init_7 : decode b_Chk_init 7 = .ok (.newarray .int, 2) := by decide +kernel
theorem d_Chk_init_9 : decode b_Chk_init 9 = .ok (.putfield 9, 3) := by decide +kernel
theorem d_Chk_init_12 : decode b_Chk_init 12 = .ok (.aload_n 0, 1) := by decide +kernel
theorem d_Chk_init_13 : decode b_Chk_init 13 = .ok (.bipush 14, 2) := by decide +kernel
theorem d_Chk_init_15 : decode b_Chk_init 15 = .ok (.newarray .int, 2) := by decide +kernel
theorem d_Chk_init_17 : decode b_Chk_init 17 = .ok (.putfield 15, 3) := by decide +kernel
theorem d_Chk_init_20 : decode b_Chk_init 20 = .ok (.aload_n 0, 1) := by decide +kernel
theorem d_Chk_init_21 : decode b_Chk_init 21 = .ok (.iconst 5, 1) := by decide +kernel
theorem d_Chk_init_22 : decode b_Chk_init 22 = .ok (.newarray .int, 2) := by decide +kernel
theorem d_Chk_init_24 : decode b_Chk_init 24 = .ok (.putfield 18, 3) := by decide +kernel
theorem d_Chk_init_27 : decode b_Chk_init 27 = .ok (.aload_n 0, 1) := by decide +kernel
theorem d_Chk_init_28 : decode b_Chk_init 28 = .ok (.iconst 5, 1) := by decide +kernel
theorem d_Chk_init_29 : decode b_Chk_init 29 = .ok (.newarray .int, 2) := by decide +kernel
theorem d_Chk_init_31 : decode b_Chk_init 31 = .ok (.putfield 21, 3) := by decide +kernel
theorem d_Chk_init_34 : decode b_Chk_init 34 = .ok (.aload_n 0, 1) := by decide +kernel
theorem d_Chk_init_35 : decode b_Chk_init 35 = .ok (.iconst 5, 1) := by decide +kernel
theorem d_Chk_init_36 : decode b_Chk_init 36 = .ok (.newarray .int, 2) := by decide +kernel
theorem d_Chk_init_38 : decode b_Chk_init 38 = .ok (.putfield 24, 3) := by decide +kernel
theorem d_Chk_init_41 : decode b_Chk_init 41 = .ok (.aload_n 0, 1) := by decide +kernel
theorem d_Chk_init_42 : decode b_Chk_init 42 = .ok (.aload_n 1, 1) := by decide +kernel
theorem d_Chk_init_43 : decode b_Chk_init 43 = .ok (.putfield 27, 3) := by decide +kernel
theorem d_Chk_init_46 : decode b_Chk_init 46 = .ok (.aload_n 0, 1) := by decide +kernel
theorem d_Chk_init_47 : decode b_Chk_init 47 = .ok (.aload_n 2, 1) := by decide +kernel
theorem d_Chk_init_48 : decode b_Chk_init 48 = .ok (.putfield 31, 3) := by decide +kernel
theorem d_Chk_init_51 : decode b_Chk_init 51 = .ok (.return_, 1) := by decide +kernel
abbrev b_Mkr_init : ByteArray := prog_4_method_1_code
def y_Mkr_init : MethodName := ⟨"CircuitDesk$NetMaker", "<init>", "(LCircuitDesk$Signals;LCircuitDesk$Statements;LCircuitDesk$Checks;LCircuitDesk$Net;)V"⟩
def w_Mkr_init : List Cond := .code y_Mkr_init b_Mkr_init 5 none :: lw_gw
theorem d_Mkr_init_0 : decode b_Mkr_init 0 = .ok (.aload_n 0, 1) := by decide +kernel
theorem d_Mkr_init_1 : decode b_Mkr_init 1 = .ok (.invokespecial 3, 3) := by decide +kernel
theorem d_Mkr_init_4 : decode b_Mkr_init 4 = .ok (.aload_n 0, 1) := by decide +kernel
theorem d_Mkr_init_5 : decode b_Mkr_init 5 = .ok (.bipush 112, 2) := by decide +kernel
theorem d_Mkr_init_7 : decode b_Mkr_init 7 = .ok (.newarray .int, 2) := by decide +kernel
theorem d_Mkr_init_9 : decode b_Mkr_init 9 = .ok (.putfield 9, 3) := by decide +kernel
theorem d_Mkr_init_12 : decode b_Mkr_init 12 = .ok (.aload_n 0, 1) := by decide +kernel
theorem d_Mkr_init_13 : decode b_Mkr_init 13 = .ok (.bipush 112, 2) := by decide +kernel
theorem d_Mkr_init_15 : decode b_Mkr_init 15 = .ok (.newarray .int, 2) := by decide +kernel
theorem d_Mkr_init_17 : decode b_Mkr_init 17 = .ok (.putfield 15, 3) := by decide +kernel
theorem d_Mkr_init_20 : decode b_Mkr_init 20 = .ok (.aload_n 0, 1) := by decide +kernel
theorem d_Mkr_init_21 : decode b_Mkr_init 21 = .ok (.bipush 8, 2) := by decide +kernel
theorem d_Mkr_init_23 : decode b_Mkr_init 23 = .ok (.newarray .int, 2) := by decide +kernel
theorem d_Mkr_init_25 : decode b_Mkr_init 25 = .ok (.putfield 18, 3) := by decide +kernel
theorem d_Mkr_init_28 : decode b_Mkr_init 28 = .ok (.aload_n 0, 1) := by decide +kernel
theorem d_Mkr_init_29 : decode b_Mkr_init 29 = .ok (.iconst 5, 1) := by decide +kernel
theorem d_Mkr_init_30 : decode b_Mkr_init 30 = .ok (.newarray .int, 2) := by decide +kernel
theorem d_Mkr_init_32 : decode b_Mkr_init 32 = .ok (.putfield 21, 3) := by decide +kernel
theorem d_Mkr_init_35 : decode b_Mkr_init 35 = .ok (.aload_n 0, 1) := by decide +kernel
theorem d_Mkr_init_36 : decode b_Mkr_init 36 = .ok (.iconst 5, 1) := by decide +kernel
theorem d_Mkr_init_37 : decode b_Mkr_init 37 = .ok (.newarray .int, 2) := by decide +kernel
theorem d_Mkr_init_39 : decode b_Mkr_init 39 = .ok (.putfield 24, 3) := by decide +kernel
theorem d_Mkr_init_42 : decode b_Mkr_init 42 = .ok (.aload_n 0, 1) := by decide +kernel
theorem d_Mkr_init_43 : decode b_Mkr_init 43 = .ok (.iconst 5, 1) := by decide +kernel
theorem d_Mkr_init_44 : decode b_Mkr_init 44 = .ok (.newarray .int, 2) := by decide +kernel
theorem d_Mkr_init_46 : decode b_Mkr_init 46 = .ok (.putfield 27, 3) := by decide +kernel
theorem d_Mkr_init_49 : decode b_Mkr_init 49 = .ok (.aload_n 0, 1) := by decide +kernel
theorem d_Mkr_init_50 : decode b_Mkr_init 50 = .ok (.iconst 5, 1) := by decide +kernel
theorem d_Mkr_init_51 : decode b_Mkr_init 51 = .ok (.newarray .boolean, 2) := by decide +kernel
theorem d_Mkr_init_53 : decode b_Mkr_init 53 = .ok (.putfield 30, 3) := by decide +kernel
theorem d_Mkr_init_56 : decode b_Mkr_init 56 = .ok (.aload_n 0, 1) := by decide +kernel
theorem d_Mkr_init_57 : decode b_Mkr_init 57 = .ok (.aload_n 1, 1) := by decide +kernel
theorem d_Mkr_init_58 : decode b_Mkr_init 58 = .ok (.putfield 34, 3) := by decide +kernel
theorem d_Mkr_init_61 : decode b_Mkr_init 61 = .ok (.aload_n 0, 1) := by decide +kernel
theorem d_Mkr_init_62 : decode b_Mkr_init 62 = .ok (.aload_n 2, 1) := by decide +kernel
theorem d_Mkr_init_63 : decode b_Mkr_init 63 = .ok (.putfield 38, 3) := by decide +kernel
theorem d_Mkr_init_66 : decode b_Mkr_init 66 = .ok (.aload_n 0, 1) := by decide +kernel
theorem d_Mkr_init_67 : decode b_Mkr_init 67 = .ok (.aload_n 3, 1) := by decide +kernel
theorem d_Mkr_init_68 : decode b_Mkr_init 68 = .ok (.putfield 42, 3) := by decide +kernel
theorem d_Mkr_init_71 : decode b_Mkr_init 71 = .ok (.aload_n 0, 1) := by decide +kernel
theorem d_Mkr_init_72 : decode b_Mkr_init 72 = .ok (.aload 4, 2) := by decide +kernel
theorem d_Mkr_init_74 : decode b_Mkr_init 74 = .ok (.putfield 46, 3) := by decide +kernel
theorem d_Mkr_init_77 : decode b_Mkr_init 77 = .ok (.return_, 1) := by decide +kernel
set_option maxHeartbeats 4000000 in
set_option maxRecDepth 100000 in
theorem c_Net_init (l : Launch) (dC : Nat → ClassId) (dI : Nat → Nat → Nat) (cI cZ : ClassId) (a_net : Nat) (tt sz : Nat) : Met l y_Net_init w_Net_init ({ frames := 1, cells := 4, slots := 6227, locals := 20 }) (va_Pc [.ref a_net] (PW (dC, dI) classes [(cI, .int), (cZ, .boolean)] tt [(a_net, .inr (0, [.int (nI 0), .int (nI 0), .null, .null, .null, .null, .int (nI 0)]))] sz)) (va_Qv (fun (_ : Nat × Nat × Nat × Nat) => True) (AT (dC, dI) classes [(cI, .int), (cZ, .boolean)] (va_A [(a_net, .inr (0, [.int (nI 0), .int (nI 0), .null, .null, .null, .null, .int (nI 0)]))] sz) (fun (u : Nat × Nat × Nat × Nat) => [(a_net, .inr (0, [.int (nI 0), .int (nI 0), .ref u.1, .ref u.2.1, .ref u.2.2.1, .ref u.2.2.2, .int (nI 0)])), (u.1, .inl (cI, 1393, .inl (nF (fun _ => 0)))), (u.2.1, .inl (cI, 1393, .inl (nF (fun _ => 0)))), (u.2.2.1, .inl (cI, 1393, .inl (nF (fun _ => 0)))), (u.2.2.2, .inl (cI, 2048, .inl (nF (fun _ => 0))))])) (va_A [(a_net, .inr (0, [.int (nI 0), .int (nI 0), .null, .null, .null, .null, .int (nI 0)]))] sz)) 4 6227 (va_A [(a_net, .inr (0, [.int (nI 0), .int (nI 0), .null, .null, .null, .null, .int (nI 0)]))] sz) := by
  refine Met.ofW (cc := b_Net_init) (maxL := 1) (ret := none) (by decide) rfl ?_
  intro p e s m args below meth c s₁ B hml hv
  obtain ⟨rfl, hsz, hP, hK, hD0, hE⟩ := hv
  have hx := B.exec
  have hb := B.bytes
  have hr := B.returns
  have hts := atoms_spec (ws := w_Net_init) B.pre
  have hown : s.vm.findClass R_Net = some m.cls := findClass_of_methodNamed B.named
  have hlocks := B.notSynchronized
  have hin : meth.name = "<init>" := (name_of_methodNamed B.named B.method).1
  subst hsz
  have hD := hD0.self (sz := s.heap.size)
  generalize hAe : va_A [(a_net, .inr (0, [.int (nI 0), .int (nI 0), .null, .null, .null, .null, .int (nI 0)]))] s.heap.size = A at hD hE ⊢
  have hA : ∀ q : Nat, s.heap.size ≤ q → A q := fun q h => by rw [← hAe]; exact Or.inr h
  have hS : va_S A s.heap s.heap [] := va_S.rf
  have hP : va_P (dC, dI) classes [(a_net, .inr (0, [.int (nI 0), .int (nI 0), .null, .null, .null, .null, .int (nI 0)]))] s.heap := hP
  have hl := lv_entry ([.ref a_net]) (n := 1) (Nat.le_of_ble_eq_true rfl)
  rw [lg_entry_eq]
  generalize (lg_sl ([.ref a_net]) ++ List.replicate (1 - (lg_sl ([.ref a_net])).length) Slot.unset).toArray = ls at hl ⊢
  have hl : lv_has ls 1 [(0, .ref a_net)] := hl
  refine lv_aload_n hx hb d_Net_init_0 rfl (lv_at hl 0 rfl) ?_
  refine W.objInit hx hb hown (hts _ (mt 175 rfl rfl)) (hts _ (mt 57 rfl rfl)) (hts _ (mt 58 rfl rfl)) rfl (by rw [hml]; exact hl.1) rfl d_Net_init_1 (Nat.le_of_ble_eq_true rfl) (Nat.le_of_ble_eq_true rfl) ?_
  refine W.eq (g2 := F0 m 4 ls []) rfl ?_
  refine lv_aload_n hx hb d_Net_init_4 rfl (lv_at hl 0 rfl) ?_
  refine lv_sipush (v := nI 1393) hx hb d_Net_init_5 rfl ?_
  refine k_newI hx hb (hts _ (mt 104 rfl rfl)) rfl hK hP hD hS hA 0 rfl (by decide) (Nat.le_of_ble_eq_true rfl) (Nat.le_of_ble_eq_true rfl) d_Net_init_8 (fun a_pairs H hP hD hS => ?_)
  have hP : va_P (dC, dI) classes [(a_net, .inr (0, [.int (nI 0), .int (nI 0), .null, .null, .null, .null, .int (nI 0)])), (a_pairs, .inl (cI, 1393, .inl (nF (fun _ => 0))))] H := hP
  have hD : va_D A [(a_net, .inr (0, [.int (nI 0), .int (nI 0), .null, .null, .null, .null, .int (nI 0)])), (a_pairs, .inl (cI, 1393, .inl (nF (fun _ => 0))))] := hD
  refine W.widen (k := 1) (n := 1393) (by omega) (by omega) ?_
  refine va_putF (D := (dC, dI)) (ci := 0) (v := .ref a_pairs) (ty := .array .int) (C := R_Net) (T := F_Net) (N := 7) hx hb hts (wi i_Net) t_Net t_Net_ok n_Net hown hK hP hD hS 0 rfl rfl 2 (by decide) (hts _ (mt 180 rfl rfl)) (fun _ h9 => h9) rfl hin rfl (by decide +kernel) rfl rfl (Nat.le_of_ble_eq_true rfl) d_Net_init_10 (fun H locs hP hD hS => ?_)
  have hP : va_P (dC, dI) classes [(a_net, .inr (0, [.int (nI 0), .int (nI 0), .ref a_pairs, .null, .null, .null, .int (nI 0)])), (a_pairs, .inl (cI, 1393, .inl (nF (fun _ => 0))))] H := hP
  have hD : va_D A [(a_net, .inr (0, [.int (nI 0), .int (nI 0), .ref a_pairs, .null, .null, .null, .int (nI 0)])), (a_pairs, .inl (cI, 1393, .inl (nF (fun _ => 0))))] := hD
  refine lv_aload_n hx hb d_Net_init_13 rfl (lv_at hl 0 rfl) ?_
  refine lv_sipush (v := nI 1393) hx hb d_Net_init_14 rfl ?_
  refine k_newI hx hb (hts _ (mt 104 rfl rfl)) rfl hK hP hD hS hA 0 rfl (by decide) (Nat.le_of_ble_eq_true rfl) (Nat.le_of_ble_eq_true rfl) d_Net_init_17 (fun a_depths H hP hD hS => ?_)
  have hP : va_P (dC, dI) classes [(a_net, .inr (0, [.int (nI 0), .int (nI 0), .ref a_pairs, .null, .null, .null, .int (nI 0)])), (a_pairs, .inl (cI, 1393, .inl (nF (fun _ => 0)))), (a_depths, .inl (cI, 1393, .inl (nF (fun _ => 0))))] H := hP
  have hD : va_D A [(a_net, .inr (0, [.int (nI 0), .int (nI 0), .ref a_pairs, .null, .null, .null, .int (nI 0)])), (a_pairs, .inl (cI, 1393, .inl (nF (fun _ => 0)))), (a_depths, .inl (cI, 1393, .inl (nF (fun _ => 0))))] := hD
  refine W.widen (k := 2) (n := 2786) (by omega) (by omega) ?_
  refine va_putF (D := (dC, dI)) (ci := 0) (v := .ref a_depths) (ty := .array .int) (C := R_Net) (T := F_Net) (N := 7) hx hb hts (wi i_Net) t_Net t_Net_ok n_Net hown hK hP hD hS 0 rfl rfl 3 (by decide) (hts _ (mt 181 rfl rfl)) (fun _ h9 => h9) rfl hin rfl (by decide +kernel) rfl rfl (Nat.le_of_ble_eq_true rfl) d_Net_init_19 (fun H locs hP hD hS => ?_)
  have hP : va_P (dC, dI) classes [(a_net, .inr (0, [.int (nI 0), .int (nI 0), .ref a_pairs, .ref a_depths, .null, .null, .int (nI 0)])), (a_pairs, .inl (cI, 1393, .inl (nF (fun _ => 0)))), (a_depths, .inl (cI, 1393, .inl (nF (fun _ => 0))))] H := hP
  have hD : va_D A [(a_net, .inr (0, [.int (nI 0), .int (nI 0), .ref a_pairs, .ref a_depths, .null, .null, .int (nI 0)])), (a_pairs, .inl (cI, 1393, .inl (nF (fun _ => 0)))), (a_depths, .inl (cI, 1393, .inl (nF (fun _ => 0))))] := hD
  refine lv_aload_n hx hb d_Net_init_22 rfl (lv_at hl 0 rfl) ?_
  refine lv_sipush (v := nI 1393) hx hb d_Net_init_23 rfl ?_
  refine k_newI hx hb (hts _ (mt 104 rfl rfl)) rfl hK hP hD hS hA 0 rfl (by decide) (Nat.le_of_ble_eq_true rfl) (Nat.le_of_ble_eq_true rfl) d_Net_init_26 (fun a_values H hP hD hS => ?_)
  have hP : va_P (dC, dI) classes [(a_net, .inr (0, [.int (nI 0), .int (nI 0), .ref a_pairs, .ref a_depths, .null, .null, .int (nI 0)])), (a_pairs, .inl (cI, 1393, .inl (nF (fun _ => 0)))), (a_depths, .inl (cI, 1393, .inl (nF (fun _ => 0)))), (a_values, .inl (cI, 1393, .inl (nF (fun _ => 0))))] H := hP
  have hD : va_D A [(a_net, .inr (0, [.int (nI 0), .int (nI 0), .ref a_pairs, .ref a_depths, .null, .null, .int (nI 0)])), (a_pairs, .inl (cI, 1393, .inl (nF (fun _ => 0)))), (a_depths, .inl (cI, 1393, .inl (nF (fun _ => 0)))), (a_values, .inl (cI, 1393, .inl (nF (fun _ => 0))))] := hD
  refine W.widen (k := 3) (n := 4179) (by omega) (by omega) ?_
  refine va_putF (D := (dC, dI)) (ci := 0) (v := .ref a_values) (ty := .array .int) (C := R_Net) (T := F_Net) (N := 7) hx hb hts (wi i_Net) t_Net t_Net_ok n_Net hown hK hP hD hS 0 rfl rfl 4 (by decide) (hts _ (mt 182 rfl rfl)) (fun _ h9 => h9) rfl hin rfl (by decide +kernel) rfl rfl (Nat.le_of_ble_eq_true rfl) d_Net_init_28 (fun H locs hP hD hS => ?_)
  have hP : va_P (dC, dI) classes [(a_net, .inr (0, [.int (nI 0), .int (nI 0), .ref a_pairs, .ref a_depths, .ref a_values, .null, .int (nI 0)])), (a_pairs, .inl (cI, 1393, .inl (nF (fun _ => 0)))), (a_depths, .inl (cI, 1393, .inl (nF (fun _ => 0)))), (a_values, .inl (cI, 1393, .inl (nF (fun _ => 0))))] H := hP
  have hD : va_D A [(a_net, .inr (0, [.int (nI 0), .int (nI 0), .ref a_pairs, .ref a_depths, .ref a_values, .null, .int (nI 0)])), (a_pairs, .inl (cI, 1393, .inl (nF (fun _ => 0)))), (a_depths, .inl (cI, 1393, .inl (nF (fun _ => 0)))), (a_values, .inl (cI, 1393, .inl (nF (fun _ => 0))))] := hD
  refine lv_aload_n hx hb d_Net_init_31 rfl (lv_at hl 0 rfl) ?_
  refine lv_sipush (v := nI 2048) hx hb d_Net_init_32 rfl ?_
  refine k_newI hx hb (hts _ (mt 104 rfl rfl)) rfl hK hP hD hS hA 0 rfl (by decide) (Nat.le_of_ble_eq_true rfl) (Nat.le_of_ble_eq_true rfl) d_Net_init_35 (fun a_slots H hP hD hS => ?_)
  have hP : va_P (dC, dI) classes [(a_net, .inr (0, [.int (nI 0), .int (nI 0), .ref a_pairs, .ref a_depths, .ref a_values, .null, .int (nI 0)])), (a_pairs, .inl (cI, 1393, .inl (nF (fun _ => 0)))), (a_depths, .inl (cI, 1393, .inl (nF (fun _ => 0)))), (a_values, .inl (cI, 1393, .inl (nF (fun _ => 0)))), (a_slots, .inl (cI, 2048, .inl (nF (fun _ => 0))))] H := hP
  have hD : va_D A [(a_net, .inr (0, [.int (nI 0), .int (nI 0), .ref a_pairs, .ref a_depths, .ref a_values, .null, .int (nI 0)])), (a_pairs, .inl (cI, 1393, .inl (nF (fun _ => 0)))), (a_depths, .inl (cI, 1393, .inl (nF (fun _ => 0)))), (a_values, .inl (cI, 1393, .inl (nF (fun _ => 0)))), (a_slots, .inl (cI, 2048, .inl (nF (fun _ => 0))))] := hD
  refine W.widen (k := 4) (n := 6227) (by omega) (by omega) ?_
  refine va_putF (D := (dC, dI)) (ci := 0) (v := .ref a_slots) (ty := .array .int) (C := R_Net) (T := F_Net) (N := 7) hx hb hts (wi i_Net) t_Net t_Net_ok n_Net hown hK hP hD hS 0 rfl rfl 5 (by decide) (hts _ (mt 183 rfl rfl)) (fun _ h9 => h9) rfl hin rfl (by decide +kernel) rfl rfl (Nat.le_of_ble_eq_true rfl) d_Net_init_37 (fun H locs hP hD hS => ?_)
  have hP : va_P (dC, dI) classes [(a_net, .inr (0, [.int (nI 0), .int (nI 0), .ref a_pairs, .ref a_depths, .ref a_values, .ref a_slots, .int (nI 0)])), (a_pairs, .inl (cI, 1393, .inl (nF (fun _ => 0)))), (a_depths, .inl (cI, 1393, .inl (nF (fun _ => 0)))), (a_values, .inl (cI, 1393, .inl (nF (fun _ => 0)))), (a_slots, .inl (cI, 2048, .inl (nF (fun _ => 0))))] H := hP
  have hD : va_D A [(a_net, .inr (0, [.int (nI 0), .int (nI 0), .ref a_pairs, .ref a_depths, .ref a_values, .ref a_slots, .int (nI 0)])), (a_pairs, .inl (cI, 1393, .inl (nF (fun _ => 0)))), (a_depths, .inl (cI, 1393, .inl (nF (fun _ => 0)))), (a_values, .inl (cI, 1393, .inl (nF (fun _ => 0)))), (a_slots, .inl (cI, 2048, .inl (nF (fun _ => 0))))] := hD
  exact W.vret hx hb hr (fun t ht hW => ⟨⟨(a_pairs, a_depths, a_values, a_slots), rfl, trivial, by rw [ht]; exact hP, va_K.moved hW.alike hK, hD⟩, hS.F ht⟩) hS.2.2 d_Net_init_40
set_option maxHeartbeats 4000000 in
set_option maxRecDepth 100000 in
theorem c_Sig_init (l : Launch) (dC : Nat → ClassId) (dI : Nat → Nat → Nat) (cI cZ : ClassId) (a_sig : Nat) (tt sz : Nat) : Met l y_Sig_init w_Sig_init ({ frames := 1, cells := 7, slots := 98, locals := 20 }) (va_Pc [.ref a_sig] (PW (dC, dI) classes [(cI, .int), (cZ, .boolean)] tt [(a_sig, .inr (1, [.null, .null, .null, .null, .null, .null, .null, .int (nI 0)]))] sz)) (va_Qv (fun (_ : Nat × Nat × Nat × Nat × Nat × Nat × Nat) => True) (AT (dC, dI) classes [(cI, .int), (cZ, .boolean)] (va_A [(a_sig, .inr (1, [.null, .null, .null, .null, .null, .null, .null, .int (nI 0)]))] sz) (fun (u : Nat × Nat × Nat × Nat × Nat × Nat × Nat) => [(a_sig, .inr (1, [.ref u.1, .ref u.2.1, .ref u.2.2.1, .ref u.2.2.2.1, .ref u.2.2.2.2.1, .ref u.2.2.2.2.2.1, .ref u.2.2.2.2.2.2, .int (nI 0)])), (u.1, .inl (cI, 14, .inl (nF (fun _ => 0)))), (u.2.1, .inl (cI, 14, .inl (nF (fun _ => 0)))), (u.2.2.1, .inl (cI, 14, .inl (nF (fun _ => 0)))), (u.2.2.2.1, .inl (cI, 14, .inl (nF (fun _ => 0)))), (u.2.2.2.2.1, .inl (cI, 14, .inl (nF (fun _ => 0)))), (u.2.2.2.2.2.1, .inl (cI, 14, .inl (nF (fun _ => 0)))), (u.2.2.2.2.2.2, .inl (cI, 14, .inl (nF (fun _ => 0))))])) (va_A [(a_sig, .inr (1, [.null, .null, .null, .null, .null, .null, .null, .int (nI 0)]))] sz)) 7 98 (va_A [(a_sig, .inr (1, [.null, .null, .null, .null, .null, .null, .null, .int (nI 0)]))] sz) := by
  refine Met.ofW (cc := b_Sig_init) (maxL := 1) (ret := none) (by decide) rfl ?_
  intro p e s m args below meth c s₁ B hml hv
  obtain ⟨rfl, hsz, hP, hK, hD0, hE⟩ := hv
  have hx := B.exec
  have hb := B.bytes
  have hr := B.returns
  have hts := atoms_spec (ws := w_Sig_init) B.pre
  have hown : s.vm.findClass R_Sig = some m.cls := findClass_of_methodNamed B.named
  have hlocks := B.notSynchronized
  have hin : meth.name = "<init>" := (name_of_methodNamed B.named B.method).1
  subst hsz
  have hD := hD0.self (sz := s.heap.size)
  generalize hAe : va_A [(a_sig, .inr (1, [.null, .null, .null, .null, .null, .null, .null, .int (nI 0)]))] s.heap.size = A at hD hE ⊢
  have hA : ∀ q : Nat, s.heap.size ≤ q → A q := fun q h => by rw [← hAe]; exact Or.inr h
  have hS : va_S A s.heap s.heap [] := va_S.rf
  have hP : va_P (dC, dI) classes [(a_sig, .inr (1, [.null, .null, .null, .null, .null, .null, .null, .int (nI 0)]))] s.heap := hP
  have hl := lv_entry ([.ref a_sig]) (n := 1) (Nat.le_of_ble_eq_true rfl)
  rw [lg_entry_eq]
  generalize (lg_sl ([.ref a_sig]) ++ List.replicate (1 - (lg_sl ([.ref a_sig])).length) Slot.unset).toArray = ls at hl ⊢
  have hl : lv_has ls 1 [(0, .ref a_sig)] := hl
  refine lv_aload_n hx hb d_Sig_init_0 rfl (lv_at hl 0 rfl) ?_
  refine W.objInit hx hb hown (hts _ (mt 64 rfl rfl)) (hts _ (mt 57 rfl rfl)) (hts _ (mt 58 rfl rfl)) rfl (by rw [hml]; exact hl.1) rfl d_Sig_init_1 (Nat.le_of_ble_eq_true rfl) (Nat.le_of_ble_eq_true rfl) ?_
  refine W.eq (g2 := F0 m 4 ls []) rfl ?_
  refine lv_aload_n hx hb d_Sig_init_4 rfl (lv_at hl 0 rfl) ?_
  refine lv_bipush (v := nI 14) hx hb d_Sig_init_5 rfl ?_
  refine k_newI hx hb (hts _ (mt 104 rfl rfl)) rfl hK hP hD hS hA 0 rfl (by decide) (Nat.le_of_ble_eq_true rfl) (Nat.le_of_ble_eq_true rfl) d_Sig_init_7 (fun a_kind H hP hD hS => ?_)
  have hP : va_P (dC, dI) classes [(a_sig, .inr (1, [.null, .null, .null, .null, .null, .null, .null, .int (nI 0)])), (a_kind, .inl (cI, 14, .inl (nF (fun _ => 0))))] H := hP
  have hD : va_D A [(a_sig, .inr (1, [.null, .null, .null, .null, .null, .null, .null, .int (nI 0)])), (a_kind, .inl (cI, 14, .inl (nF (fun _ => 0))))] := hD
  refine W.widen (k := 1) (n := 14) (by omega) (by omega) ?_
  refine va_putF (D := (dC, dI)) (ci := 1) (v := .ref a_kind) (ty := .array .int) (C := R_Sig) (T := F_Sig) (N := 8) hx hb hts (wi i_Sig) t_Sig t_Sig_ok n_Sig hown hK hP hD hS 0 rfl rfl 0 (by decide) (hts _ (mt 65 rfl rfl)) (fun _ h9 => h9) rfl hin rfl (by decide +kernel) rfl rfl (Nat.le_of_ble_eq_true rfl) d_Sig_init_9 (fun H locs hP hD hS => ?_)
  have hP : va_P (dC, dI) classes [(a_sig, .inr (1, [.ref a_kind, .null, .null, .null, .null, .null, .null, .int (nI 0)])), (a_kind, .inl (cI, 14, .inl (nF (fun _ => 0))))] H := hP
  have hD : va_D A [(a_sig, .inr (1, [.ref a_kind, .null, .null, .null, .null, .null, .null, .int (nI 0)])), (a_kind, .inl (cI, 14, .inl (nF (fun _ => 0))))] := hD
  refine lv_aload_n hx hb d_Sig_init_12 rfl (lv_at hl 0 rfl) ?_
  refine lv_bipush (v := nI 14) hx hb d_Sig_init_13 rfl ?_
  refine k_newI hx hb (hts _ (mt 104 rfl rfl)) rfl hK hP hD hS hA 0 rfl (by decide) (Nat.le_of_ble_eq_true rfl) (Nat.le_of_ble_eq_true rfl) d_Sig_init_15 (fun a_width H hP hD hS => ?_)
  have hP : va_P (dC, dI) classes [(a_sig, .inr (1, [.ref a_kind, .null, .null, .null, .null, .null, .null, .int (nI 0)])), (a_kind, .inl (cI, 14, .inl (nF (fun _ => 0)))), (a_width, .inl (cI, 14, .inl (nF (fun _ => 0))))] H := hP
  have hD : va_D A [(a_sig, .inr (1, [.ref a_kind, .null, .null, .null, .null, .null, .null, .int (nI 0)])), (a_kind, .inl (cI, 14, .inl (nF (fun _ => 0)))), (a_width, .inl (cI, 14, .inl (nF (fun _ => 0))))] := hD
  refine W.widen (k := 2) (n := 28) (by omega) (by omega) ?_
  refine va_putF (D := (dC, dI)) (ci := 1) (v := .ref a_width) (ty := .array .int) (C := R_Sig) (T := F_Sig) (N := 8) hx hb hts (wi i_Sig) t_Sig t_Sig_ok n_Sig hown hK hP hD hS 0 rfl rfl 1 (by decide) (hts _ (mt 69 rfl rfl)) (fun _ h9 => h9) rfl hin rfl (by decide +kernel) rfl rfl (Nat.le_of_ble_eq_true rfl) d_Sig_init_17 (fun H locs hP hD hS => ?_)
  have hP : va_P (dC, dI) classes [(a_sig, .inr (1, [.ref a_kind, .ref a_width, .null, .null, .null, .null, .null, .int (nI 0)])), (a_kind, .inl (cI, 14, .inl (nF (fun _ => 0)))), (a_width, .inl (cI, 14, .inl (nF (fun _ => 0))))] H := hP
  have hD : va_D A [(a_sig, .inr (1, [.ref a_kind, .ref a_width, .null, .null, .null, .null, .null, .int (nI 0)])), (a_kind, .inl (cI, 14, .inl (nF (fun _ => 0)))), (a_width, .inl (cI, 14, .inl (nF (fun _ => 0))))] := hD
  refine lv_aload_n hx hb d_Sig_init_20 rfl (lv_at hl 0 rfl) ?_
  refine lv_bipush (v := nI 14) hx hb d_Sig_init_21 rfl ?_
  refine k_newI hx hb (hts _ (mt 104 rfl rfl)) rfl hK hP hD hS hA 0 rfl (by decide) (Nat.le_of_ble_eq_true rfl) (Nat.le_of_ble_eq_true rfl) d_Sig_init_23 (fun a_rword H hP hD hS => ?_)
  have hP : va_P (dC, dI) classes [(a_sig, .inr (1, [.ref a_kind, .ref a_width, .null, .null, .null, .null, .null, .int (nI 0)])), (a_kind, .inl (cI, 14, .inl (nF (fun _ => 0)))), (a_width, .inl (cI, 14, .inl (nF (fun _ => 0)))), (a_rword, .inl (cI, 14, .inl (nF (fun _ => 0))))] H := hP
  have hD : va_D A [(a_sig, .inr (1, [.ref a_kind, .ref a_width, .null, .null, .null, .null, .null, .int (nI 0)])), (a_kind, .inl (cI, 14, .inl (nF (fun _ => 0)))), (a_width, .inl (cI, 14, .inl (nF (fun _ => 0)))), (a_rword, .inl (cI, 14, .inl (nF (fun _ => 0))))] := hD
  refine W.widen (k := 3) (n := 42) (by omega) (by omega) ?_
  refine va_putF (D := (dC, dI)) (ci := 1) (v := .ref a_rword) (ty := .array .int) (C := R_Sig) (T := F_Sig) (N := 8) hx hb hts (wi i_Sig) t_Sig t_Sig_ok n_Sig hown hK hP hD hS 0 rfl rfl 2 (by decide) (hts _ (mt 72 rfl rfl)) (fun _ h9 => h9) rfl hin rfl (by decide +kernel) rfl rfl (Nat.le_of_ble_eq_true rfl) d_Sig_init_25 (fun H locs hP hD hS => ?_)
  have hP : va_P (dC, dI) classes [(a_sig, .inr (1, [.ref a_kind, .ref a_width, .ref a_rword, .null, .null, .null, .null, .int (nI 0)])), (a_kind, .inl (cI, 14, .inl (nF (fun _ => 0)))), (a_width, .inl (cI, 14, .inl (nF (fun _ => 0)))), (a_rword, .inl (cI, 14, .inl (nF (fun _ => 0))))] H := hP
  have hD : va_D A [(a_sig, .inr (1, [.ref a_kind, .ref a_width, .ref a_rword, .null, .null, .null, .null, .int (nI 0)])), (a_kind, .inl (cI, 14, .inl (nF (fun _ => 0)))), (a_width, .inl (cI, 14, .inl (nF (fun _ => 0)))), (a_rword, .inl (cI, 14, .inl (nF (fun _ => 0))))] := hD
  refine lv_aload_n hx hb d_Sig_init_28 rfl (lv_at hl 0 rfl) ?_
  refine lv_bipush (v := nI 14) hx hb d_Sig_init_29 rfl ?_
  refine k_newI hx hb (hts _ (mt 104 rfl rfl)) rfl hK hP hD hS hA 0 rfl (by decide) (Nat.le_of_ble_eq_true rfl) (Nat.le_of_ble_eq_true rfl) d_Sig_init_31 (fun a_sop H hP hD hS => ?_)
  have hP : va_P (dC, dI) classes [(a_sig, .inr (1, [.ref a_kind, .ref a_width, .ref a_rword, .null, .null, .null, .null, .int (nI 0)])), (a_kind, .inl (cI, 14, .inl (nF (fun _ => 0)))), (a_width, .inl (cI, 14, .inl (nF (fun _ => 0)))), (a_rword, .inl (cI, 14, .inl (nF (fun _ => 0)))), (a_sop, .inl (cI, 14, .inl (nF (fun _ => 0))))] H := hP
  have hD : va_D A [(a_sig, .inr (1, [.ref a_kind, .ref a_width, .ref a_rword, .null, .null, .null, .null, .int (nI 0)])), (a_kind, .inl (cI, 14, .inl (nF (fun _ => 0)))), (a_width, .inl (cI, 14, .inl (nF (fun _ => 0)))), (a_rword, .inl (cI, 14, .inl (nF (fun _ => 0)))), (a_sop, .inl (cI, 14, .inl (nF (fun _ => 0))))] := hD
  refine W.widen (k := 4) (n := 56) (by omega) (by omega) ?_
  refine va_putF (D := (dC, dI)) (ci := 1) (v := .ref a_sop) (ty := .array .int) (C := R_Sig) (T := F_Sig) (N := 8) hx hb hts (wi i_Sig) t_Sig t_Sig_ok n_Sig hown hK hP hD hS 0 rfl rfl 3 (by decide) (hts _ (mt 74 rfl rfl)) (fun _ h9 => h9) rfl hin rfl (by decide +kernel) rfl rfl (Nat.le_of_ble_eq_true rfl) d_Sig_init_33 (fun H locs hP hD hS => ?_)
  have hP : va_P (dC, dI) classes [(a_sig, .inr (1, [.ref a_kind, .ref a_width, .ref a_rword, .ref a_sop, .null, .null, .null, .int (nI 0)])), (a_kind, .inl (cI, 14, .inl (nF (fun _ => 0)))), (a_width, .inl (cI, 14, .inl (nF (fun _ => 0)))), (a_rword, .inl (cI, 14, .inl (nF (fun _ => 0)))), (a_sop, .inl (cI, 14, .inl (nF (fun _ => 0))))] H := hP
  have hD : va_D A [(a_sig, .inr (1, [.ref a_kind, .ref a_width, .ref a_rword, .ref a_sop, .null, .null, .null, .int (nI 0)])), (a_kind, .inl (cI, 14, .inl (nF (fun _ => 0)))), (a_width, .inl (cI, 14, .inl (nF (fun _ => 0)))), (a_rword, .inl (cI, 14, .inl (nF (fun _ => 0)))), (a_sop, .inl (cI, 14, .inl (nF (fun _ => 0))))] := hD
  refine lv_aload_n hx hb d_Sig_init_36 rfl (lv_at hl 0 rfl) ?_
  refine lv_bipush (v := nI 14) hx hb d_Sig_init_37 rfl ?_
  refine k_newI hx hb (hts _ (mt 104 rfl rfl)) rfl hK hP hD hS hA 0 rfl (by decide) (Nat.le_of_ble_eq_true rfl) (Nat.le_of_ble_eq_true rfl) d_Sig_init_39 (fun a_sa H hP hD hS => ?_)
  have hP : va_P (dC, dI) classes [(a_sig, .inr (1, [.ref a_kind, .ref a_width, .ref a_rword, .ref a_sop, .null, .null, .null, .int (nI 0)])), (a_kind, .inl (cI, 14, .inl (nF (fun _ => 0)))), (a_width, .inl (cI, 14, .inl (nF (fun _ => 0)))), (a_rword, .inl (cI, 14, .inl (nF (fun _ => 0)))), (a_sop, .inl (cI, 14, .inl (nF (fun _ => 0)))), (a_sa, .inl (cI, 14, .inl (nF (fun _ => 0))))] H := hP
  have hD : va_D A [(a_sig, .inr (1, [.ref a_kind, .ref a_width, .ref a_rword, .ref a_sop, .null, .null, .null, .int (nI 0)])), (a_kind, .inl (cI, 14, .inl (nF (fun _ => 0)))), (a_width, .inl (cI, 14, .inl (nF (fun _ => 0)))), (a_rword, .inl (cI, 14, .inl (nF (fun _ => 0)))), (a_sop, .inl (cI, 14, .inl (nF (fun _ => 0)))), (a_sa, .inl (cI, 14, .inl (nF (fun _ => 0))))] := hD
  refine W.widen (k := 5) (n := 70) (by omega) (by omega) ?_
  refine va_putF (D := (dC, dI)) (ci := 1) (v := .ref a_sa) (ty := .array .int) (C := R_Sig) (T := F_Sig) (N := 8) hx hb hts (wi i_Sig) t_Sig t_Sig_ok n_Sig hown hK hP hD hS 0 rfl rfl 4 (by decide) (hts _ (mt 77 rfl rfl)) (fun _ h9 => h9) rfl hin rfl (by decide +kernel) rfl rfl (Nat.le_of_ble_eq_true rfl) d_Sig_init_41 (fun H locs hP hD hS => ?_)
  have hP : va_P (dC, dI) classes [(a_sig, .inr (1, [.ref a_kind, .ref a_width, .ref a_rword, .ref a_sop, .ref a_sa, .null, .null, .int (nI 0)])), (a_kind, .inl (cI, 14, .inl (nF (fun _ => 0)))), (a_width, .inl (cI, 14, .inl (nF (fun _ => 0)))), (a_rword, .inl (cI, 14, .inl (nF (fun _ => 0)))), (a_sop, .inl (cI, 14, .inl (nF (fun _ => 0)))), (a_sa, .inl (cI, 14, .inl (nF (fun _ => 0))))] H := hP
  have hD : va_D A [(a_sig, .inr (1, [.ref a_kind, .ref a_width, .ref a_rword, .ref a_sop, .ref a_sa, .null, .null, .int (nI 0)])), (a_kind, .inl (cI, 14, .inl (nF (fun _ => 0)))), (a_width, .inl (cI, 14, .inl (nF (fun _ => 0)))), (a_rword, .inl (cI, 14, .inl (nF (fun _ => 0)))), (a_sop, .inl (cI, 14, .inl (nF (fun _ => 0)))), (a_sa, .inl (cI, 14, .inl (nF (fun _ => 0))))] := hD
  refine lv_aload_n hx hb d_Sig_init_44 rfl (lv_at hl 0 rfl) ?_
  refine lv_bipush (v := nI 14) hx hb d_Sig_init_45 rfl ?_
  refine k_newI hx hb (hts _ (mt 104 rfl rfl)) rfl hK hP hD hS hA 0 rfl (by decide) (Nat.le_of_ble_eq_true rfl) (Nat.le_of_ble_eq_true rfl) d_Sig_init_47 (fun a_sb H hP hD hS => ?_)
  have hP : va_P (dC, dI) classes [(a_sig, .inr (1, [.ref a_kind, .ref a_width, .ref a_rword, .ref a_sop, .ref a_sa, .null, .null, .int (nI 0)])), (a_kind, .inl (cI, 14, .inl (nF (fun _ => 0)))), (a_width, .inl (cI, 14, .inl (nF (fun _ => 0)))), (a_rword, .inl (cI, 14, .inl (nF (fun _ => 0)))), (a_sop, .inl (cI, 14, .inl (nF (fun _ => 0)))), (a_sa, .inl (cI, 14, .inl (nF (fun _ => 0)))), (a_sb, .inl (cI, 14, .inl (nF (fun _ => 0))))] H := hP
  have hD : va_D A [(a_sig, .inr (1, [.ref a_kind, .ref a_width, .ref a_rword, .ref a_sop, .ref a_sa, .null, .null, .int (nI 0)])), (a_kind, .inl (cI, 14, .inl (nF (fun _ => 0)))), (a_width, .inl (cI, 14, .inl (nF (fun _ => 0)))), (a_rword, .inl (cI, 14, .inl (nF (fun _ => 0)))), (a_sop, .inl (cI, 14, .inl (nF (fun _ => 0)))), (a_sa, .inl (cI, 14, .inl (nF (fun _ => 0)))), (a_sb, .inl (cI, 14, .inl (nF (fun _ => 0))))] := hD
  refine W.widen (k := 6) (n := 84) (by omega) (by omega) ?_
  refine va_putF (D := (dC, dI)) (ci := 1) (v := .ref a_sb) (ty := .array .int) (C := R_Sig) (T := F_Sig) (N := 8) hx hb hts (wi i_Sig) t_Sig t_Sig_ok n_Sig hown hK hP hD hS 0 rfl rfl 5 (by decide) (hts _ (mt 79 rfl rfl)) (fun _ h9 => h9) rfl hin rfl (by decide +kernel) rfl rfl (Nat.le_of_ble_eq_true rfl) d_Sig_init_49 (fun H locs hP hD hS => ?_)
  have hP : va_P (dC, dI) classes [(a_sig, .inr (1, [.ref a_kind, .ref a_width, .ref a_rword, .ref a_sop, .ref a_sa, .ref a_sb, .null, .int (nI 0)])), (a_kind, .inl (cI, 14, .inl (nF (fun _ => 0)))), (a_width, .inl (cI, 14, .inl (nF (fun _ => 0)))), (a_rword, .inl (cI, 14, .inl (nF (fun _ => 0)))), (a_sop, .inl (cI, 14, .inl (nF (fun _ => 0)))), (a_sa, .inl (cI, 14, .inl (nF (fun _ => 0)))), (a_sb, .inl (cI, 14, .inl (nF (fun _ => 0))))] H := hP
  have hD : va_D A [(a_sig, .inr (1, [.ref a_kind, .ref a_width, .ref a_rword, .ref a_sop, .ref a_sa, .ref a_sb, .null, .int (nI 0)])), (a_kind, .inl (cI, 14, .inl (nF (fun _ => 0)))), (a_width, .inl (cI, 14, .inl (nF (fun _ => 0)))), (a_rword, .inl (cI, 14, .inl (nF (fun _ => 0)))), (a_sop, .inl (cI, 14, .inl (nF (fun _ => 0)))), (a_sa, .inl (cI, 14, .inl (nF (fun _ => 0)))), (a_sb, .inl (cI, 14, .inl (nF (fun _ => 0))))] := hD
  refine lv_aload_n hx hb d_Sig_init_52 rfl (lv_at hl 0 rfl) ?_
  refine lv_bipush (v := nI 14) hx hb d_Sig_init_53 rfl ?_
  refine k_newI hx hb (hts _ (mt 104 rfl rfl)) rfl hK hP hD hS hA 0 rfl (by decide) (Nat.le_of_ble_eq_true rfl) (Nat.le_of_ble_eq_true rfl) d_Sig_init_55 (fun a_sc H hP hD hS => ?_)
  have hP : va_P (dC, dI) classes [(a_sig, .inr (1, [.ref a_kind, .ref a_width, .ref a_rword, .ref a_sop, .ref a_sa, .ref a_sb, .null, .int (nI 0)])), (a_kind, .inl (cI, 14, .inl (nF (fun _ => 0)))), (a_width, .inl (cI, 14, .inl (nF (fun _ => 0)))), (a_rword, .inl (cI, 14, .inl (nF (fun _ => 0)))), (a_sop, .inl (cI, 14, .inl (nF (fun _ => 0)))), (a_sa, .inl (cI, 14, .inl (nF (fun _ => 0)))), (a_sb, .inl (cI, 14, .inl (nF (fun _ => 0)))), (a_sc, .inl (cI, 14, .inl (nF (fun _ => 0))))] H := hP
  have hD : va_D A [(a_sig, .inr (1, [.ref a_kind, .ref a_width, .ref a_rword, .ref a_sop, .ref a_sa, .ref a_sb, .null, .int (nI 0)])), (a_kind, .inl (cI, 14, .inl (nF (fun _ => 0)))), (a_width, .inl (cI, 14, .inl (nF (fun _ => 0)))), (a_rword, .inl (cI, 14, .inl (nF (fun _ => 0)))), (a_sop, .inl (cI, 14, .inl (nF (fun _ => 0)))), (a_sa, .inl (cI, 14, .inl (nF (fun _ => 0)))), (a_sb, .inl (cI, 14, .inl (nF (fun _ => 0)))), (a_sc, .inl (cI, 14, .inl (nF (fun _ => 0))))] := hD
  refine W.widen (k := 7) (n := 98) (by omega) (by omega) ?_
  refine va_putF (D := (dC, dI)) (ci := 1) (v := .ref a_sc) (ty := .array .int) (C := R_Sig) (T := F_Sig) (N := 8) hx hb hts (wi i_Sig) t_Sig t_Sig_ok n_Sig hown hK hP hD hS 0 rfl rfl 6 (by decide) (hts _ (mt 81 rfl rfl)) (fun _ h9 => h9) rfl hin rfl (by decide +kernel) rfl rfl (Nat.le_of_ble_eq_true rfl) d_Sig_init_57 (fun H locs hP hD hS => ?_)
  have hP : va_P (dC, dI) classes [(a_sig, .inr (1, [.ref a_kind, .ref a_width, .ref a_rword, .ref a_sop, .ref a_sa, .ref a_sb, .ref a_sc, .int (nI 0)])), (a_kind, .inl (cI, 14, .inl (nF (fun _ => 0)))), (a_width, .inl (cI, 14, .inl (nF (fun _ => 0)))), (a_rword, .inl (cI, 14, .inl (nF (fun _ => 0)))), (a_sop, .inl (cI, 14, .inl (nF (fun _ => 0)))), (a_sa, .inl (cI, 14, .inl (nF (fun _ => 0)))), (a_sb, .inl (cI, 14, .inl (nF (fun _ => 0)))), (a_sc, .inl (cI, 14, .inl (nF (fun _ => 0))))] H := hP
  have hD : va_D A [(a_sig, .inr (1, [.ref a_kind, .ref a_width, .ref a_rword, .ref a_sop, .ref a_sa, .ref a_sb, .ref a_sc, .int (nI 0)])), (a_kind, .inl (cI, 14, .inl (nF (fun _ => 0)))), (a_width, .inl (cI, 14, .inl (nF (fun _ => 0)))), (a_rword, .inl (cI, 14, .inl (nF (fun _ => 0)))), (a_sop, .inl (cI, 14, .inl (nF (fun _ => 0)))), (a_sa, .inl (cI, 14, .inl (nF (fun _ => 0)))), (a_sb, .inl (cI, 14, .inl (nF (fun _ => 0)))), (a_sc, .inl (cI, 14, .inl (nF (fun _ => 0))))] := hD
  exact W.vret hx hb hr (fun t ht hW => ⟨⟨(a_kind, a_width, a_rword, a_sop, a_sa, a_sb, a_sc), rfl, trivial, by rw [ht]; exact hP, va_K.moved hW.alike hK, hD⟩, hS.F ht⟩) hS.2.2 d_Sig_init_60
set_option maxHeartbeats 4000000 in
set_option maxRecDepth 100000 in
theorem c_Stm_init (l : Launch) (dC : Nat → ClassId) (dI : Nat → Nat → Nat) (cI cZ : ClassId) (a_stm : Nat) (tt sz : Nat) : Met l y_Stm_init w_Stm_init ({ frames := 1, cells := 4, slots := 64, locals := 20 }) (va_Pc [.ref a_stm] (PW (dC, dI) classes [(cI, .int), (cZ, .boolean)] tt [(a_stm, .inr (2, [.null, .null, .null, .int (nI 0), .int (nI 0), .null]))] sz)) (va_Qv (fun (_ : Nat × Nat × Nat × Nat) => True) (AT (dC, dI) classes [(cI, .int), (cZ, .boolean)] (va_A [(a_stm, .inr (2, [.null, .null, .null, .int (nI 0), .int (nI 0), .null]))] sz) (fun (u : Nat × Nat × Nat × Nat) => [(a_stm, .inr (2, [.ref u.1, .ref u.2.1, .ref u.2.2.1, .int (nI 0), .int (nI 0), .ref u.2.2.2])), (u.1, .inl (cI, 20, .inl (nF (fun _ => 0)))), (u.2.1, .inl (cI, 20, .inl (nF (fun _ => 0)))), (u.2.2.1, .inl (cI, 20, .inl (nF (fun _ => 0)))), (u.2.2.2, .inl (cZ, 4, .inl (nF (fun _ => 0))))])) (va_A [(a_stm, .inr (2, [.null, .null, .null, .int (nI 0), .int (nI 0), .null]))] sz)) 4 64 (va_A [(a_stm, .inr (2, [.null, .null, .null, .int (nI 0), .int (nI 0), .null]))] sz) := by
  refine Met.ofW (cc := b_Stm_init) (maxL := 1) (ret := none) (by decide) rfl ?_
  intro p e s m args below meth c s₁ B hml hv
  obtain ⟨rfl, hsz, hP, hK, hD0, hE⟩ := hv
  have hx := B.exec
  have hb := B.bytes
  have hr := B.returns
  have hts := atoms_spec (ws := w_Stm_init) B.pre
  have hown : s.vm.findClass R_Stm = some m.cls := findClass_of_methodNamed B.named
  have hlocks := B.notSynchronized
  have hin : meth.name = "<init>" := (name_of_methodNamed B.named B.method).1
  subst hsz
  have hD := hD0.self (sz := s.heap.size)
  generalize hAe : va_A [(a_stm, .inr (2, [.null, .null, .null, .int (nI 0), .int (nI 0), .null]))] s.heap.size = A at hD hE ⊢
  have hA : ∀ q : Nat, s.heap.size ≤ q → A q := fun q h => by rw [← hAe]; exact Or.inr h
  have hS : va_S A s.heap s.heap [] := va_S.rf
  have hP : va_P (dC, dI) classes [(a_stm, .inr (2, [.null, .null, .null, .int (nI 0), .int (nI 0), .null]))] s.heap := hP
  have hl := lv_entry ([.ref a_stm]) (n := 1) (Nat.le_of_ble_eq_true rfl)
  rw [lg_entry_eq]
  generalize (lg_sl ([.ref a_stm]) ++ List.replicate (1 - (lg_sl ([.ref a_stm])).length) Slot.unset).toArray = ls at hl ⊢
  have hl : lv_has ls 1 [(0, .ref a_stm)] := hl
  refine lv_aload_n hx hb d_Stm_init_0 rfl (lv_at hl 0 rfl) ?_
  refine W.objInit hx hb hown (hts _ (mt 110 rfl rfl)) (hts _ (mt 57 rfl rfl)) (hts _ (mt 58 rfl rfl)) rfl (by rw [hml]; exact hl.1) rfl d_Stm_init_1 (Nat.le_of_ble_eq_true rfl) (Nat.le_of_ble_eq_true rfl) ?_
  refine W.eq (g2 := F0 m 4 ls []) rfl ?_
  refine lv_aload_n hx hb d_Stm_init_4 rfl (lv_at hl 0 rfl) ?_
  refine lv_bipush (v := nI 20) hx hb d_Stm_init_5 rfl ?_
  refine k_newI hx hb (hts _ (mt 104 rfl rfl)) rfl hK hP hD hS hA 0 rfl (by decide) (Nat.le_of_ble_eq_true rfl) (Nat.le_of_ble_eq_true rfl) d_Stm_init_7 (fun a_sort H hP hD hS => ?_)
  have hP : va_P (dC, dI) classes [(a_stm, .inr (2, [.null, .null, .null, .int (nI 0), .int (nI 0), .null])), (a_sort, .inl (cI, 20, .inl (nF (fun _ => 0))))] H := hP
  have hD : va_D A [(a_stm, .inr (2, [.null, .null, .null, .int (nI 0), .int (nI 0), .null])), (a_sort, .inl (cI, 20, .inl (nF (fun _ => 0))))] := hD
  refine W.widen (k := 1) (n := 20) (by omega) (by omega) ?_
  refine va_putF (D := (dC, dI)) (ci := 2) (v := .ref a_sort) (ty := .array .int) (C := R_Stm) (T := F_Stm) (N := 6) hx hb hts (wi i_Stm) t_Stm t_Stm_ok n_Stm hown hK hP hD hS 0 rfl rfl 0 (by decide) (hts _ (mt 111 rfl rfl)) (fun _ h9 => h9) rfl hin rfl (by decide +kernel) rfl rfl (Nat.le_of_ble_eq_true rfl) d_Stm_init_9 (fun H locs hP hD hS => ?_)
  have hP : va_P (dC, dI) classes [(a_stm, .inr (2, [.ref a_sort, .null, .null, .int (nI 0), .int (nI 0), .null])), (a_sort, .inl (cI, 20, .inl (nF (fun _ => 0))))] H := hP
  have hD : va_D A [(a_stm, .inr (2, [.ref a_sort, .null, .null, .int (nI 0), .int (nI 0), .null])), (a_sort, .inl (cI, 20, .inl (nF (fun _ => 0))))] := hD
  refine lv_aload_n hx hb d_Stm_init_12 rfl (lv_at hl 0 rfl) ?_
  refine lv_bipush (v := nI 20) hx hb d_Stm_init_13 rfl ?_
  refine k_newI hx hb (hts _ (mt 104 rfl rfl)) rfl hK hP hD hS hA 0 rfl (by decide) (Nat.le_of_ble_eq_true rfl) (Nat.le_of_ble_eq_true rfl) d_Stm_init_15 (fun a_subject H hP hD hS => ?_)
  have hP : va_P (dC, dI) classes [(a_stm, .inr (2, [.ref a_sort, .null, .null, .int (nI 0), .int (nI 0), .null])), (a_sort, .inl (cI, 20, .inl (nF (fun _ => 0)))), (a_subject, .inl (cI, 20, .inl (nF (fun _ => 0))))] H := hP
  have hD : va_D A [(a_stm, .inr (2, [.ref a_sort, .null, .null, .int (nI 0), .int (nI 0), .null])), (a_sort, .inl (cI, 20, .inl (nF (fun _ => 0)))), (a_subject, .inl (cI, 20, .inl (nF (fun _ => 0))))] := hD
  refine W.widen (k := 2) (n := 40) (by omega) (by omega) ?_
  refine va_putF (D := (dC, dI)) (ci := 2) (v := .ref a_subject) (ty := .array .int) (C := R_Stm) (T := F_Stm) (N := 6) hx hb hts (wi i_Stm) t_Stm t_Stm_ok n_Stm hown hK hP hD hS 0 rfl rfl 1 (by decide) (hts _ (mt 114 rfl rfl)) (fun _ h9 => h9) rfl hin rfl (by decide +kernel) rfl rfl (Nat.le_of_ble_eq_true rfl) d_Stm_init_17 (fun H locs hP hD hS => ?_)
  have hP : va_P (dC, dI) classes [(a_stm, .inr (2, [.ref a_sort, .ref a_subject, .null, .int (nI 0), .int (nI 0), .null])), (a_sort, .inl (cI, 20, .inl (nF (fun _ => 0)))), (a_subject, .inl (cI, 20, .inl (nF (fun _ => 0))))] H := hP
  have hD : va_D A [(a_stm, .inr (2, [.ref a_sort, .ref a_subject, .null, .int (nI 0), .int (nI 0), .null])), (a_sort, .inl (cI, 20, .inl (nF (fun _ => 0)))), (a_subject, .inl (cI, 20, .inl (nF (fun _ => 0))))] := hD
  refine lv_aload_n hx hb d_Stm_init_20 rfl (lv_at hl 0 rfl) ?_
  refine lv_bipush (v := nI 20) hx hb d_Stm_init_21 rfl ?_
  refine k_newI hx hb (hts _ (mt 104 rfl rfl)) rfl hK hP hD hS hA 0 rfl (by decide) (Nat.le_of_ble_eq_true rfl) (Nat.le_of_ble_eq_true rfl) d_Stm_init_23 (fun a_source H hP hD hS => ?_)
  have hP : va_P (dC, dI) classes [(a_stm, .inr (2, [.ref a_sort, .ref a_subject, .null, .int (nI 0), .int (nI 0), .null])), (a_sort, .inl (cI, 20, .inl (nF (fun _ => 0)))), (a_subject, .inl (cI, 20, .inl (nF (fun _ => 0)))), (a_source, .inl (cI, 20, .inl (nF (fun _ => 0))))] H := hP
  have hD : va_D A [(a_stm, .inr (2, [.ref a_sort, .ref a_subject, .null, .int (nI 0), .int (nI 0), .null])), (a_sort, .inl (cI, 20, .inl (nF (fun _ => 0)))), (a_subject, .inl (cI, 20, .inl (nF (fun _ => 0)))), (a_source, .inl (cI, 20, .inl (nF (fun _ => 0))))] := hD
  refine W.widen (k := 3) (n := 60) (by omega) (by omega) ?_
  refine va_putF (D := (dC, dI)) (ci := 2) (v := .ref a_source) (ty := .array .int) (C := R_Stm) (T := F_Stm) (N := 6) hx hb hts (wi i_Stm) t_Stm t_Stm_ok n_Stm hown hK hP hD hS 0 rfl rfl 2 (by decide) (hts _ (mt 117 rfl rfl)) (fun _ h9 => h9) rfl hin rfl (by decide +kernel) rfl rfl (Nat.le_of_ble_eq_true rfl) d_Stm_init_25 (fun H locs hP hD hS => ?_)
  have hP : va_P (dC, dI) classes [(a_stm, .inr (2, [.ref a_sort, .ref a_subject, .ref a_source, .int (nI 0), .int (nI 0), .null])), (a_sort, .inl (cI, 20, .inl (nF (fun _ => 0)))), (a_subject, .inl (cI, 20, .inl (nF (fun _ => 0)))), (a_source, .inl (cI, 20, .inl (nF (fun _ => 0))))] H := hP
  have hD : va_D A [(a_stm, .inr (2, [.ref a_sort, .ref a_subject, .ref a_source, .int (nI 0), .int (nI 0), .null])), (a_sort, .inl (cI, 20, .inl (nF (fun _ => 0)))), (a_subject, .inl (cI, 20, .inl (nF (fun _ => 0)))), (a_source, .inl (cI, 20, .inl (nF (fun _ => 0))))] := hD
  refine lv_aload_n hx hb d_Stm_init_28 rfl (lv_at hl 0 rfl) ?_
  refine lv_iconst (v := nI 4) hx hb d_Stm_init_29 rfl ?_
  refine k_newZ hx hb (hts _ (mt 140 rfl rfl)) rfl hK hP hD hS hA 1 rfl (by decide) (Nat.le_of_ble_eq_true rfl) (Nat.le_of_ble_eq_true rfl) d_Stm_init_30 (fun a_elseSeen H hP hD hS => ?_)
  have hP : va_P (dC, dI) classes [(a_stm, .inr (2, [.ref a_sort, .ref a_subject, .ref a_source, .int (nI 0), .int (nI 0), .null])), (a_sort, .inl (cI, 20, .inl (nF (fun _ => 0)))), (a_subject, .inl (cI, 20, .inl (nF (fun _ => 0)))), (a_source, .inl (cI, 20, .inl (nF (fun _ => 0)))), (a_elseSeen, .inl (cZ, 4, .inl (nF (fun _ => 0))))] H := hP
  have hD : va_D A [(a_stm, .inr (2, [.ref a_sort, .ref a_subject, .ref a_source, .int (nI 0), .int (nI 0), .null])), (a_sort, .inl (cI, 20, .inl (nF (fun _ => 0)))), (a_subject, .inl (cI, 20, .inl (nF (fun _ => 0)))), (a_source, .inl (cI, 20, .inl (nF (fun _ => 0)))), (a_elseSeen, .inl (cZ, 4, .inl (nF (fun _ => 0))))] := hD
  refine W.widen (k := 4) (n := 64) (by omega) (by omega) ?_
  refine va_putF (D := (dC, dI)) (ci := 2) (v := .ref a_elseSeen) (ty := .array .boolean) (C := R_Stm) (T := F_Stm) (N := 6) hx hb hts (wi i_Stm) t_Stm t_Stm_ok n_Stm hown hK hP hD hS 0 rfl rfl 5 (by decide) (hts _ (mt 126 rfl rfl)) (fun _ h9 => h9) rfl hin rfl (by decide +kernel) rfl rfl (Nat.le_of_ble_eq_true rfl) d_Stm_init_32 (fun H locs hP hD hS => ?_)
  have hP : va_P (dC, dI) classes [(a_stm, .inr (2, [.ref a_sort, .ref a_subject, .ref a_source, .int (nI 0), .int (nI 0), .ref a_elseSeen])), (a_sort, .inl (cI, 20, .inl (nF (fun _ => 0)))), (a_subject, .inl (cI, 20, .inl (nF (fun _ => 0)))), (a_source, .inl (cI, 20, .inl (nF (fun _ => 0)))), (a_elseSeen, .inl (cZ, 4, .inl (nF (fun _ => 0))))] H := hP
  have hD : va_D A [(a_stm, .inr (2, [.ref a_sort, .ref a_subject, .ref a_source, .int (nI 0), .int (nI 0), .ref a_elseSeen])), (a_sort, .inl (cI, 20, .inl (nF (fun _ => 0)))), (a_subject, .inl (cI, 20, .inl (nF (fun _ => 0)))), (a_source, .inl (cI, 20, .inl (nF (fun _ => 0)))), (a_elseSeen, .inl (cZ, 4, .inl (nF (fun _ => 0))))] := hD
  exact W.vret hx hb hr (fun t ht hW => ⟨⟨(a_sort, a_subject, a_source, a_elseSeen), rfl, trivial, by rw [ht]; exact hP, va_K.moved hW.alike hK, hD⟩, hS.F ht⟩) hS.2.2 d_Stm_init_35
set_option maxHeartbeats 4000000 in
set_option maxRecDepth 100000 in
theorem c_Chk_init (l : Launch) (dC : Nat → ClassId) (dI : Nat → Nat → Nat) (cI cZ : ClassId) (a_chk a_sig a_stm : Nat) (tt sz : Nat) : Met l y_Chk_init w_Chk_init ({ frames := 1, cells := 5, slots := 43, locals := 20 }) (va_Pc [.ref a_chk, .ref a_sig, .ref a_stm] (PW (dC, dI) classes [(cI, .int), (cZ, .boolean)] tt [(a_chk, .inr (3, [.null, .null, .null, .null, .null, .null, .null]))] sz)) (va_Qv (fun (_ : Nat × Nat × Nat × Nat × Nat) => True) (AT (dC, dI) classes [(cI, .int), (cZ, .boolean)] (va_A [(a_chk, .inr (3, [.null, .null, .null, .null, .null, .null, .null]))] sz) (fun (u : Nat × Nat × Nat × Nat × Nat) => [(a_chk, .inr (3, [.ref u.1, .ref a_sig, .ref a_stm, .ref u.2.1, .ref u.2.2.1, .ref u.2.2.2.1, .ref u.2.2.2.2])), (u.1, .inl (cI, 14, .inl (nF (fun _ => 0)))), (u.2.1, .inl (cI, 14, .inl (nF (fun _ => 0)))), (u.2.2.1, .inl (cI, 5, .inl (nF (fun _ => 0)))), (u.2.2.2.1, .inl (cI, 5, .inl (nF (fun _ => 0)))), (u.2.2.2.2, .inl (cI, 5, .inl (nF (fun _ => 0))))])) (va_A [(a_chk, .inr (3, [.null, .null, .null, .null, .null, .null, .null]))] sz)) 5 43 (va_A [(a_chk, .inr (3, [.null, .null, .null, .null, .null, .null, .null]))] sz) := by
  refine Met.ofW (cc := b_Chk_init) (maxL := 3) (ret := none) (by decide) rfl ?_
  intro p e s m args below meth c s₁ B hml hv
  obtain ⟨rfl, hsz, hP, hK, hD0, hE⟩ := hv
  have hx := B.exec
  have hb := B.bytes
  have hr := B.returns
  have hts := atoms_spec (ws := w_Chk_init) B.pre
  have hown : s.vm.findClass R_Chk = some m.cls := findClass_of_methodNamed B.named
  have hlocks := B.notSynchronized
  have hin : meth.name = "<init>" := (name_of_methodNamed B.named B.method).1
  subst hsz
  have hD := hD0.self (sz := s.heap.size)
  generalize hAe : va_A [(a_chk, .inr (3, [.null, .null, .null, .null, .null, .null, .null]))] s.heap.size = A at hD hE ⊢
  have hA : ∀ q : Nat, s.heap.size ≤ q → A q := fun q h => by rw [← hAe]; exact Or.inr h
  have hS : va_S A s.heap s.heap [] := va_S.rf
  have hP : va_P (dC, dI) classes [(a_chk, .inr (3, [.null, .null, .null, .null, .null, .null, .null]))] s.heap := hP
  have hl := lv_entry ([.ref a_chk, .ref a_sig, .ref a_stm]) (n := 3) (Nat.le_of_ble_eq_true rfl)
  rw [lg_entry_eq]
  generalize (lg_sl ([.ref a_chk, .ref a_sig, .ref a_stm]) ++ List.replicate (3 - (lg_sl ([.ref a_chk, .ref a_sig, .ref a_stm])).length) Slot.unset).toArray = ls at hl ⊢
  have hl : lv_has ls 3 [(0, .ref a_chk), (1, .ref a_sig), (2, .ref a_stm)] := hl
  refine lv_aload_n hx hb d_Chk_init_0 rfl (lv_at hl 0 rfl) ?_
  refine W.objInit hx hb hown (hts _ (mt 146 rfl rfl)) (hts _ (mt 57 rfl rfl)) (hts _ (mt 58 rfl rfl)) rfl (by rw [hml]; exact hl.1) rfl d_Chk_init_1 (Nat.le_of_ble_eq_true rfl) (Nat.le_of_ble_eq_true rfl) ?_
  refine W.eq (g2 := F0 m 4 ls []) rfl ?_
  refine lv_aload_n hx hb d_Chk_init_4 rfl (lv_at hl 0 rfl) ?_
  refine lv_bipush (v := nI 14) hx hb d_Chk_init_5 rfl ?_
  refine k_newI hx hb (hts _ (mt 104 rfl rfl)) rfl hK hP hD hS hA 0 rfl (by decide) (Nat.le_of_ble_eq_true rfl) (Nat.le_of_ble_eq_true rfl) d_Chk_init_7 (fun a_rao H hP hD hS => ?_)
  have hP : va_P (dC, dI) classes [(a_chk, .inr (3, [.null, .null, .null, .null, .null, .null, .null])), (a_rao, .inl (cI, 14, .inl (nF (fun _ => 0))))] H := hP
  have hD : va_D A [(a_chk, .inr (3, [.null, .null, .null, .null, .null, .null, .null])), (a_rao, .inl (cI, 14, .inl (nF (fun _ => 0))))] := hD
  refine W.widen (k := 1) (n := 14) (by omega) (by omega) ?_
  refine va_putF (D := (dC, dI)) (ci := 3) (v := .ref a_rao) (ty := .array .int) (C := R_Chk) (T := F_Chk) (N := 7) hx hb hts (wi i_Chk) t_Chk t_Chk_ok n_Chk hown hK hP hD hS 0 rfl rfl 0 (by decide) (hts _ (mt 147 rfl rfl)) (fun _ h9 => h9) rfl hin rfl (by decide +kernel) rfl rfl (Nat.le_of_ble_eq_true rfl) d_Chk_init_9 (fun H locs hP hD hS => ?_)
  have hP : va_P (dC, dI) classes [(a_chk, .inr (3, [.ref a_rao, .null, .null, .null, .null, .null, .null])), (a_rao, .inl (cI, 14, .inl (nF (fun _ => 0))))] H := hP
  have hD : va_D A [(a_chk, .inr (3, [.ref a_rao, .null, .null, .null, .null, .null, .null])), (a_rao, .inl (cI, 14, .inl (nF (fun _ => 0))))] := hD
  refine lv_aload_n hx hb d_Chk_init_12 rfl (lv_at hl 0 rfl) ?_
  refine lv_bipush (v := nI 14) hx hb d_Chk_init_13 rfl ?_
  refine k_newI hx hb (hts _ (mt 104 rfl rfl)) rfl hK hP hD hS hA 0 rfl (by decide) (Nat.le_of_ble_eq_true rfl) (Nat.le_of_ble_eq_true rfl) d_Chk_init_15 (fun a_ron H hP hD hS => ?_)
  have hP : va_P (dC, dI) classes [(a_chk, .inr (3, [.ref a_rao, .null, .null, .null, .null, .null, .null])), (a_rao, .inl (cI, 14, .inl (nF (fun _ => 0)))), (a_ron, .inl (cI, 14, .inl (nF (fun _ => 0))))] H := hP
  have hD : va_D A [(a_chk, .inr (3, [.ref a_rao, .null, .null, .null, .null, .null, .null])), (a_rao, .inl (cI, 14, .inl (nF (fun _ => 0)))), (a_ron, .inl (cI, 14, .inl (nF (fun _ => 0))))] := hD
  refine W.widen (k := 2) (n := 28) (by omega) (by omega) ?_
  refine va_putF (D := (dC, dI)) (ci := 3) (v := .ref a_ron) (ty := .array .int) (C := R_Chk) (T := F_Chk) (N := 7) hx hb hts (wi i_Chk) t_Chk t_Chk_ok n_Chk hown hK hP hD hS 0 rfl rfl 3 (by decide) (hts _ (mt 151 rfl rfl)) (fun _ h9 => h9) rfl hin rfl (by decide +kernel) rfl rfl (Nat.le_of_ble_eq_true rfl) d_Chk_init_17 (fun H locs hP hD hS => ?_)
  have hP : va_P (dC, dI) classes [(a_chk, .inr (3, [.ref a_rao, .null, .null, .ref a_ron, .null, .null, .null])), (a_rao, .inl (cI, 14, .inl (nF (fun _ => 0)))), (a_ron, .inl (cI, 14, .inl (nF (fun _ => 0))))] H := hP
  have hD : va_D A [(a_chk, .inr (3, [.ref a_rao, .null, .null, .ref a_ron, .null, .null, .null])), (a_rao, .inl (cI, 14, .inl (nF (fun _ => 0)))), (a_ron, .inl (cI, 14, .inl (nF (fun _ => 0))))] := hD
  refine lv_aload_n hx hb d_Chk_init_20 rfl (lv_at hl 0 rfl) ?_
  refine lv_iconst (v := nI 5) hx hb d_Chk_init_21 rfl ?_
  refine k_newI hx hb (hts _ (mt 104 rfl rfl)) rfl hK hP hD hS hA 0 rfl (by decide) (Nat.le_of_ble_eq_true rfl) (Nat.le_of_ble_eq_true rfl) d_Chk_init_22 (fun a_aro H hP hD hS => ?_)
  have hP : va_P (dC, dI) classes [(a_chk, .inr (3, [.ref a_rao, .null, .null, .ref a_ron, .null, .null, .null])), (a_rao, .inl (cI, 14, .inl (nF (fun _ => 0)))), (a_ron, .inl (cI, 14, .inl (nF (fun _ => 0)))), (a_aro, .inl (cI, 5, .inl (nF (fun _ => 0))))] H := hP
  have hD : va_D A [(a_chk, .inr (3, [.ref a_rao, .null, .null, .ref a_ron, .null, .null, .null])), (a_rao, .inl (cI, 14, .inl (nF (fun _ => 0)))), (a_ron, .inl (cI, 14, .inl (nF (fun _ => 0)))), (a_aro, .inl (cI, 5, .inl (nF (fun _ => 0))))] := hD
  refine W.widen (k := 3) (n := 33) (by omega) (by omega) ?_
  refine va_putF (D := (dC, dI)) (ci := 3) (v := .ref a_aro) (ty := .array .int) (C := R_Chk) (T := F_Chk) (N := 7) hx hb hts (wi i_Chk) t_Chk t_Chk_ok n_Chk hown hK hP hD hS 0 rfl rfl 4 (by decide) (hts _ (mt 152 rfl rfl)) (fun _ h9 => h9) rfl hin rfl (by decide +kernel) rfl rfl (Nat.le_of_ble_eq_true rfl) d_Chk_init_24 (fun H locs hP hD hS => ?_)
  have hP : va_P (dC, dI) classes [(a_chk, .inr (3, [.ref a_rao, .null, .null, .ref a_ron, .ref a_aro, .null, .null])), (a_rao, .inl (cI, 14, .inl (nF (fun _ => 0)))), (a_ron, .inl (cI, 14, .inl (nF (fun _ => 0)))), (a_aro, .inl (cI, 5, .inl (nF (fun _ => 0))))] H := hP
  have hD : va_D A [(a_chk, .inr (3, [.ref a_rao, .null, .null, .ref a_ron, .ref a_aro, .null, .null])), (a_rao, .inl (cI, 14, .inl (nF (fun _ => 0)))), (a_ron, .inl (cI, 14, .inl (nF (fun _ => 0)))), (a_aro, .inl (cI, 5, .inl (nF (fun _ => 0))))] := hD
  refine lv_aload_n hx hb d_Chk_init_27 rfl (lv_at hl 0 rfl) ?_
  refine lv_iconst (v := nI 5) hx hb d_Chk_init_28 rfl ?_
  refine k_newI hx hb (hts _ (mt 104 rfl rfl)) rfl hK hP hD hS hA 0 rfl (by decide) (Nat.le_of_ble_eq_true rfl) (Nat.le_of_ble_eq_true rfl) d_Chk_init_29 (fun a_sip H hP hD hS => ?_)
  have hP : va_P (dC, dI) classes [(a_chk, .inr (3, [.ref a_rao, .null, .null, .ref a_ron, .ref a_aro, .null, .null])), (a_rao, .inl (cI, 14, .inl (nF (fun _ => 0)))), (a_ron, .inl (cI, 14, .inl (nF (fun _ => 0)))), (a_aro, .inl (cI, 5, .inl (nF (fun _ => 0)))), (a_sip, .inl (cI, 5, .inl (nF (fun _ => 0))))] H := hP
  have hD : va_D A [(a_chk, .inr (3, [.ref a_rao, .null, .null, .ref a_ron, .ref a_aro, .null, .null])), (a_rao, .inl (cI, 14, .inl (nF (fun _ => 0)))), (a_ron, .inl (cI, 14, .inl (nF (fun _ => 0)))), (a_aro, .inl (cI, 5, .inl (nF (fun _ => 0)))), (a_sip, .inl (cI, 5, .inl (nF (fun _ => 0))))] := hD
  refine W.widen (k := 4) (n := 38) (by omega) (by omega) ?_
  refine va_putF (D := (dC, dI)) (ci := 3) (v := .ref a_sip) (ty := .array .int) (C := R_Chk) (T := F_Chk) (N := 7) hx hb hts (wi i_Chk) t_Chk t_Chk_ok n_Chk hown hK hP hD hS 0 rfl rfl 5 (by decide) (hts _ (mt 153 rfl rfl)) (fun _ h9 => h9) rfl hin rfl (by decide +kernel) rfl rfl (Nat.le_of_ble_eq_true rfl) d_Chk_init_31 (fun H locs hP hD hS => ?_)
  have hP : va_P (dC, dI) classes [(a_chk, .inr (3, [.ref a_rao, .null, .null, .ref a_ron, .ref a_aro, .ref a_sip, .null])), (a_rao, .inl (cI, 14, .inl (nF (fun _ => 0)))), (a_ron, .inl (cI, 14, .inl (nF (fun _ => 0)))), (a_aro, .inl (cI, 5, .inl (nF (fun _ => 0)))), (a_sip, .inl (cI, 5, .inl (nF (fun _ => 0))))] H := hP
  have hD : va_D A [(a_chk, .inr (3, [.ref a_rao, .null, .null, .ref a_ron, .ref a_aro, .ref a_sip, .null])), (a_rao, .inl (cI, 14, .inl (nF (fun _ => 0)))), (a_ron, .inl (cI, 14, .inl (nF (fun _ => 0)))), (a_aro, .inl (cI, 5, .inl (nF (fun _ => 0)))), (a_sip, .inl (cI, 5, .inl (nF (fun _ => 0))))] := hD
  refine lv_aload_n hx hb d_Chk_init_34 rfl (lv_at hl 0 rfl) ?_
  refine lv_iconst (v := nI 5) hx hb d_Chk_init_35 rfl ?_
  refine k_newI hx hb (hts _ (mt 104 rfl rfl)) rfl hK hP hD hS hA 0 rfl (by decide) (Nat.le_of_ble_eq_true rfl) (Nat.le_of_ble_eq_true rfl) d_Chk_init_36 (fun a_sif H hP hD hS => ?_)
  have hP : va_P (dC, dI) classes [(a_chk, .inr (3, [.ref a_rao, .null, .null, .ref a_ron, .ref a_aro, .ref a_sip, .null])), (a_rao, .inl (cI, 14, .inl (nF (fun _ => 0)))), (a_ron, .inl (cI, 14, .inl (nF (fun _ => 0)))), (a_aro, .inl (cI, 5, .inl (nF (fun _ => 0)))), (a_sip, .inl (cI, 5, .inl (nF (fun _ => 0)))), (a_sif, .inl (cI, 5, .inl (nF (fun _ => 0))))] H := hP
  have hD : va_D A [(a_chk, .inr (3, [.ref a_rao, .null, .null, .ref a_ron, .ref a_aro, .ref a_sip, .null])), (a_rao, .inl (cI, 14, .inl (nF (fun _ => 0)))), (a_ron, .inl (cI, 14, .inl (nF (fun _ => 0)))), (a_aro, .inl (cI, 5, .inl (nF (fun _ => 0)))), (a_sip, .inl (cI, 5, .inl (nF (fun _ => 0)))), (a_sif, .inl (cI, 5, .inl (nF (fun _ => 0))))] := hD
  refine W.widen (k := 5) (n := 43) (by omega) (by omega) ?_
  refine va_putF (D := (dC, dI)) (ci := 3) (v := .ref a_sif) (ty := .array .int) (C := R_Chk) (T := F_Chk) (N := 7) hx hb hts (wi i_Chk) t_Chk t_Chk_ok n_Chk hown hK hP hD hS 0 rfl rfl 6 (by decide) (hts _ (mt 154 rfl rfl)) (fun _ h9 => h9) rfl hin rfl (by decide +kernel) rfl rfl (Nat.le_of_ble_eq_true rfl) d_Chk_init_38 (fun H locs hP hD hS => ?_)
  have hP : va_P (dC, dI) classes [(a_chk, .inr (3, [.ref a_rao, .null, .null, .ref a_ron, .ref a_aro, .ref a_sip, .ref a_sif])), (a_rao, .inl (cI, 14, .inl (nF (fun _ => 0)))), (a_ron, .inl (cI, 14, .inl (nF (fun _ => 0)))), (a_aro, .inl (cI, 5, .inl (nF (fun _ => 0)))), (a_sip, .inl (cI, 5, .inl (nF (fun _ => 0)))), (a_sif, .inl (cI, 5, .inl (nF (fun _ => 0))))] H := hP
  have hD : va_D A [(a_chk, .inr (3, [.ref a_rao, .null, .null, .ref a_ron, .ref a_aro, .ref a_sip, .ref a_sif])), (a_rao, .inl (cI, 14, .inl (nF (fun _ => 0)))), (a_ron, .inl (cI, 14, .inl (nF (fun _ => 0)))), (a_aro, .inl (cI, 5, .inl (nF (fun _ => 0)))), (a_sip, .inl (cI, 5, .inl (nF (fun _ => 0)))), (a_sif, .inl (cI, 5, .inl (nF (fun _ => 0))))] := hD
  refine lv_aload_n hx hb d_Chk_init_41 rfl (lv_at hl 0 rfl) ?_
  refine lv_aload_n hx hb d_Chk_init_42 rfl (lv_at hl 1 rfl) ?_
  refine va_putF (D := (dC, dI)) (ci := 3) (v := .ref a_sig) (ty := .object "CircuitDesk$Signals") (C := R_Chk) (T := F_Chk) (N := 7) hx hb hts (wi i_Chk) t_Chk t_Chk_ok n_Chk hown hK hP hD hS 0 rfl rfl 1 (by decide) (hts _ (mt 149 rfl rfl)) (fun _ h9 => h9) rfl hin rfl (by decide +kernel) rfl rfl (Nat.le_of_ble_eq_true rfl) d_Chk_init_43 (fun H locs hP hD hS => ?_)
  have hP : va_P (dC, dI) classes [(a_chk, .inr (3, [.ref a_rao, .ref a_sig, .null, .ref a_ron, .ref a_aro, .ref a_sip, .ref a_sif])), (a_rao, .inl (cI, 14, .inl (nF (fun _ => 0)))), (a_ron, .inl (cI, 14, .inl (nF (fun _ => 0)))), (a_aro, .inl (cI, 5, .inl (nF (fun _ => 0)))), (a_sip, .inl (cI, 5, .inl (nF (fun _ => 0)))), (a_sif, .inl (cI, 5, .inl (nF (fun _ => 0))))] H := hP
  have hD : va_D A [(a_chk, .inr (3, [.ref a_rao, .ref a_sig, .null, .ref a_ron, .ref a_aro, .ref a_sip, .ref a_sif])), (a_rao, .inl (cI, 14, .inl (nF (fun _ => 0)))), (a_ron, .inl (cI, 14, .inl (nF (fun _ => 0)))), (a_aro, .inl (cI, 5, .inl (nF (fun _ => 0)))), (a_sip, .inl (cI, 5, .inl (nF (fun _ => 0)))), (a_sif, .inl (cI, 5, .inl (nF (fun _ => 0))))] := hD
  refine lv_aload_n hx hb d_Chk_init_46 rfl (lv_at hl 0 rfl) ?_
  refine lv_aload_n hx hb d_Chk_init_47 rfl (lv_at hl 2 rfl) ?_
  refine va_putF (D := (dC, dI)) (ci := 3) (v := .ref a_stm) (ty := .object "CircuitDesk$Statements") (C := R_Chk) (T := F_Chk) (N := 7) hx hb hts (wi i_Chk) t_Chk t_Chk_ok n_Chk hown hK hP hD hS 0 rfl rfl 2 (by decide) (hts _ (mt 150 rfl rfl)) (fun _ h9 => h9) rfl hin rfl (by decide +kernel) rfl rfl (Nat.le_of_ble_eq_true rfl) d_Chk_init_48 (fun H locs hP hD hS => ?_)
  have hP : va_P (dC, dI) classes [(a_chk, .inr (3, [.ref a_rao, .ref a_sig, .ref a_stm, .ref a_ron, .ref a_aro, .ref a_sip, .ref a_sif])), (a_rao, .inl (cI, 14, .inl (nF (fun _ => 0)))), (a_ron, .inl (cI, 14, .inl (nF (fun _ => 0)))), (a_aro, .inl (cI, 5, .inl (nF (fun _ => 0)))), (a_sip, .inl (cI, 5, .inl (nF (fun _ => 0)))), (a_sif, .inl (cI, 5, .inl (nF (fun _ => 0))))] H := hP
  have hD : va_D A [(a_chk, .inr (3, [.ref a_rao, .ref a_sig, .ref a_stm, .ref a_ron, .ref a_aro, .ref a_sip, .ref a_sif])), (a_rao, .inl (cI, 14, .inl (nF (fun _ => 0)))), (a_ron, .inl (cI, 14, .inl (nF (fun _ => 0)))), (a_aro, .inl (cI, 5, .inl (nF (fun _ => 0)))), (a_sip, .inl (cI, 5, .inl (nF (fun _ => 0)))), (a_sif, .inl (cI, 5, .inl (nF (fun _ => 0))))] := hD
  exact W.vret hx hb hr (fun t ht hW => ⟨⟨(a_rao, a_ron, a_aro, a_sip, a_sif), rfl, trivial, by rw [ht]; exact hP, va_K.moved hW.alike hK, hD⟩, hS.F ht⟩) hS.2.2 d_Chk_init_51
set_option maxHeartbeats 4000000 in
set_option maxRecDepth 100000 in
theorem c_Mkr_init (l : Launch) (dC : Nat → ClassId) (dI : Nat → Nat → Nat) (cI cZ : ClassId) (a_mkr a_sig a_stm a_chk a_net : Nat) (tt sz : Nat) : Met l y_Mkr_init w_Mkr_init ({ frames := 1, cells := 7, slots := 252, locals := 20 }) (va_Pc [.ref a_mkr, .ref a_sig, .ref a_stm, .ref a_chk, .ref a_net] (PW (dC, dI) classes [(cI, .int), (cZ, .boolean)] tt [(a_mkr, .inr (4, [.null, .null, .null, .null, .null, .null, .null, .null, .null, .null, .null]))] sz)) (va_Qv (fun (_ : Nat × Nat × Nat × Nat × Nat × Nat × Nat) => True) (AT (dC, dI) classes [(cI, .int), (cZ, .boolean)] (va_A [(a_mkr, .inr (4, [.null, .null, .null, .null, .null, .null, .null, .null, .null, .null, .null]))] sz) (fun (u : Nat × Nat × Nat × Nat × Nat × Nat × Nat) => [(a_mkr, .inr (4, [.ref u.1, .ref u.2.1, .ref a_sig, .ref a_stm, .ref a_chk, .ref a_net, .ref u.2.2.1, .ref u.2.2.2.1, .ref u.2.2.2.2.1, .ref u.2.2.2.2.2.1, .ref u.2.2.2.2.2.2])), (u.1, .inl (cI, 112, .inl (nF (fun _ => 0)))), (u.2.1, .inl (cI, 112, .inl (nF (fun _ => 0)))), (u.2.2.1, .inl (cI, 8, .inl (nF (fun _ => 0)))), (u.2.2.2.1, .inl (cI, 5, .inl (nF (fun _ => 0)))), (u.2.2.2.2.1, .inl (cI, 5, .inl (nF (fun _ => 0)))), (u.2.2.2.2.2.1, .inl (cI, 5, .inl (nF (fun _ => 0)))), (u.2.2.2.2.2.2, .inl (cZ, 5, .inl (nF (fun _ => 0))))])) (va_A [(a_mkr, .inr (4, [.null, .null, .null, .null, .null, .null, .null, .null, .null, .null, .null]))] sz)) 7 252 (va_A [(a_mkr, .inr (4, [.null, .null, .null, .null, .null, .null, .null, .null, .null, .null, .null]))] sz) := by
  refine Met.ofW (cc := b_Mkr_init) (maxL := 5) (ret := none) (by decide) rfl ?_
  intro p e s m args below meth c s₁ B hml hv
  obtain ⟨rfl, hsz, hP, hK, hD0, hE⟩ := hv
  have hx := B.exec
  have hb := B.bytes
  have hr := B.returns
  have hts := atoms_spec (ws := w_Mkr_init) B.pre
  have hown : s.vm.findClass R_Mkr = some m.cls := findClass_of_methodNamed B.named
  have hlocks := B.notSynchronized
  have hin : meth.name = "<init>" := (name_of_methodNamed B.named B.method).1
  subst hsz
  have hD := hD0.self (sz := s.heap.size)
  generalize hAe : va_A [(a_mkr, .inr (4, [.null, .null, .null, .null, .null, .null, .null, .null, .null, .null, .null]))] s.heap.size = A at hD hE ⊢
  have hA : ∀ q : Nat, s.heap.size ≤ q → A q := fun q h => by rw [← hAe]; exact Or.inr h
  have hS : va_S A s.heap s.heap [] := va_S.rf
  have hP : va_P (dC, dI) classes [(a_mkr, .inr (4, [.null, .null, .null, .null, .null, .null, .null, .null, .null, .null, .null]))] s.heap := hP
  have hl := lv_entry ([.ref a_mkr, .ref a_sig, .ref a_stm, .ref a_chk, .ref a_net]) (n := 5) (Nat.le_of_ble_eq_true rfl)
  rw [lg_entry_eq]
  generalize (lg_sl ([.ref a_mkr, .ref a_sig, .ref a_stm, .ref a_chk, .ref a_net]) ++ List.replicate (5 - (lg_sl ([.ref a_mkr, .ref a_sig, .ref a_stm, .ref a_chk, .ref a_net])).length) Slot.unset).toArray = ls at hl ⊢
  have hl : lv_has ls 5 [(0, .ref a_mkr), (1, .ref a_sig), (2, .ref a_stm), (3, .ref a_chk), (4, .ref a_net)] := hl
  refine lv_aload_n hx hb d_Mkr_init_0 rfl (lv_at hl 0 rfl) ?_
  refine W.objInit hx hb hown (hts _ (mt 205 rfl rfl)) (hts _ (mt 57 rfl rfl)) (hts _ (mt 58 rfl rfl)) rfl (by rw [hml]; exact hl.1) rfl d_Mkr_init_1 (Nat.le_of_ble_eq_true rfl) (Nat.le_of_ble_eq_true rfl) ?_
  refine W.eq (g2 := F0 m 4 ls []) rfl ?_
  refine lv_aload_n hx hb d_Mkr_init_4 rfl (lv_at hl 0 rfl) ?_
  refine lv_bipush (v := nI 112) hx hb d_Mkr_init_5 rfl ?_
  refine k_newI hx hb (hts _ (mt 104 rfl rfl)) rfl hK hP hD hS hA 0 rfl (by decide) (Nat.le_of_ble_eq_true rfl) (Nat.le_of_ble_eq_true rfl) d_Mkr_init_7 (fun a_bits H hP hD hS => ?_)
  have hP : va_P (dC, dI) classes [(a_mkr, .inr (4, [.null, .null, .null, .null, .null, .null, .null, .null, .null, .null, .null])), (a_bits, .inl (cI, 112, .inl (nF (fun _ => 0))))] H := hP
  have hD : va_D A [(a_mkr, .inr (4, [.null, .null, .null, .null, .null, .null, .null, .null, .null, .null, .null])), (a_bits, .inl (cI, 112, .inl (nF (fun _ => 0))))] := hD
  refine W.widen (k := 1) (n := 112) (by omega) (by omega) ?_
  refine va_putF (D := (dC, dI)) (ci := 4) (v := .ref a_bits) (ty := .array .int) (C := R_Mkr) (T := F_Mkr) (N := 11) hx hb hts (wi i_Mkr) t_Mkr t_Mkr_ok n_Mkr hown hK hP hD hS 0 rfl rfl 0 (by decide) (hts _ (mt 206 rfl rfl)) (fun _ h9 => h9) rfl hin rfl (by decide +kernel) rfl rfl (Nat.le_of_ble_eq_true rfl) d_Mkr_init_9 (fun H locs hP hD hS => ?_)
  have hP : va_P (dC, dI) classes [(a_mkr, .inr (4, [.ref a_bits, .null, .null, .null, .null, .null, .null, .null, .null, .null, .null])), (a_bits, .inl (cI, 112, .inl (nF (fun _ => 0))))] H := hP
  have hD : va_D A [(a_mkr, .inr (4, [.ref a_bits, .null, .null, .null, .null, .null, .null, .null, .null, .null, .null])), (a_bits, .inl (cI, 112, .inl (nF (fun _ => 0))))] := hD
  refine lv_aload_n hx hb d_Mkr_init_12 rfl (lv_at hl 0 rfl) ?_
  refine lv_bipush (v := nI 112) hx hb d_Mkr_init_13 rfl ?_
  refine k_newI hx hb (hts _ (mt 104 rfl rfl)) rfl hK hP hD hS hA 0 rfl (by decide) (Nat.le_of_ble_eq_true rfl) (Nat.le_of_ble_eq_true rfl) d_Mkr_init_15 (fun a_nbits H hP hD hS => ?_)
  have hP : va_P (dC, dI) classes [(a_mkr, .inr (4, [.ref a_bits, .null, .null, .null, .null, .null, .null, .null, .null, .null, .null])), (a_bits, .inl (cI, 112, .inl (nF (fun _ => 0)))), (a_nbits, .inl (cI, 112, .inl (nF (fun _ => 0))))] H := hP
  have hD : va_D A [(a_mkr, .inr (4, [.ref a_bits, .null, .null, .null, .null, .null, .null, .null, .null, .null, .null])), (a_bits, .inl (cI, 112, .inl (nF (fun _ => 0)))), (a_nbits, .inl (cI, 112, .inl (nF (fun _ => 0))))] := hD
  refine W.widen (k := 2) (n := 224) (by omega) (by omega) ?_
  refine va_putF (D := (dC, dI)) (ci := 4) (v := .ref a_nbits) (ty := .array .int) (C := R_Mkr) (T := F_Mkr) (N := 11) hx hb hts (wi i_Mkr) t_Mkr t_Mkr_ok n_Mkr hown hK hP hD hS 0 rfl rfl 1 (by decide) (hts _ (mt 208 rfl rfl)) (fun _ h9 => h9) rfl hin rfl (by decide +kernel) rfl rfl (Nat.le_of_ble_eq_true rfl) d_Mkr_init_17 (fun H locs hP hD hS => ?_)
  have hP : va_P (dC, dI) classes [(a_mkr, .inr (4, [.ref a_bits, .ref a_nbits, .null, .null, .null, .null, .null, .null, .null, .null, .null])), (a_bits, .inl (cI, 112, .inl (nF (fun _ => 0)))), (a_nbits, .inl (cI, 112, .inl (nF (fun _ => 0))))] H := hP
  have hD : va_D A [(a_mkr, .inr (4, [.ref a_bits, .ref a_nbits, .null, .null, .null, .null, .null, .null, .null, .null, .null])), (a_bits, .inl (cI, 112, .inl (nF (fun _ => 0)))), (a_nbits, .inl (cI, 112, .inl (nF (fun _ => 0))))] := hD
  refine lv_aload_n hx hb d_Mkr_init_20 rfl (lv_at hl 0 rfl) ?_
  refine lv_bipush (v := nI 8) hx hb d_Mkr_init_21 rfl ?_
  refine k_newI hx hb (hts _ (mt 104 rfl rfl)) rfl hK hP hD hS hA 0 rfl (by decide) (Nat.le_of_ble_eq_true rfl) (Nat.le_of_ble_eq_true rfl) d_Mkr_init_23 (fun a_sums H hP hD hS => ?_)
  have hP : va_P (dC, dI) classes [(a_mkr, .inr (4, [.ref a_bits, .ref a_nbits, .null, .null, .null, .null, .null, .null, .null, .null, .null])), (a_bits, .inl (cI, 112, .inl (nF (fun _ => 0)))), (a_nbits, .inl (cI, 112, .inl (nF (fun _ => 0)))), (a_sums, .inl (cI, 8, .inl (nF (fun _ => 0))))] H := hP
  have hD : va_D A [(a_mkr, .inr (4, [.ref a_bits, .ref a_nbits, .null, .null, .null, .null, .null, .null, .null, .null, .null])), (a_bits, .inl (cI, 112, .inl (nF (fun _ => 0)))), (a_nbits, .inl (cI, 112, .inl (nF (fun _ => 0)))), (a_sums, .inl (cI, 8, .inl (nF (fun _ => 0))))] := hD
  refine W.widen (k := 3) (n := 232) (by omega) (by omega) ?_
  refine va_putF (D := (dC, dI)) (ci := 4) (v := .ref a_sums) (ty := .array .int) (C := R_Mkr) (T := F_Mkr) (N := 11) hx hb hts (wi i_Mkr) t_Mkr t_Mkr_ok n_Mkr hown hK hP hD hS 0 rfl rfl 6 (by decide) (hts _ (mt 214 rfl rfl)) (fun _ h9 => h9) rfl hin rfl (by decide +kernel) rfl rfl (Nat.le_of_ble_eq_true rfl) d_Mkr_init_25 (fun H locs hP hD hS => ?_)
  have hP : va_P (dC, dI) classes [(a_mkr, .inr (4, [.ref a_bits, .ref a_nbits, .null, .null, .null, .null, .ref a_sums, .null, .null, .null, .null])), (a_bits, .inl (cI, 112, .inl (nF (fun _ => 0)))), (a_nbits, .inl (cI, 112, .inl (nF (fun _ => 0)))), (a_sums, .inl (cI, 8, .inl (nF (fun _ => 0))))] H := hP
  have hD : va_D A [(a_mkr, .inr (4, [.ref a_bits, .ref a_nbits, .null, .null, .null, .null, .ref a_sums, .null, .null, .null, .null])), (a_bits, .inl (cI, 112, .inl (nF (fun _ => 0)))), (a_nbits, .inl (cI, 112, .inl (nF (fun _ => 0)))), (a_sums, .inl (cI, 8, .inl (nF (fun _ => 0))))] := hD
  refine lv_aload_n hx hb d_Mkr_init_28 rfl (lv_at hl 0 rfl) ?_
  refine lv_iconst (v := nI 5) hx hb d_Mkr_init_29 rfl ?_
  refine k_newI hx hb (hts _ (mt 104 rfl rfl)) rfl hK hP hD hS hA 0 rfl (by decide) (Nat.le_of_ble_eq_true rfl) (Nat.le_of_ble_eq_true rfl) d_Mkr_init_30 (fun a_given H hP hD hS => ?_)
  have hP : va_P (dC, dI) classes [(a_mkr, .inr (4, [.ref a_bits, .ref a_nbits, .null, .null, .null, .null, .ref a_sums, .null, .null, .null, .null])), (a_bits, .inl (cI, 112, .inl (nF (fun _ => 0)))), (a_nbits, .inl (cI, 112, .inl (nF (fun _ => 0)))), (a_sums, .inl (cI, 8, .inl (nF (fun _ => 0)))), (a_given, .inl (cI, 5, .inl (nF (fun _ => 0))))] H := hP
  have hD : va_D A [(a_mkr, .inr (4, [.ref a_bits, .ref a_nbits, .null, .null, .null, .null, .ref a_sums, .null, .null, .null, .null])), (a_bits, .inl (cI, 112, .inl (nF (fun _ => 0)))), (a_nbits, .inl (cI, 112, .inl (nF (fun _ => 0)))), (a_sums, .inl (cI, 8, .inl (nF (fun _ => 0)))), (a_given, .inl (cI, 5, .inl (nF (fun _ => 0))))] := hD
  refine W.widen (k := 4) (n := 237) (by omega) (by omega) ?_
  refine va_putF (D := (dC, dI)) (ci := 4) (v := .ref a_given) (ty := .array .int) (C := R_Mkr) (T := F_Mkr) (N := 11) hx hb hts (wi i_Mkr) t_Mkr t_Mkr_ok n_Mkr hown hK hP hD hS 0 rfl rfl 7 (by decide) (hts _ (mt 215 rfl rfl)) (fun _ h9 => h9) rfl hin rfl (by decide +kernel) rfl rfl (Nat.le_of_ble_eq_true rfl) d_Mkr_init_32 (fun H locs hP hD hS => ?_)
  have hP : va_P (dC, dI) classes [(a_mkr, .inr (4, [.ref a_bits, .ref a_nbits, .null, .null, .null, .null, .ref a_sums, .ref a_given, .null, .null, .null])), (a_bits, .inl (cI, 112, .inl (nF (fun _ => 0)))), (a_nbits, .inl (cI, 112, .inl (nF (fun _ => 0)))), (a_sums, .inl (cI, 8, .inl (nF (fun _ => 0)))), (a_given, .inl (cI, 5, .inl (nF (fun _ => 0))))] H := hP
  have hD : va_D A [(a_mkr, .inr (4, [.ref a_bits, .ref a_nbits, .null, .null, .null, .null, .ref a_sums, .ref a_given, .null, .null, .null])), (a_bits, .inl (cI, 112, .inl (nF (fun _ => 0)))), (a_nbits, .inl (cI, 112, .inl (nF (fun _ => 0)))), (a_sums, .inl (cI, 8, .inl (nF (fun _ => 0)))), (a_given, .inl (cI, 5, .inl (nF (fun _ => 0))))] := hD
  refine lv_aload_n hx hb d_Mkr_init_35 rfl (lv_at hl 0 rfl) ?_
  refine lv_iconst (v := nI 5) hx hb d_Mkr_init_36 rfl ?_
  refine k_newI hx hb (hts _ (mt 104 rfl rfl)) rfl hK hP hD hS hA 0 rfl (by decide) (Nat.le_of_ble_eq_true rfl) (Nat.le_of_ble_eq_true rfl) d_Mkr_init_37 (fun a_gfirst H hP hD hS => ?_)
  have hP : va_P (dC, dI) classes [(a_mkr, .inr (4, [.ref a_bits, .ref a_nbits, .null, .null, .null, .null, .ref a_sums, .ref a_given, .null, .null, .null])), (a_bits, .inl (cI, 112, .inl (nF (fun _ => 0)))), (a_nbits, .inl (cI, 112, .inl (nF (fun _ => 0)))), (a_sums, .inl (cI, 8, .inl (nF (fun _ => 0)))), (a_given, .inl (cI, 5, .inl (nF (fun _ => 0)))), (a_gfirst, .inl (cI, 5, .inl (nF (fun _ => 0))))] H := hP
  have hD : va_D A [(a_mkr, .inr (4, [.ref a_bits, .ref a_nbits, .null, .null, .null, .null, .ref a_sums, .ref a_given, .null, .null, .null])), (a_bits, .inl (cI, 112, .inl (nF (fun _ => 0)))), (a_nbits, .inl (cI, 112, .inl (nF (fun _ => 0)))), (a_sums, .inl (cI, 8, .inl (nF (fun _ => 0)))), (a_given, .inl (cI, 5, .inl (nF (fun _ => 0)))), (a_gfirst, .inl (cI, 5, .inl (nF (fun _ => 0))))] := hD
  refine W.widen (k := 5) (n := 242) (by omega) (by omega) ?_
  refine va_putF (D := (dC, dI)) (ci := 4) (v := .ref a_gfirst) (ty := .array .int) (C := R_Mkr) (T := F_Mkr) (N := 11) hx hb hts (wi i_Mkr) t_Mkr t_Mkr_ok n_Mkr hown hK hP hD hS 0 rfl rfl 8 (by decide) (hts _ (mt 216 rfl rfl)) (fun _ h9 => h9) rfl hin rfl (by decide +kernel) rfl rfl (Nat.le_of_ble_eq_true rfl) d_Mkr_init_39 (fun H locs hP hD hS => ?_)
  have hP : va_P (dC, dI) classes [(a_mkr, .inr (4, [.ref a_bits, .ref a_nbits, .null, .null, .null, .null, .ref a_sums, .ref a_given, .ref a_gfirst, .null, .null])), (a_bits, .inl (cI, 112, .inl (nF (fun _ => 0)))), (a_nbits, .inl (cI, 112, .inl (nF (fun _ => 0)))), (a_sums, .inl (cI, 8, .inl (nF (fun _ => 0)))), (a_given, .inl (cI, 5, .inl (nF (fun _ => 0)))), (a_gfirst, .inl (cI, 5, .inl (nF (fun _ => 0))))] H := hP
  have hD : va_D A [(a_mkr, .inr (4, [.ref a_bits, .ref a_nbits, .null, .null, .null, .null, .ref a_sums, .ref a_given, .ref a_gfirst, .null, .null])), (a_bits, .inl (cI, 112, .inl (nF (fun _ => 0)))), (a_nbits, .inl (cI, 112, .inl (nF (fun _ => 0)))), (a_sums, .inl (cI, 8, .inl (nF (fun _ => 0)))), (a_given, .inl (cI, 5, .inl (nF (fun _ => 0)))), (a_gfirst, .inl (cI, 5, .inl (nF (fun _ => 0))))] := hD
  refine lv_aload_n hx hb d_Mkr_init_42 rfl (lv_at hl 0 rfl) ?_
  refine lv_iconst (v := nI 5) hx hb d_Mkr_init_43 rfl ?_
  refine k_newI hx hb (hts _ (mt 104 rfl rfl)) rfl hK hP hD hS hA 0 rfl (by decide) (Nat.le_of_ble_eq_true rfl) (Nat.le_of_ble_eq_true rfl) d_Mkr_init_44 (fun a_cond H hP hD hS => ?_)
  have hP : va_P (dC, dI) classes [(a_mkr, .inr (4, [.ref a_bits, .ref a_nbits, .null, .null, .null, .null, .ref a_sums, .ref a_given, .ref a_gfirst, .null, .null])), (a_bits, .inl (cI, 112, .inl (nF (fun _ => 0)))), (a_nbits, .inl (cI, 112, .inl (nF (fun _ => 0)))), (a_sums, .inl (cI, 8, .inl (nF (fun _ => 0)))), (a_given, .inl (cI, 5, .inl (nF (fun _ => 0)))), (a_gfirst, .inl (cI, 5, .inl (nF (fun _ => 0)))), (a_cond, .inl (cI, 5, .inl (nF (fun _ => 0))))] H := hP
  have hD : va_D A [(a_mkr, .inr (4, [.ref a_bits, .ref a_nbits, .null, .null, .null, .null, .ref a_sums, .ref a_given, .ref a_gfirst, .null, .null])), (a_bits, .inl (cI, 112, .inl (nF (fun _ => 0)))), (a_nbits, .inl (cI, 112, .inl (nF (fun _ => 0)))), (a_sums, .inl (cI, 8, .inl (nF (fun _ => 0)))), (a_given, .inl (cI, 5, .inl (nF (fun _ => 0)))), (a_gfirst, .inl (cI, 5, .inl (nF (fun _ => 0)))), (a_cond, .inl (cI, 5, .inl (nF (fun _ => 0))))] := hD
  refine W.widen (k := 6) (n := 247) (by omega) (by omega) ?_
  refine va_putF (D := (dC, dI)) (ci := 4) (v := .ref a_cond) (ty := .array .int) (C := R_Mkr) (T := F_Mkr) (N := 11) hx hb hts (wi i_Mkr) t_Mkr t_Mkr_ok n_Mkr hown hK hP hD hS 0 rfl rfl 9 (by decide) (hts _ (mt 217 rfl rfl)) (fun _ h9 => h9) rfl hin rfl (by decide +kernel) rfl rfl (Nat.le_of_ble_eq_true rfl) d_Mkr_init_46 (fun H locs hP hD hS => ?_)
  have hP : va_P (dC, dI) classes [(a_mkr, .inr (4, [.ref a_bits, .ref a_nbits, .null, .null, .null, .null, .ref a_sums, .ref a_given, .ref a_gfirst, .ref a_cond, .null])), (a_bits, .inl (cI, 112, .inl (nF (fun _ => 0)))), (a_nbits, .inl (cI, 112, .inl (nF (fun _ => 0)))), (a_sums, .inl (cI, 8, .inl (nF (fun _ => 0)))), (a_given, .inl (cI, 5, .inl (nF (fun _ => 0)))), (a_gfirst, .inl (cI, 5, .inl (nF (fun _ => 0)))), (a_cond, .inl (cI, 5, .inl (nF (fun _ => 0))))] H := hP
  have hD : va_D A [(a_mkr, .inr (4, [.ref a_bits, .ref a_nbits, .null, .null, .null, .null, .ref a_sums, .ref a_given, .ref a_gfirst, .ref a_cond, .null])), (a_bits, .inl (cI, 112, .inl (nF (fun _ => 0)))), (a_nbits, .inl (cI, 112, .inl (nF (fun _ => 0)))), (a_sums, .inl (cI, 8, .inl (nF (fun _ => 0)))), (a_given, .inl (cI, 5, .inl (nF (fun _ => 0)))), (a_gfirst, .inl (cI, 5, .inl (nF (fun _ => 0)))), (a_cond, .inl (cI, 5, .inl (nF (fun _ => 0))))] := hD
  refine lv_aload_n hx hb d_Mkr_init_49 rfl (lv_at hl 0 rfl) ?_
  refine lv_iconst (v := nI 5) hx hb d_Mkr_init_50 rfl ?_
  refine k_newZ hx hb (hts _ (mt 140 rfl rfl)) rfl hK hP hD hS hA 1 rfl (by decide) (Nat.le_of_ble_eq_true rfl) (Nat.le_of_ble_eq_true rfl) d_Mkr_init_51 (fun a_insec H hP hD hS => ?_)
  have hP : va_P (dC, dI) classes [(a_mkr, .inr (4, [.ref a_bits, .ref a_nbits, .null, .null, .null, .null, .ref a_sums, .ref a_given, .ref a_gfirst, .ref a_cond, .null])), (a_bits, .inl (cI, 112, .inl (nF (fun _ => 0)))), (a_nbits, .inl (cI, 112, .inl (nF (fun _ => 0)))), (a_sums, .inl (cI, 8, .inl (nF (fun _ => 0)))), (a_given, .inl (cI, 5, .inl (nF (fun _ => 0)))), (a_gfirst, .inl (cI, 5, .inl (nF (fun _ => 0)))), (a_cond, .inl (cI, 5, .inl (nF (fun _ => 0)))), (a_insec, .inl (cZ, 5, .inl (nF (fun _ => 0))))] H := hP
  have hD : va_D A [(a_mkr, .inr (4, [.ref a_bits, .ref a_nbits, .null, .null, .null, .null, .ref a_sums, .ref a_given, .ref a_gfirst, .ref a_cond, .null])), (a_bits, .inl (cI, 112, .inl (nF (fun _ => 0)))), (a_nbits, .inl (cI, 112, .inl (nF (fun _ => 0)))), (a_sums, .inl (cI, 8, .inl (nF (fun _ => 0)))), (a_given, .inl (cI, 5, .inl (nF (fun _ => 0)))), (a_gfirst, .inl (cI, 5, .inl (nF (fun _ => 0)))), (a_cond, .inl (cI, 5, .inl (nF (fun _ => 0)))), (a_insec, .inl (cZ, 5, .inl (nF (fun _ => 0))))] := hD
  refine W.widen (k := 7) (n := 252) (by omega) (by omega) ?_
  refine va_putF (D := (dC, dI)) (ci := 4) (v := .ref a_insec) (ty := .array .boolean) (C := R_Mkr) (T := F_Mkr) (N := 11) hx hb hts (wi i_Mkr) t_Mkr t_Mkr_ok n_Mkr hown hK hP hD hS 0 rfl rfl 10 (by decide) (hts _ (mt 218 rfl rfl)) (fun _ h9 => h9) rfl hin rfl (by decide +kernel) rfl rfl (Nat.le_of_ble_eq_true rfl) d_Mkr_init_53 (fun H locs hP hD hS => ?_)
  have hP : va_P (dC, dI) classes [(a_mkr, .inr (4, [.ref a_bits, .ref a_nbits, .null, .null, .null, .null, .ref a_sums, .ref a_given, .ref a_gfirst, .ref a_cond, .ref a_insec])), (a_bits, .inl (cI, 112, .inl (nF (fun _ => 0)))), (a_nbits, .inl (cI, 112, .inl (nF (fun _ => 0)))), (a_sums, .inl (cI, 8, .inl (nF (fun _ => 0)))), (a_given, .inl (cI, 5, .inl (nF (fun _ => 0)))), (a_gfirst, .inl (cI, 5, .inl (nF (fun _ => 0)))), (a_cond, .inl (cI, 5, .inl (nF (fun _ => 0)))), (a_insec, .inl (cZ, 5, .inl (nF (fun _ => 0))))] H := hP
  have hD : va_D A [(a_mkr, .inr (4, [.ref a_bits, .ref a_nbits, .null, .null, .null, .null, .ref a_sums, .ref a_given, .ref a_gfirst, .ref a_cond, .ref a_insec])), (a_bits, .inl (cI, 112, .inl (nF (fun _ => 0)))), (a_nbits, .inl (cI, 112, .inl (nF (fun _ => 0)))), (a_sums, .inl (cI, 8, .inl (nF (fun _ => 0)))), (a_given, .inl (cI, 5, .inl (nF (fun _ => 0)))), (a_gfirst, .inl (cI, 5, .inl (nF (fun _ => 0)))), (a_cond, .inl (cI, 5, .inl (nF (fun _ => 0)))), (a_insec, .inl (cZ, 5, .inl (nF (fun _ => 0))))] := hD
  refine lv_aload_n hx hb d_Mkr_init_56 rfl (lv_at hl 0 rfl) ?_
  refine lv_aload_n hx hb d_Mkr_init_57 rfl (lv_at hl 1 rfl) ?_
  refine va_putF (D := (dC, dI)) (ci := 4) (v := .ref a_sig) (ty := .object "CircuitDesk$Signals") (C := R_Mkr) (T := F_Mkr) (N := 11) hx hb hts (wi i_Mkr) t_Mkr t_Mkr_ok n_Mkr hown hK hP hD hS 0 rfl rfl 2 (by decide) (hts _ (mt 210 rfl rfl)) (fun _ h9 => h9) rfl hin rfl (by decide +kernel) rfl rfl (Nat.le_of_ble_eq_true rfl) d_Mkr_init_58 (fun H locs hP hD hS => ?_)
  have hP : va_P (dC, dI) classes [(a_mkr, .inr (4, [.ref a_bits, .ref a_nbits, .ref a_sig, .null, .null, .null, .ref a_sums, .ref a_given, .ref a_gfirst, .ref a_cond, .ref a_insec])), (a_bits, .inl (cI, 112, .inl (nF (fun _ => 0)))), (a_nbits, .inl (cI, 112, .inl (nF (fun _ => 0)))), (a_sums, .inl (cI, 8, .inl (nF (fun _ => 0)))), (a_given, .inl (cI, 5, .inl (nF (fun _ => 0)))), (a_gfirst, .inl (cI, 5, .inl (nF (fun _ => 0)))), (a_cond, .inl (cI, 5, .inl (nF (fun _ => 0)))), (a_insec, .inl (cZ, 5, .inl (nF (fun _ => 0))))] H := hP
  have hD : va_D A [(a_mkr, .inr (4, [.ref a_bits, .ref a_nbits, .ref a_sig, .null, .null, .null, .ref a_sums, .ref a_given, .ref a_gfirst, .ref a_cond, .ref a_insec])), (a_bits, .inl (cI, 112, .inl (nF (fun _ => 0)))), (a_nbits, .inl (cI, 112, .inl (nF (fun _ => 0)))), (a_sums, .inl (cI, 8, .inl (nF (fun _ => 0)))), (a_given, .inl (cI, 5, .inl (nF (fun _ => 0)))), (a_gfirst, .inl (cI, 5, .inl (nF (fun _ => 0)))), (a_cond, .inl (cI, 5, .inl (nF (fun _ => 0)))), (a_insec, .inl (cZ, 5, .inl (nF (fun _ => 0))))] := hD
  refine lv_aload_n hx hb d_Mkr_init_61 rfl (lv_at hl 0 rfl) ?_
  refine lv_aload_n hx hb d_Mkr_init_62 rfl (lv_at hl 2 rfl) ?_
  refine va_putF (D := (dC, dI)) (ci := 4) (v := .ref a_stm) (ty := .object "CircuitDesk$Statements") (C := R_Mkr) (T := F_Mkr) (N := 11) hx hb hts (wi i_Mkr) t_Mkr t_Mkr_ok n_Mkr hown hK hP hD hS 0 rfl rfl 3 (by decide) (hts _ (mt 211 rfl rfl)) (fun _ h9 => h9) rfl hin rfl (by decide +kernel) rfl rfl (Nat.le_of_ble_eq_true rfl) d_Mkr_init_63 (fun H locs hP hD hS => ?_)
  have hP : va_P (dC, dI) classes [(a_mkr, .inr (4, [.ref a_bits, .ref a_nbits, .ref a_sig, .ref a_stm, .null, .null, .ref a_sums, .ref a_given, .ref a_gfirst, .ref a_cond, .ref a_insec])), (a_bits, .inl (cI, 112, .inl (nF (fun _ => 0)))), (a_nbits, .inl (cI, 112, .inl (nF (fun _ => 0)))), (a_sums, .inl (cI, 8, .inl (nF (fun _ => 0)))), (a_given, .inl (cI, 5, .inl (nF (fun _ => 0)))), (a_gfirst, .inl (cI, 5, .inl (nF (fun _ => 0)))), (a_cond, .inl (cI, 5, .inl (nF (fun _ => 0)))), (a_insec, .inl (cZ, 5, .inl (nF (fun _ => 0))))] H := hP
  have hD : va_D A [(a_mkr, .inr (4, [.ref a_bits, .ref a_nbits, .ref a_sig, .ref a_stm, .null, .null, .ref a_sums, .ref a_given, .ref a_gfirst, .ref a_cond, .ref a_insec])), (a_bits, .inl (cI, 112, .inl (nF (fun _ => 0)))), (a_nbits, .inl (cI, 112, .inl (nF (fun _ => 0)))), (a_sums, .inl (cI, 8, .inl (nF (fun _ => 0)))), (a_given, .inl (cI, 5, .inl (nF (fun _ => 0)))), (a_gfirst, .inl (cI, 5, .inl (nF (fun _ => 0)))), (a_cond, .inl (cI, 5, .inl (nF (fun _ => 0)))), (a_insec, .inl (cZ, 5, .inl (nF (fun _ => 0))))] := hD
  refine lv_aload_n hx hb d_Mkr_init_66 rfl (lv_at hl 0 rfl) ?_
  refine lv_aload_n hx hb d_Mkr_init_67 rfl (lv_at hl 3 rfl) ?_
  refine va_putF (D := (dC, dI)) (ci := 4) (v := .ref a_chk) (ty := .object "CircuitDesk$Checks") (C := R_Mkr) (T := F_Mkr) (N := 11) hx hb hts (wi i_Mkr) t_Mkr t_Mkr_ok n_Mkr hown hK hP hD hS 0 rfl rfl 4 (by decide) (hts _ (mt 212 rfl rfl)) (fun _ h9 => h9) rfl hin rfl (by decide +kernel) rfl rfl (Nat.le_of_ble_eq_true rfl) d_Mkr_init_68 (fun H locs hP hD hS => ?_)
  have hP : va_P (dC, dI) classes [(a_mkr, .inr (4, [.ref a_bits, .ref a_nbits, .ref a_sig, .ref a_stm, .ref a_chk, .null, .ref a_sums, .ref a_given, .ref a_gfirst, .ref a_cond, .ref a_insec])), (a_bits, .inl (cI, 112, .inl (nF (fun _ => 0)))), (a_nbits, .inl (cI, 112, .inl (nF (fun _ => 0)))), (a_sums, .inl (cI, 8, .inl (nF (fun _ => 0)))), (a_given, .inl (cI, 5, .inl (nF (fun _ => 0)))), (a_gfirst, .inl (cI, 5, .inl (nF (fun _ => 0)))), (a_cond, .inl (cI, 5, .inl (nF (fun _ => 0)))), (a_insec, .inl (cZ, 5, .inl (nF (fun _ => 0))))] H := hP
  have hD : va_D A [(a_mkr, .inr (4, [.ref a_bits, .ref a_nbits, .ref a_sig, .ref a_stm, .ref a_chk, .null, .ref a_sums, .ref a_given, .ref a_gfirst, .ref a_cond, .ref a_insec])), (a_bits, .inl (cI, 112, .inl (nF (fun _ => 0)))), (a_nbits, .inl (cI, 112, .inl (nF (fun _ => 0)))), (a_sums, .inl (cI, 8, .inl (nF (fun _ => 0)))), (a_given, .inl (cI, 5, .inl (nF (fun _ => 0)))), (a_gfirst, .inl (cI, 5, .inl (nF (fun _ => 0)))), (a_cond, .inl (cI, 5, .inl (nF (fun _ => 0)))), (a_insec, .inl (cZ, 5, .inl (nF (fun _ => 0))))] := hD
  refine lv_aload_n hx hb d_Mkr_init_71 rfl (lv_at hl 0 rfl) ?_
  refine lv_aload hx hb d_Mkr_init_72 (lv_at hl 4 rfl) ?_
  refine va_putF (D := (dC, dI)) (ci := 4) (v := .ref a_net) (ty := .object "CircuitDesk$Net") (C := R_Mkr) (T := F_Mkr) (N := 11) hx hb hts (wi i_Mkr) t_Mkr t_Mkr_ok n_Mkr hown hK hP hD hS 0 rfl rfl 5 (by decide) (hts _ (mt 213 rfl rfl)) (fun _ h9 => h9) rfl hin rfl (by decide +kernel) rfl rfl (Nat.le_of_ble_eq_true rfl) d_Mkr_init_74 (fun H locs hP hD hS => ?_)
  have hP : va_P (dC, dI) classes [(a_mkr, .inr (4, [.ref a_bits, .ref a_nbits, .ref a_sig, .ref a_stm, .ref a_chk, .ref a_net, .ref a_sums, .ref a_given, .ref a_gfirst, .ref a_cond, .ref a_insec])), (a_bits, .inl (cI, 112, .inl (nF (fun _ => 0)))), (a_nbits, .inl (cI, 112, .inl (nF (fun _ => 0)))), (a_sums, .inl (cI, 8, .inl (nF (fun _ => 0)))), (a_given, .inl (cI, 5, .inl (nF (fun _ => 0)))), (a_gfirst, .inl (cI, 5, .inl (nF (fun _ => 0)))), (a_cond, .inl (cI, 5, .inl (nF (fun _ => 0)))), (a_insec, .inl (cZ, 5, .inl (nF (fun _ => 0))))] H := hP
  have hD : va_D A [(a_mkr, .inr (4, [.ref a_bits, .ref a_nbits, .ref a_sig, .ref a_stm, .ref a_chk, .ref a_net, .ref a_sums, .ref a_given, .ref a_gfirst, .ref a_cond, .ref a_insec])), (a_bits, .inl (cI, 112, .inl (nF (fun _ => 0)))), (a_nbits, .inl (cI, 112, .inl (nF (fun _ => 0)))), (a_sums, .inl (cI, 8, .inl (nF (fun _ => 0)))), (a_given, .inl (cI, 5, .inl (nF (fun _ => 0)))), (a_gfirst, .inl (cI, 5, .inl (nF (fun _ => 0)))), (a_cond, .inl (cI, 5, .inl (nF (fun _ => 0)))), (a_insec, .inl (cZ, 5, .inl (nF (fun _ => 0))))] := hD
  exact W.vret hx hb hr (fun t ht hW => ⟨⟨(a_bits, a_nbits, a_sums, a_given, a_gfirst, a_cond, a_insec), rfl, trivial, by rw [ht]; exact hP, va_K.moved hW.alike hK, hD⟩, hS.F ht⟩) hS.2.2 d_Mkr_init_77
