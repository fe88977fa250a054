set_option maxHeartbeats 4000000 in
set_option maxRecDepth 100000 in
theorem c_Mod_node1o4 (l : Launch) (dC : Nat → ClassId) (dI : Nat → Nat → Nat) (cI cZ : ClassId) (a_mod a_mkind a_mwidth a_mreset a_mop a_mka a_mkb a_mkc a_mheld a_msort a_mof a_mfrom a_mbit a_mdone a_mrests a_mxx a_myy a_mdepth a_mone a_mbefore a_mfirst a_mturned : Nat) (tt sz : Nat) (mN : Nat) (mMs : Nat) (mG : Nat) (mCk : Nat) (mFw : Int32) (mRd : Nat) (mWd : Nat → Nat) (mOp : Nat → Int32) (mAa : Nat → Int32) (mAb : Nat → Int32) (mAc : Nat → Int32) (mBi : Nat → Nat) (mX : Nat → Nat) (mY : Nat → Nat) (mDe : Nat → Nat) (gd : Nat) (P : Nat → Nat) (Dp : Nat → Nat) (Sl : Nat → Nat) (T : Nat → Nat) (K : List Nat) (CB : Nat → Nat → Nat) (X : Nat) (Y : Nat) (S : Nat) (b_mN : mN ≤ 14) (b_mMs : mMs ≤ 20) (b_mG : mG ≤ 1280) (b_mRd : mRd ≤ 1) (b_mWd : ∀ j, mWd j < 9) (b_mBi : ∀ j, mBi j < 2786) (b_mX : ∀ j, mX j < 2786) (b_mY : ∀ j, mY j < 2786) (b_mDe : ∀ j, mDe j < 1400) (hN : NJ mG gd P Dp Sl T) (hXY : MXY mG mX mY mDe P Dp) (hAL : AL K T mG) (hS14 : S < 14) (hW1 : 1 ≤ mWd S) (hop : mOp S = nI 4) (hax : mAa S = nI X) (hx1 : X < 14 ∧ X ≠ S ∧ ∀ j, OKc T mG (lit mBi mWd X j) (CB X j)) (hay : mAb S = nI Y) (hy1 : Y < 14 ∧ Y ≠ S ∧ ∀ j, OKc T mG (lit mBi mWd Y j) (CB Y j)) (hws : mWd S = max (mWd X) (mWd Y) + 1) (hgl : ∀ c, c ∈ ncL mWd CB 4 (mAa S) (mAb S) (mAc S) (mWd S) → c ∈ K) : Met l y_Mod_node1 w_Mod_node1 ({ frames := 6, cells := 0, slots := 0, locals := 200 }) (va_Pc [.ref a_mod, .int (nI S)] (PW (dC, dI) classes [(cI, .int), (cZ, .boolean)] tt [(a_mod, .inr (6, [.ref a_mkind, .ref a_mwidth, .ref a_mreset, .ref a_mop, .ref a_mka, .ref a_mkb, .ref a_mkc, .ref a_mheld, .int (nI mN), .ref a_msort, .ref a_mof, .ref a_mfrom, .int (nI mMs), .ref a_mbit, .ref a_mdone, .ref a_mrests, .ref a_mxx, .ref a_myy, .ref a_mdepth, .ref a_mone, .int (nI mG), .int (nI mCk), .int mFw, .int (nI mRd), .ref a_mbefore, .ref a_mfirst, .ref a_mturned])), (a_mwidth, .inl (cI, 14, .inl (nF mWd))), (a_mop, .inl (cI, 14, .inl mOp)), (a_mka, .inl (cI, 14, .inl mAa)), (a_mkb, .inl (cI, 14, .inl mAb)), (a_mkc, .inl (cI, 14, .inl mAc)), (a_mbit, .inl (cI, 224, .inl (nF mBi))), (a_mxx, .inl (cI, 2600, .inl (nF mX))), (a_myy, .inl (cI, 2600, .inl (nF mY))), (a_mdepth, .inl (cI, 2600, .inl (nF mDe)))] sz)) (va_Qv (fun (u : Nat × (Nat → Nat) × (Nat → Nat) × (Nat → Nat) × Nat × (Nat → Nat) × (Nat → Nat) × (Nat → Nat) × (Nat → Nat) × (Nat → Nat)) => (u.1 ≤ 1280) ∧ (∀ j, u.2.1 j < 2786) ∧ (∀ j, u.2.2.1 j < 2786) ∧ (∀ j, u.2.2.2.1 j < 1400) ∧ (∀ j, u.2.2.2.2.2.2.2.2.2 j < 2786) ∧ (NJ u.1 u.2.2.2.2.1 u.2.2.2.2.2.1 u.2.2.2.2.2.2.1 u.2.2.2.2.2.2.2.1 u.2.2.2.2.2.2.2.2.1) ∧ (MXY u.1 u.2.1 u.2.2.1 u.2.2.2.1 u.2.2.2.2.2.1 u.2.2.2.2.2.2.1) ∧ (AL K u.2.2.2.2.2.2.2.2.1 u.1) ∧ (ST T mG u.2.2.2.2.2.2.2.2.1 u.1 (ncL mWd CB 4 (mAa S) (mAb S) (mAc S) (mWd S))) ∧ (Out mBi u.2.2.2.2.2.2.2.2.2 S) ∧ (∀ j, j < mWd S → OKc u.2.2.2.2.2.2.2.2.1 u.1 (u.2.2.2.2.2.2.2.2.2 (8 * S + j)) (nc mWd CB 4 (mAa S) (mAb S) (mAc S) j))) (AT (dC, dI) classes [(cI, .int), (cZ, .boolean)] (va_A [(a_mod, .inr (6, [.ref a_mkind, .ref a_mwidth, .ref a_mreset, .ref a_mop, .ref a_mka, .ref a_mkb, .ref a_mkc, .ref a_mheld, .int (nI mN), .ref a_msort, .ref a_mof, .ref a_mfrom, .int (nI mMs), .ref a_mbit, .ref a_mdone, .ref a_mrests, .ref a_mxx, .ref a_myy, .ref a_mdepth, .ref a_mone, .int (nI mG), .int (nI mCk), .int mFw, .int (nI mRd), .ref a_mbefore, .ref a_mfirst, .ref a_mturned])), (a_mwidth, .inl (cI, 14, .inl (nF mWd))), (a_mop, .inl (cI, 14, .inl mOp)), (a_mka, .inl (cI, 14, .inl mAa)), (a_mkb, .inl (cI, 14, .inl mAb)), (a_mkc, .inl (cI, 14, .inl mAc)), (a_mbit, .inl (cI, 224, .inl (nF mBi))), (a_mxx, .inl (cI, 2600, .inl (nF mX))), (a_myy, .inl (cI, 2600, .inl (nF mY))), (a_mdepth, .inl (cI, 2600, .inl (nF mDe)))] sz) (fun (u : Nat × (Nat → Nat) × (Nat → Nat) × (Nat → Nat) × Nat × (Nat → Nat) × (Nat → Nat) × (Nat → Nat) × (Nat → Nat) × (Nat → Nat)) => [(a_mod, .inr (6, [.ref a_mkind, .ref a_mwidth, .ref a_mreset, .ref a_mop, .ref a_mka, .ref a_mkb, .ref a_mkc, .ref a_mheld, .int (nI mN), .ref a_msort, .ref a_mof, .ref a_mfrom, .int (nI mMs), .ref a_mbit, .ref a_mdone, .ref a_mrests, .ref a_mxx, .ref a_myy, .ref a_mdepth, .ref a_mone, .int (nI u.1), .int (nI mCk), .int mFw, .int (nI mRd), .ref a_mbefore, .ref a_mfirst, .ref a_mturned])), (a_mwidth, .inl (cI, 14, .inl (nF mWd))), (a_mop, .inl (cI, 14, .inl mOp)), (a_mka, .inl (cI, 14, .inl mAa)), (a_mkb, .inl (cI, 14, .inl mAb)), (a_mkc, .inl (cI, 14, .inl mAc)), (a_mbit, .inl (cI, 224, .inl (nF u.2.2.2.2.2.2.2.2.2))), (a_mxx, .inl (cI, 2600, .inl (nF u.2.1))), (a_myy, .inl (cI, 2600, .inl (nF u.2.2.1))), (a_mdepth, .inl (cI, 2600, .inl (nF u.2.2.2.1)))])) (va_A [(a_mod, .inr (6, [.ref a_mkind, .ref a_mwidth, .ref a_mreset, .ref a_mop, .ref a_mka, .ref a_mkb, .ref a_mkc, .ref a_mheld, .int (nI mN), .ref a_msort, .ref a_mof, .ref a_mfrom, .int (nI mMs), .ref a_mbit, .ref a_mdone, .ref a_mrests, .ref a_mxx, .ref a_myy, .ref a_mdepth, .ref a_mone, .int (nI mG), .int (nI mCk), .int mFw, .int (nI mRd), .ref a_mbefore, .ref a_mfirst, .ref a_mturned])), (a_mwidth, .inl (cI, 14, .inl (nF mWd))), (a_mop, .inl (cI, 14, .inl mOp)), (a_mka, .inl (cI, 14, .inl mAa)), (a_mkb, .inl (cI, 14, .inl mAb)), (a_mkc, .inl (cI, 14, .inl mAc)), (a_mbit, .inl (cI, 224, .inl (nF mBi))), (a_mxx, .inl (cI, 2600, .inl (nF mX))), (a_myy, .inl (cI, 2600, .inl (nF mY))), (a_mdepth, .inl (cI, 2600, .inl (nF mDe)))] sz)) 0 0 (va_A [(a_mod, .inr (6, [.ref a_mkind, .ref a_mwidth, .ref a_mreset, .ref a_mop, .ref a_mka, .ref a_mkb, .ref a_mkc, .ref a_mheld, .int (nI mN), .ref a_msort, .ref a_mof, .ref a_mfrom, .int (nI mMs), .ref a_mbit, .ref a_mdone, .ref a_mrests, .ref a_mxx, .ref a_myy, .ref a_mdepth, .ref a_mone, .int (nI mG), .int (nI mCk), .int mFw, .int (nI mRd), .ref a_mbefore, .ref a_mfirst, .ref a_mturned])), (a_mwidth, .inl (cI, 14, .inl (nF mWd))), (a_mop, .inl (cI, 14, .inl mOp)), (a_mka, .inl (cI, 14, .inl mAa)), (a_mkb, .inl (cI, 14, .inl mAb)), (a_mkc, .inl (cI, 14, .inl mAc)), (a_mbit, .inl (cI, 224, .inl (nF mBi))), (a_mxx, .inl (cI, 2600, .inl (nF mX))), (a_myy, .inl (cI, 2600, .inl (nF mY))), (a_mdepth, .inl (cI, 2600, .inl (nF mDe)))] sz) := by
  refine Met.ofW (cc := b_Mod_node1) (maxL := 13) (ret := none) (by decide) rfl ?_
  intro p e s m args below meth c s₁ B hml hv
  obtain ⟨rfl, hsz, hP, hK, hD0, hE⟩ := hv
  have hx := B.exec
  have hb := B.bytes
  have hr := B.returns
  have hts := atoms_spec (ws := w_Mod_node1) B.pre
  have hown : s.vm.findClass R_Mod = some m.cls := findClass_of_methodNamed B.named
  have hlocks := B.notSynchronized
  subst hsz
  have hD := hD0.self (sz := s.heap.size)
  generalize hAe : va_A [(a_mod, .inr (6, [.ref a_mkind, .ref a_mwidth, .ref a_mreset, .ref a_mop, .ref a_mka, .ref a_mkb, .ref a_mkc, .ref a_mheld, .int (nI mN), .ref a_msort, .ref a_mof, .ref a_mfrom, .int (nI mMs), .ref a_mbit, .ref a_mdone, .ref a_mrests, .ref a_mxx, .ref a_myy, .ref a_mdepth, .ref a_mone, .int (nI mG), .int (nI mCk), .int mFw, .int (nI mRd), .ref a_mbefore, .ref a_mfirst, .ref a_mturned])), (a_mwidth, .inl (cI, 14, .inl (nF mWd))), (a_mop, .inl (cI, 14, .inl mOp)), (a_mka, .inl (cI, 14, .inl mAa)), (a_mkb, .inl (cI, 14, .inl mAb)), (a_mkc, .inl (cI, 14, .inl mAc)), (a_mbit, .inl (cI, 224, .inl (nF mBi))), (a_mxx, .inl (cI, 2600, .inl (nF mX))), (a_myy, .inl (cI, 2600, .inl (nF mY))), (a_mdepth, .inl (cI, 2600, .inl (nF mDe)))] s.heap.size = A at hD hE ⊢
  have hA : ∀ q : Nat, s.heap.size ≤ q → A q := fun q h => by rw [← hAe]; exact Or.inr h
  have hS : va_S A s.heap s.heap [] := va_S.rf
  have hP : va_P (dC, dI) classes [(a_mod, .inr (6, [.ref a_mkind, .ref a_mwidth, .ref a_mreset, .ref a_mop, .ref a_mka, .ref a_mkb, .ref a_mkc, .ref a_mheld, .int (nI mN), .ref a_msort, .ref a_mof, .ref a_mfrom, .int (nI mMs), .ref a_mbit, .ref a_mdone, .ref a_mrests, .ref a_mxx, .ref a_myy, .ref a_mdepth, .ref a_mone, .int (nI mG), .int (nI mCk), .int mFw, .int (nI mRd), .ref a_mbefore, .ref a_mfirst, .ref a_mturned])), (a_mwidth, .inl (cI, 14, .inl (nF mWd))), (a_mop, .inl (cI, 14, .inl mOp)), (a_mka, .inl (cI, 14, .inl mAa)), (a_mkb, .inl (cI, 14, .inl mAb)), (a_mkc, .inl (cI, 14, .inl mAc)), (a_mbit, .inl (cI, 224, .inl (nF mBi))), (a_mxx, .inl (cI, 2600, .inl (nF mX))), (a_myy, .inl (cI, 2600, .inl (nF mY))), (a_mdepth, .inl (cI, 2600, .inl (nF mDe)))] s.heap := hP
  have hl := lv_entry ([.ref a_mod, .int (nI S)]) (n := 13) (Nat.le_of_ble_eq_true rfl)
  rw [lg_entry_eq]
  generalize (lg_sl ([.ref a_mod, .int (nI S)]) ++ List.replicate (13 - (lg_sl ([.ref a_mod, .int (nI S)])).length) Slot.unset).toArray = ls at hl ⊢
  have hl : lv_has ls 13 [(0, .ref a_mod), (1, .int (nI S))] := hl
  have eX : ix (mAa S) = X := ix_of hax (by omega)
  have eY : ix (mAb S) = Y := ix_of hay (by have := b_mWd X; omega)
  have hWs := b_mWd S
  have hWx := b_mWd X
  have hWy := b_mWd Y
  have eL : ncL mWd CB 4 (mAa S) (mAb S) (mAc S) (mWd S) = adL (CB X) (oC (CB Y) 0) 0 (max (mWd X) (mWd Y)) := by show adL (CB (ix (mAa S))) (oC (CB (ix (mAb S))) 0) 0 (max (mWd (ix (mAa S))) (mWd (ix (mAb S)))) = _; rw [eX, eY]
  have eV : ∀ j, nc mWd CB 4 (mAa S) (mAb S) (mAc S) j = (if j < max (mWd X) (mWd Y) then sm (CB X) (oC (CB Y) 0) 0 j else ca (CB X) (oC (CB Y) 0) 0 (max (mWd X) (mWd Y))) := fun j => by show (if j < max (mWd (ix (mAa S))) (mWd (ix (mAb S))) then sm (CB (ix (mAa S))) (oC (CB (ix (mAb S))) 0) 0 j else ca (CB (ix (mAa S))) (oC (CB (ix (mAb S))) 0) 0 (max (mWd (ix (mAa S))) (mWd (ix (mAb S))))) = _; rw [eX, eY]
  refine lv_aload_n hx hb d_Mod_node1_0 rfl (lv_at hl 0 rfl) ?_
  refine va_get (D := (dC, dI)) (ci := 6) (v := .ref a_mop) (C := R_Mod) (T := F_Mod) (N := 27) hx hb hts (wi i_Mod) hown hK hP 0 rfl rfl 3 (by decide) (hts _ (mt 545 rfl rfl)) (fun _ h9 => h9) rfl d_Mod_node1_1 ?_
  refine lv_iload_n hx hb d_Mod_node1_4 rfl (lv_at hl 1 rfl) ?_
  refine k_rld hx hb hK hP 2 0 rfl rfl (by omega) (by decide) d_Mod_node1_5 ?_
  refine k_top (show mOp S = nI 4 from hop) ?_
  refine lv_istore_n (lv' := [(2, .int (nI 4)), (0, .ref a_mod), (1, .int (nI S))]) hx hb d_Mod_node1_6 rfl hl (by decide) rfl (fun ls hl => ?_)
  refine lv_aload_n hx hb d_Mod_node1_7 rfl (lv_at hl 1 rfl) ?_
  refine va_get (D := (dC, dI)) (ci := 6) (v := .ref a_mka) (C := R_Mod) (T := F_Mod) (N := 27) hx hb hts (wi i_Mod) hown hK hP 0 rfl rfl 4 (by decide) (hts _ (mt 546 rfl rfl)) (fun _ h9 => h9) rfl d_Mod_node1_8 ?_
  refine lv_iload_n hx hb d_Mod_node1_11 rfl (lv_at hl 2 rfl) ?_
  refine k_rld hx hb hK hP 3 0 rfl rfl (by omega) (by decide) d_Mod_node1_12 ?_
  refine k_top (show mAa S = nI X from hax) ?_
  refine lv_istore_n (lv' := [(3, .int (nI X)), (2, .int (nI 4)), (0, .ref a_mod), (1, .int (nI S))]) hx hb d_Mod_node1_13 rfl hl (by decide) rfl (fun ls hl => ?_)
  refine lv_aload_n hx hb d_Mod_node1_14 rfl (lv_at hl 2 rfl) ?_
  refine va_get (D := (dC, dI)) (ci := 6) (v := .ref a_mkb) (C := R_Mod) (T := F_Mod) (N := 27) hx hb hts (wi i_Mod) hown hK hP 0 rfl rfl 5 (by decide) (hts _ (mt 547 rfl rfl)) (fun _ h9 => h9) rfl d_Mod_node1_15 ?_
  refine lv_iload_n hx hb d_Mod_node1_18 rfl (lv_at hl 3 rfl) ?_
  refine k_rld hx hb hK hP 4 0 rfl rfl (by omega) (by decide) d_Mod_node1_19 ?_
  refine k_top (show mAb S = nI Y from hay) ?_
  refine lv_istore (lv' := [(4, .int (nI Y)), (3, .int (nI X)), (2, .int (nI 4)), (0, .ref a_mod), (1, .int (nI S))]) hx hb d_Mod_node1_20 hl (by decide) rfl (fun ls hl => ?_)
  refine lv_iload_n hx hb d_Mod_node1_22 rfl (lv_at hl 2 rfl) ?_
  refine lv_bipush (v := nI 6) hx hb d_Mod_node1_23 rfl ?_
  refine lv_icmp_eq (tgt := 34) hx hb d_Mod_node1_25 (by decide) (fun c25 => ?_) (fun c25 => ?_)
  · skip
    have c25 : 4 = 6 := (nI_eq (by omega) (by omega)).mp c25
    omega
  · skip
    have c25 : ¬ (4 = 6) := fun h => c25 ((nI_eq (by omega) (by omega)).mpr h)
    refine lv_iload_n hx hb d_Mod_node1_28 rfl (lv_at hl 2 rfl) ?_
    refine lv_bipush (v := nI 7) hx hb d_Mod_node1_29 rfl ?_
    refine lv_icmp_ne (tgt := 53) hx hb d_Mod_node1_31 (by decide) (fun c31 => ?_) (fun c31 => ?_)
    · skip
      have c31 : ¬ (4 = 7) := fun h => c31 ((nI_eq (by omega) (by omega)).mpr h)
      refine lv_aload_n hx hb d_Mod_node1_53 rfl (lv_at hl 3 rfl) ?_
      refine va_get (D := (dC, dI)) (ci := 6) (v := .ref a_mwidth) (C := R_Mod) (T := F_Mod) (N := 27) hx hb hts (wi i_Mod) hown hK hP 0 rfl rfl 1 (by decide) (hts _ (mt 543 rfl rfl)) (fun _ h9 => h9) rfl d_Mod_node1_54 ?_
      refine lv_iload_n hx hb d_Mod_node1_57 rfl (lv_at hl 4 rfl) ?_
      refine k_ild hx hb hK hP 1 0 rfl rfl (by omega) (by decide) d_Mod_node1_58 ?_
      have hb_1 := b_mWd S
      refine lv_istore (lv' := [(5, .int (nI (mWd S))), (4, .int (nI Y)), (3, .int (nI X)), (2, .int (nI 4)), (0, .ref a_mod), (1, .int (nI S))]) hx hb d_Mod_node1_59 hl (by decide) rfl (fun ls hl => ?_)
      refine lv_iload_n hx hb d_Mod_node1_61 rfl (lv_at hl 3 rfl) ?_
      refine lv_iconst (v := nI 5) hx hb d_Mod_node1_62 rfl ?_
      refine lv_icmp_eq (tgt := 72) hx hb d_Mod_node1_63 (by decide) (fun c63 => ?_) (fun c63 => ?_)
      · skip
        have c63 : 4 = 5 := (nI_eq (by omega) (by omega)).mp c63
        omega
      · skip
        have c63 : ¬ (4 = 5) := fun h => c63 ((nI_eq (by omega) (by omega)).mpr h)
        refine lv_iload_n hx hb d_Mod_node1_66 rfl (lv_at hl 3 rfl) ?_
        refine lv_bipush (v := nI 7) hx hb d_Mod_node1_67 rfl ?_
        refine lv_icmp_ne (tgt := 76) hx hb d_Mod_node1_69 (by decide) (fun c69 => ?_) (fun c69 => ?_)
        · skip
          have c69 : ¬ (4 = 7) := fun h => c69 ((nI_eq (by omega) (by omega)).mpr h)
          refine lv_iconst (v := nI 0) hx hb d_Mod_node1_76 rfl ?_
          refine lv_istore (lv' := [(6, .int (nI 0)), (5, .int (nI (mWd S))), (4, .int (nI Y)), (3, .int (nI X)), (2, .int (nI 4)), (0, .ref a_mod), (1, .int (nI S))]) hx hb d_Mod_node1_77 hl (by decide) rfl (fun ls hl => ?_)
          refine lv_iconst (v := nI 1) hx hb d_Mod_node1_79 rfl ?_
          refine lv_istore (lv' := [(7, .int (nI 1)), (6, .int (nI 0)), (5, .int (nI (mWd S))), (4, .int (nI Y)), (3, .int (nI X)), (2, .int (nI 4)), (0, .ref a_mod), (1, .int (nI S))]) hx hb d_Mod_node1_80 hl (by decide) rfl (fun ls hl => ?_)
          refine lv_iconst (v := nI 0) hx hb d_Mod_node1_82 rfl ?_
          refine lv_istore (lv' := [(8, .int (nI 0)), (7, .int (nI 1)), (6, .int (nI 0)), (5, .int (nI (mWd S))), (4, .int (nI Y)), (3, .int (nI X)), (2, .int (nI 4)), (0, .ref a_mod), (1, .int (nI S))]) hx hb d_Mod_node1_83 hl (by decide) rfl (fun ls hl => ?_)
          have hI_2 : (mG ≤ 1280) ∧ (∀ j, mX j < 2786) ∧ (∀ j, mY j < 2786) ∧ (∀ j, mDe j < 1400) ∧ (∀ j, mBi j < 2786) ∧ (NJ mG gd P Dp Sl T) ∧ (MXY mG mX mY mDe P Dp) ∧ (AL K T mG) ∧ (ST T mG T mG (adL (CB X) (oC (CB Y) 0) 0 (min 0 (max (mWd X) (mWd Y))))) ∧ (OKc T mG 0 (ca (CB X) (oC (CB Y) 0) 0 (min 0 (max (mWd X) (mWd Y))))) ∧ (Out mBi mBi S) ∧ (∀ j, j < 0 → OKc T mG (mBi (8 * S + j)) ((if j < max (mWd X) (mWd Y) then sm (CB X) (oC (CB Y) 0) 0 j else ca (CB X) (oC (CB Y) 0) 0 (max (mWd X) (mWd Y))))) ∧ (0 ≤ mWd S) := ⟨(by omega), b_mX, b_mY, b_mDe, b_mBi, hN, hXY, hAL, (by rw [show min 0 (max (mWd X) (mWd Y)) = 0 by omega]; exact ST_rf rfl), (by rw [show min 0 (max (mWd X) (mWd Y)) = 0 by omega]; exact ⟨by omega, LT_0 hN.1⟩), (Out_rf mBi S), (fun j h => absurd h (by omega)), (by omega)⟩
          refine k_loop (σ := Nat × Nat × Nat × (Nat → Nat) × (Nat → Nat) × (Nat → Nat) × Nat × (Nat → Nat) × (Nat → Nat) × (Nat → Nat) × (Nat → Nat) × (Nat → Nat)) (D := (dC, dI)) (cl := classes) (A := A) (H0 := s.heap) (fun x => [(a_mod, .inr (6, [.ref a_mkind, .ref a_mwidth, .ref a_mreset, .ref a_mop, .ref a_mka, .ref a_mkb, .ref a_mkc, .ref a_mheld, .int (nI mN), .ref a_msort, .ref a_mof, .ref a_mfrom, .int (nI mMs), .ref a_mbit, .ref a_mdone, .ref a_mrests, .ref a_mxx, .ref a_myy, .ref a_mdepth, .ref a_mone, .int (nI x.2.2.1), .int (nI mCk), .int mFw, .int (nI mRd), .ref a_mbefore, .ref a_mfirst, .ref a_mturned])), (a_mwidth, .inl (cI, 14, .inl (nF mWd))), (a_mop, .inl (cI, 14, .inl mOp)), (a_mka, .inl (cI, 14, .inl mAa)), (a_mkb, .inl (cI, 14, .inl mAb)), (a_mkc, .inl (cI, 14, .inl mAc)), (a_mbit, .inl (cI, 224, .inl (nF x.2.2.2.2.2.2.2.2.2.2.2))), (a_mxx, .inl (cI, 2600, .inl (nF x.2.2.2.1))), (a_myy, .inl (cI, 2600, .inl (nF x.2.2.2.2.1))), (a_mdepth, .inl (cI, 2600, .inl (nF x.2.2.2.2.2.1)))]) (fun x => [(8, .int (nI x.1)), (7, .int (nI 1)), (6, .int (nI x.2.1)), (5, .int (nI (mWd S))), (4, .int (nI Y)), (3, .int (nI X)), (2, .int (nI 4)), (0, .ref a_mod), (1, .int (nI S))]) (fun x => (x.2.2.1 ≤ 1280) ∧ (∀ j, x.2.2.2.1 j < 2786) ∧ (∀ j, x.2.2.2.2.1 j < 2786) ∧ (∀ j, x.2.2.2.2.2.1 j < 1400) ∧ (∀ j, x.2.2.2.2.2.2.2.2.2.2.2 j < 2786) ∧ (NJ x.2.2.1 x.2.2.2.2.2.2.1 x.2.2.2.2.2.2.2.1 x.2.2.2.2.2.2.2.2.1 x.2.2.2.2.2.2.2.2.2.1 x.2.2.2.2.2.2.2.2.2.2.1) ∧ (MXY x.2.2.1 x.2.2.2.1 x.2.2.2.2.1 x.2.2.2.2.2.1 x.2.2.2.2.2.2.2.1 x.2.2.2.2.2.2.2.2.1) ∧ (AL K x.2.2.2.2.2.2.2.2.2.2.1 x.2.2.1) ∧ (ST T mG x.2.2.2.2.2.2.2.2.2.2.1 x.2.2.1 (adL (CB X) (oC (CB Y) 0) 0 (min x.1 (max (mWd X) (mWd Y))))) ∧ (OKc x.2.2.2.2.2.2.2.2.2.2.1 x.2.2.1 x.2.1 (ca (CB X) (oC (CB Y) 0) 0 (min x.1 (max (mWd X) (mWd Y))))) ∧ (Out mBi x.2.2.2.2.2.2.2.2.2.2.2 S) ∧ (∀ j, j < x.1 → OKc x.2.2.2.2.2.2.2.2.2.2.1 x.2.2.1 (x.2.2.2.2.2.2.2.2.2.2.2 (8 * S + j)) ((if j < max (mWd X) (mWd Y) then sm (CB X) (oC (CB Y) 0) 0 j else ca (CB X) (oC (CB Y) 0) 0 (max (mWd X) (mWd Y))))) ∧ (x.1 ≤ mWd S)) (fun x => mWd S - x.1) ?_ (0, 0, mG, mX, mY, mDe, gd, P, Dp, Sl, T, mBi) hI_2 hP hD hS (lv_sub hl [0, 1, 2, 3, 4, 5, 6, 7, 8] rfl)
          rintro ⟨b, cr, mG1, mX1, mY1, mDe1, gd1, P1, Dp1, Sl1, T1, B1⟩ hI ih_3 H locs ls hP hD hS hl
          obtain ⟨b_mG1, b_mX1, b_mY1, b_mDe1, b_B1, hN1, hXY1, hAL1, hst1, hcr, hO1, hB1, hbw⟩ : (mG1 ≤ 1280) ∧ (∀ j, mX1 j < 2786) ∧ (∀ j, mY1 j < 2786) ∧ (∀ j, mDe1 j < 1400) ∧ (∀ j, B1 j < 2786) ∧ (NJ mG1 gd1 P1 Dp1 Sl1 T1) ∧ (MXY mG1 mX1 mY1 mDe1 P1 Dp1) ∧ (AL K T1 mG1) ∧ (ST T mG T1 mG1 (adL (CB X) (oC (CB Y) 0) 0 (min b (max (mWd X) (mWd Y))))) ∧ (OKc T1 mG1 cr (ca (CB X) (oC (CB Y) 0) 0 (min b (max (mWd X) (mWd Y))))) ∧ (Out mBi B1 S) ∧ (∀ j, j < b → OKc T1 mG1 (B1 (8 * S + j)) ((if j < max (mWd X) (mWd Y) then sm (CB X) (oC (CB Y) 0) 0 j else ca (CB X) (oC (CB Y) 0) 0 (max (mWd X) (mWd Y))))) ∧ (b ≤ mWd S) := hI
          have hP : va_P (dC, dI) classes [(a_mod, .inr (6, [.ref a_mkind, .ref a_mwidth, .ref a_mreset, .ref a_mop, .ref a_mka, .ref a_mkb, .ref a_mkc, .ref a_mheld, .int (nI mN), .ref a_msort, .ref a_mof, .ref a_mfrom, .int (nI mMs), .ref a_mbit, .ref a_mdone, .ref a_mrests, .ref a_mxx, .ref a_myy, .ref a_mdepth, .ref a_mone, .int (nI mG1), .int (nI mCk), .int mFw, .int (nI mRd), .ref a_mbefore, .ref a_mfirst, .ref a_mturned])), (a_mwidth, .inl (cI, 14, .inl (nF mWd))), (a_mop, .inl (cI, 14, .inl mOp)), (a_mka, .inl (cI, 14, .inl mAa)), (a_mkb, .inl (cI, 14, .inl mAb)), (a_mkc, .inl (cI, 14, .inl mAc)), (a_mbit, .inl (cI, 224, .inl (nF B1))), (a_mxx, .inl (cI, 2600, .inl (nF mX1))), (a_myy, .inl (cI, 2600, .inl (nF mY1))), (a_mdepth, .inl (cI, 2600, .inl (nF mDe1)))] H := hP
          have hD : va_D A [(a_mod, .inr (6, [.ref a_mkind, .ref a_mwidth, .ref a_mreset, .ref a_mop, .ref a_mka, .ref a_mkb, .ref a_mkc, .ref a_mheld, .int (nI mN), .ref a_msort, .ref a_mof, .ref a_mfrom, .int (nI mMs), .ref a_mbit, .ref a_mdone, .ref a_mrests, .ref a_mxx, .ref a_myy, .ref a_mdepth, .ref a_mone, .int (nI mG1), .int (nI mCk), .int mFw, .int (nI mRd), .ref a_mbefore, .ref a_mfirst, .ref a_mturned])), (a_mwidth, .inl (cI, 14, .inl (nF mWd))), (a_mop, .inl (cI, 14, .inl mOp)), (a_mka, .inl (cI, 14, .inl mAa)), (a_mkb, .inl (cI, 14, .inl mAb)), (a_mkc, .inl (cI, 14, .inl mAc)), (a_mbit, .inl (cI, 224, .inl (nF B1))), (a_mxx, .inl (cI, 2600, .inl (nF mX1))), (a_myy, .inl (cI, 2600, .inl (nF mY1))), (a_mdepth, .inl (cI, 2600, .inl (nF mDe1)))] := hD
          have hl : lv_has ls 13 [(8, .int (nI b)), (7, .int (nI 1)), (6, .int (nI cr)), (5, .int (nI (mWd S))), (4, .int (nI Y)), (3, .int (nI X)), (2, .int (nI 4)), (0, .ref a_mod), (1, .int (nI S))] := hl
          refine lv_iload hx hb d_Mod_node1_85 (lv_at hl 0 rfl) ?_
          refine lv_iload hx hb d_Mod_node1_87 (lv_at hl 3 rfl) ?_
          refine lv_icmp_ge (tgt := 498) hx hb d_Mod_node1_89 (by decide) (fun c89 => ?_) (fun c89 => ?_)
          · skip
            have c89 : (mWd S) ≤ b := (nI_leI (by omega) (by omega)).mp c89
            refine lv_iload_n hx hb d_Mod_node1_498 rfl (lv_at hl 6 rfl) ?_
            refine lv_bipush (v := nI 6) hx hb d_Mod_node1_499 rfl ?_
            refine lv_icmp_ne (tgt := 515) hx hb d_Mod_node1_501 (by decide) (fun c501 => ?_) (fun c501 => ?_)
            · skip
              have c501 : ¬ (4 = 6) := fun h => c501 ((nI_eq (by omega) (by omega)).mpr h)
              refine lv_iload_n hx hb d_Mod_node1_515 rfl (lv_at hl 6 rfl) ?_
              refine lv_bipush (v := nI 7) hx hb d_Mod_node1_516 rfl ?_
              refine lv_icmp_ne (tgt := 534) hx hb d_Mod_node1_518 (by decide) (fun c518 => ?_) (fun c518 => ?_)
              · skip
                have c518 : ¬ (4 = 7) := fun h => c518 ((nI_eq (by omega) (by omega)).mpr h)
                exact W.vret hx hb hr (fun t ht hW => ⟨⟨(mG1, mX1, mY1, mDe1, gd1, P1, Dp1, Sl1, T1, B1), rfl, ⟨(show mG1 ≤ 1280 from by omega), b_mX1, b_mY1, b_mDe1, b_B1, (show NJ mG1 gd1 P1 Dp1 Sl1 T1 from hN1), (show MXY mG1 mX1 mY1 mDe1 P1 Dp1 from hXY1), (show AL K T1 mG1 from hAL1), (show ST T mG T1 mG1 (ncL mWd CB 4 (mAa S) (mAb S) (mAc S) (mWd S)) from by rw [eL]; have := hst1; rw [show min b (max (mWd X) (mWd Y)) = max (mWd X) (mWd Y) by omega] at this; exact this), (show Out mBi B1 S from hO1), (show ∀ j, j < mWd S → OKc T1 mG1 (B1 (8 * S + j)) (nc mWd CB 4 (mAa S) (mAb S) (mAc S) j) from fun j hj => by rw [eV]; exact hB1 j (by omega))⟩, by rw [ht]; exact hP, va_K.moved hW.alike hK, hD⟩, hS.F ht⟩) hS.2.2 d_Mod_node1_534
              · skip
                have c518 : 4 = 7 := (nI_eq (by omega) (by omega)).mp c518
                omega
            · skip
              have c501 : 4 = 6 := (nI_eq (by omega) (by omega)).mp c501
              omega
          · skip
            have c89 : ¬ ((mWd S) ≤ b) := fun h => c89 ((nI_leI (by omega) (by omega)).mpr h)
            refine lv_iload_n hx hb d_Mod_node1_92 rfl (lv_at hl 6 rfl) ?_
            refine lv_bipush (v := nI 11) hx hb d_Mod_node1_93 rfl ?_
            refine lv_icmp_ne (tgt := 107) hx hb d_Mod_node1_95 (by decide) (fun c95 => ?_) (fun c95 => ?_)
            · skip
              have c95 : ¬ (4 = 11) := fun h => c95 ((nI_eq (by omega) (by omega)).mpr h)
              refine lv_iconst (v := nI 0) hx hb d_Mod_node1_107 rfl ?_
              refine lv_istore (lv' := [(9, .int (nI 0)), (8, .int (nI b)), (7, .int (nI 1)), (6, .int (nI cr)), (5, .int (nI (mWd S))), (4, .int (nI Y)), (3, .int (nI X)), (2, .int (nI 4)), (0, .ref a_mod), (1, .int (nI S))]) hx hb d_Mod_node1_108 hl (by decide) rfl (fun ls hl => ?_)
              refine lv_iload_n hx hb d_Mod_node1_110 rfl (lv_at hl 7 rfl) ?_
              refine lv_if_ne (tgt := 130) hx hb d_Mod_node1_111 (by decide) (fun c111 => ?_) (fun c111 => ?_)
              · skip
                have c111 : ¬ (4 = 0) := fun h => c111 ((nI_eq0 (by omega)).mpr h)
                refine lv_iload_n hx hb d_Mod_node1_130 rfl (lv_at hl 7 rfl) ?_
                refine lv_iconst (v := nI 1) hx hb d_Mod_node1_131 rfl ?_
                refine lv_icmp_ne (tgt := 156) hx hb d_Mod_node1_132 (by decide) (fun c132 => ?_) (fun c132 => ?_)
                · skip
                  have c132 : ¬ (4 = 1) := fun h => c132 ((nI_eq (by omega) (by omega)).mpr h)
                  refine lv_iload_n hx hb d_Mod_node1_156 rfl (lv_at hl 7 rfl) ?_
                  refine lv_iconst (v := nI 2) hx hb d_Mod_node1_157 rfl ?_
                  refine lv_icmp_ne (tgt := 182) hx hb d_Mod_node1_158 (by decide) (fun c158 => ?_) (fun c158 => ?_)
                  · skip
                    have c158 : ¬ (4 = 2) := fun h => c158 ((nI_eq (by omega) (by omega)).mpr h)
                    refine lv_iload_n hx hb d_Mod_node1_182 rfl (lv_at hl 7 rfl) ?_
                    refine lv_iconst (v := nI 3) hx hb d_Mod_node1_183 rfl ?_
                    refine lv_icmp_ne (tgt := 208) hx hb d_Mod_node1_184 (by decide) (fun c184 => ?_) (fun c184 => ?_)
                    · skip
                      have c184 : ¬ (4 = 3) := fun h => c184 ((nI_eq (by omega) (by omega)).mpr h)
                      refine lv_iload_n hx hb d_Mod_node1_208 rfl (lv_at hl 7 rfl) ?_
                      refine lv_iconst (v := nI 4) hx hb d_Mod_node1_209 rfl ?_
                      refine lv_icmp_ne (tgt := 226) hx hb d_Mod_node1_210 (by decide) (fun c210 => ?_) (fun c210 => ?_)
                      · skip
                        have c210 : ¬ (4 = 4) := fun h => c210 ((nI_eq (by omega) (by omega)).mpr h)
                        omega
                      · skip
                        have c210 : 4 = 4 := (nI_eq (by omega) (by omega)).mp c210
                        refine lv_iload hx hb d_Mod_node1_213 (lv_at hl 1 rfl) ?_
                        refine lv_iload hx hb d_Mod_node1_215 (lv_at hl 4 rfl) ?_
                        refine lv_iconst (v := nI 1) hx hb d_Mod_node1_217 rfl ?_
                        refine lv_isub hx hb d_Mod_node1_218 ?_
                        refine k_top (pk_sub (by omega)) ?_
                        refine lv_icmp_ne (tgt := 226) hx hb d_Mod_node1_219 (by decide) (fun c219 => ?_) (fun c219 => ?_)
                        · skip
                          have c219 : ¬ (b = ((mWd S) - 1)) := fun h => c219 ((nI_eq (by omega) (by omega)).mpr h)
                          refine lv_iload_n hx hb d_Mod_node1_226 rfl (lv_at hl 7 rfl) ?_
                          refine lv_iconst (v := nI 4) hx hb d_Mod_node1_227 rfl ?_
                          refine lv_icmp_ne (tgt := 240) hx hb d_Mod_node1_228 (by decide) (fun c228 => ?_) (fun c228 => ?_)
                          · skip
                            have c228 : ¬ (4 = 4) := fun h => c228 ((nI_eq (by omega) (by omega)).mpr h)
                            omega
                          · skip
                            have c228 : 4 = 4 := (nI_eq (by omega) (by omega)).mp c228
                            refine lv_iload hx hb d_Mod_node1_231 (lv_at hl 1 rfl) ?_
                            refine lv_iload hx hb d_Mod_node1_233 (lv_at hl 4 rfl) ?_
                            refine lv_iconst (v := nI 1) hx hb d_Mod_node1_235 rfl ?_
                            refine lv_isub hx hb d_Mod_node1_236 ?_
                            refine k_top (pk_sub (by omega)) ?_
                            refine lv_icmp_lt (tgt := 251) hx hb d_Mod_node1_237 (by decide) (fun c237 => ?_) (fun c237 => ?_)
                            · skip
                              have c237 : b < ((mWd S) - 1) := (nI_ltI (by omega) (by omega)).mp c237
                              have hx7 := OK_out (hx1.2.2 b) hst1 hO1 b_mWd hx1.2.1
                              have hx7b := hx7.1
                              have hy8 := OK_out (hy1.2.2 b) hst1 hO1 b_mWd hy1.2.1
                              have hy8b := hy8.1
                              have hcrb := hcr.1
                              rw [show min b (max (mWd X) (mWd Y)) = b by omega] at hst1 hcr
                              refine lv_aload_n hx hb d_Mod_node1_251 rfl (lv_at hl 8 rfl) ?_
                              refine lv_iload_n hx hb d_Mod_node1_252 rfl (lv_at hl 6 rfl) ?_
                              refine lv_iload hx hb d_Mod_node1_253 (lv_at hl 1 rfl) ?_
                              refine k_i (wr := [(a_mop, .inl (cI, 14, .inl mOp)), (a_mka, .inl (cI, 14, .inl mAa)), (a_mkb, .inl (cI, 14, .inl mAb)), (a_mkc, .inl (cI, 14, .inl mAc)), (a_mxx, .inl (cI, 2600, .inl (nF mX1))), (a_myy, .inl (cI, 2600, .inl (nF mY1))), (a_mdepth, .inl (cI, 2600, .inl (nF mDe1)))]) (w2 := fun (u : Unit) => [(a_mod, .inr (6, [.ref a_mkind, .ref a_mwidth, .ref a_mreset, .ref a_mop, .ref a_mka, .ref a_mkb, .ref a_mkc, .ref a_mheld, .int (nI mN), .ref a_msort, .ref a_mof, .ref a_mfrom, .int (nI mMs), .ref a_mbit, .ref a_mdone, .ref a_mrests, .ref a_mxx, .ref a_myy, .ref a_mdepth, .ref a_mone, .int (nI mG1), .int (nI mCk), .int mFw, .int (nI mRd), .ref a_mbefore, .ref a_mfirst, .ref a_mturned])), (a_mwidth, .inl (cI, 14, .inl (nF mWd))), (a_mop, .inl (cI, 14, .inl mOp)), (a_mka, .inl (cI, 14, .inl mAa)), (a_mkb, .inl (cI, 14, .inl mAb)), (a_mkc, .inl (cI, 14, .inl mAc)), (a_mbit, .inl (cI, 224, .inl (nF B1))), (a_mxx, .inl (cI, 2600, .inl (nF mX1))), (a_myy, .inl (cI, 2600, .inl (nF mY1))), (a_mdepth, .inl (cI, 2600, .inl (nF mDe1)))]) (va_runV (As := [.int (nI X), .int (nI b)]) (rest := []) ⟨hx, hb, hml, hown, hts⟩ (c_Mod_bitOf l dC dI cI cZ a_mod a_mkind a_mwidth a_mreset a_mop a_mka a_mkb a_mkc a_mheld a_msort a_mof a_mfrom a_mbit a_mdone a_mrests a_mxx a_myy a_mdepth a_mone a_mbefore a_mfirst a_mturned tt H.size mN mMs mG1 mCk mFw mRd mWd B1 X b (by omega) (by omega) (by omega) (by omega) b_mWd b_B1 (by omega) (by omega)) (cwV 2 hts (gd_V in_tl (mw 690 rfl rfl) (mw 692 rfl rfl) (mw 29 rfl rfl) (mw 47 rfl rfl) (mw 693 rfl rfl)) rfl rfl rfl (by decide +kernel) ⟨Nat.le_of_ble_eq_true rfl, Nat.le_of_ble_eq_true rfl⟩) (k_preV hK hP hD hS hA hE [0, 1, 6] (by decide) rfl 6 0 rfl rfl) rfl rfl hl.1 rfl (lv_room (Nat.le_of_ble_eq_true rfl)) d_Mod_node1_255 ⟨Nat.zero_le _, Nat.zero_le _⟩) hP hD hS hA [0, 1, 6] [2, 3, 4, 5, 7, 8, 9] [7, 8, 0, 1, 2, 3, 9, 4, 5, 6] rfl rfl (by decide) (by decide) (by decide) (fun _ => rfl) (fun r_4 u H locs hw hP hD hS => ?_)
                              obtain rfl : (r_4 = nI (lit B1 mWd X b)) := hw
                              have hP : va_P (dC, dI) classes [(a_mod, .inr (6, [.ref a_mkind, .ref a_mwidth, .ref a_mreset, .ref a_mop, .ref a_mka, .ref a_mkb, .ref a_mkc, .ref a_mheld, .int (nI mN), .ref a_msort, .ref a_mof, .ref a_mfrom, .int (nI mMs), .ref a_mbit, .ref a_mdone, .ref a_mrests, .ref a_mxx, .ref a_myy, .ref a_mdepth, .ref a_mone, .int (nI mG1), .int (nI mCk), .int mFw, .int (nI mRd), .ref a_mbefore, .ref a_mfirst, .ref a_mturned])), (a_mwidth, .inl (cI, 14, .inl (nF mWd))), (a_mop, .inl (cI, 14, .inl mOp)), (a_mka, .inl (cI, 14, .inl mAa)), (a_mkb, .inl (cI, 14, .inl mAb)), (a_mkc, .inl (cI, 14, .inl mAc)), (a_mbit, .inl (cI, 224, .inl (nF B1))), (a_mxx, .inl (cI, 2600, .inl (nF mX1))), (a_myy, .inl (cI, 2600, .inl (nF mY1))), (a_mdepth, .inl (cI, 2600, .inl (nF mDe1)))] H := hP
                              have hD : va_D A [(a_mod, .inr (6, [.ref a_mkind, .ref a_mwidth, .ref a_mreset, .ref a_mop, .ref a_mka, .ref a_mkb, .ref a_mkc, .ref a_mheld, .int (nI mN), .ref a_msort, .ref a_mof, .ref a_mfrom, .int (nI mMs), .ref a_mbit, .ref a_mdone, .ref a_mrests, .ref a_mxx, .ref a_myy, .ref a_mdepth, .ref a_mone, .int (nI mG1), .int (nI mCk), .int mFw, .int (nI mRd), .ref a_mbefore, .ref a_mfirst, .ref a_mturned])), (a_mwidth, .inl (cI, 14, .inl (nF mWd))), (a_mop, .inl (cI, 14, .inl mOp)), (a_mka, .inl (cI, 14, .inl mAa)), (a_mkb, .inl (cI, 14, .inl mAb)), (a_mkc, .inl (cI, 14, .inl mAc)), (a_mbit, .inl (cI, 224, .inl (nF B1))), (a_mxx, .inl (cI, 2600, .inl (nF mX1))), (a_myy, .inl (cI, 2600, .inl (nF mY1))), (a_mdepth, .inl (cI, 2600, .inl (nF mDe1)))] := hD
                              refine lv_istore (lv' := [(10, .int (nI (lit B1 mWd X b))), (9, .int (nI 0)), (8, .int (nI b)), (7, .int (nI 1)), (6, .int (nI cr)), (5, .int (nI (mWd S))), (4, .int (nI Y)), (3, .int (nI X)), (2, .int (nI 4)), (0, .ref a_mod), (1, .int (nI S))]) hx hb d_Mod_node1_258 hl (by decide) rfl (fun ls hl => ?_)
                              refine lv_aload_n hx hb d_Mod_node1_260 rfl (lv_at hl 9 rfl) ?_
                              refine lv_iload hx hb d_Mod_node1_261 (lv_at hl 6 rfl) ?_
                              refine lv_iload hx hb d_Mod_node1_263 (lv_at hl 2 rfl) ?_
                              refine k_i (wr := [(a_mop, .inl (cI, 14, .inl mOp)), (a_mka, .inl (cI, 14, .inl mAa)), (a_mkb, .inl (cI, 14, .inl mAb)), (a_mkc, .inl (cI, 14, .inl mAc)), (a_mxx, .inl (cI, 2600, .inl (nF mX1))), (a_myy, .inl (cI, 2600, .inl (nF mY1))), (a_mdepth, .inl (cI, 2600, .inl (nF mDe1)))]) (w2 := fun (u : Unit) => [(a_mod, .inr (6, [.ref a_mkind, .ref a_mwidth, .ref a_mreset, .ref a_mop, .ref a_mka, .ref a_mkb, .ref a_mkc, .ref a_mheld, .int (nI mN), .ref a_msort, .ref a_mof, .ref a_mfrom, .int (nI mMs), .ref a_mbit, .ref a_mdone, .ref a_mrests, .ref a_mxx, .ref a_myy, .ref a_mdepth, .ref a_mone, .int (nI mG1), .int (nI mCk), .int mFw, .int (nI mRd), .ref a_mbefore, .ref a_mfirst, .ref a_mturned])), (a_mwidth, .inl (cI, 14, .inl (nF mWd))), (a_mop, .inl (cI, 14, .inl mOp)), (a_mka, .inl (cI, 14, .inl mAa)), (a_mkb, .inl (cI, 14, .inl mAb)), (a_mkc, .inl (cI, 14, .inl mAc)), (a_mbit, .inl (cI, 224, .inl (nF B1))), (a_mxx, .inl (cI, 2600, .inl (nF mX1))), (a_myy, .inl (cI, 2600, .inl (nF mY1))), (a_mdepth, .inl (cI, 2600, .inl (nF mDe1)))]) (va_runV (As := [.int (nI Y), .int (nI b)]) (rest := []) ⟨hx, hb, hml, hown, hts⟩ (c_Mod_bitOf l dC dI cI cZ a_mod a_mkind a_mwidth a_mreset a_mop a_mka a_mkb a_mkc a_mheld a_msort a_mof a_mfrom a_mbit a_mdone a_mrests a_mxx a_myy a_mdepth a_mone a_mbefore a_mfirst a_mturned tt H.size mN mMs mG1 mCk mFw mRd mWd B1 Y b (by omega) (by omega) (by omega) (by omega) b_mWd b_B1 (by omega) (by omega)) (cwV 2 hts (gd_V in_tl (mw 690 rfl rfl) (mw 692 rfl rfl) (mw 29 rfl rfl) (mw 47 rfl rfl) (mw 693 rfl rfl)) rfl rfl rfl (by decide +kernel) ⟨Nat.le_of_ble_eq_true rfl, Nat.le_of_ble_eq_true rfl⟩) (k_preV hK hP hD hS hA hE [0, 1, 6] (by decide) rfl 6 0 rfl rfl) rfl rfl hl.1 rfl (lv_room (Nat.le_of_ble_eq_true rfl)) d_Mod_node1_265 ⟨Nat.zero_le _, Nat.zero_le _⟩) hP hD hS hA [0, 1, 6] [2, 3, 4, 5, 7, 8, 9] [7, 8, 0, 1, 2, 3, 9, 4, 5, 6] rfl rfl (by decide) (by decide) (by decide) (fun _ => rfl) (fun r_5 u H locs hw hP hD hS => ?_)
                              obtain rfl : (r_5 = nI (lit B1 mWd Y b)) := hw
                              have hP : va_P (dC, dI) classes [(a_mod, .inr (6, [.ref a_mkind, .ref a_mwidth, .ref a_mreset, .ref a_mop, .ref a_mka, .ref a_mkb, .ref a_mkc, .ref a_mheld, .int (nI mN), .ref a_msort, .ref a_mof, .ref a_mfrom, .int (nI mMs), .ref a_mbit, .ref a_mdone, .ref a_mrests, .ref a_mxx, .ref a_myy, .ref a_mdepth, .ref a_mone, .int (nI mG1), .int (nI mCk), .int mFw, .int (nI mRd), .ref a_mbefore, .ref a_mfirst, .ref a_mturned])), (a_mwidth, .inl (cI, 14, .inl (nF mWd))), (a_mop, .inl (cI, 14, .inl mOp)), (a_mka, .inl (cI, 14, .inl mAa)), (a_mkb, .inl (cI, 14, .inl mAb)), (a_mkc, .inl (cI, 14, .inl mAc)), (a_mbit, .inl (cI, 224, .inl (nF B1))), (a_mxx, .inl (cI, 2600, .inl (nF mX1))), (a_myy, .inl (cI, 2600, .inl (nF mY1))), (a_mdepth, .inl (cI, 2600, .inl (nF mDe1)))] H := hP
                              have hD : va_D A [(a_mod, .inr (6, [.ref a_mkind, .ref a_mwidth, .ref a_mreset, .ref a_mop, .ref a_mka, .ref a_mkb, .ref a_mkc, .ref a_mheld, .int (nI mN), .ref a_msort, .ref a_mof, .ref a_mfrom, .int (nI mMs), .ref a_mbit, .ref a_mdone, .ref a_mrests, .ref a_mxx, .ref a_myy, .ref a_mdepth, .ref a_mone, .int (nI mG1), .int (nI mCk), .int mFw, .int (nI mRd), .ref a_mbefore, .ref a_mfirst, .ref a_mturned])), (a_mwidth, .inl (cI, 14, .inl (nF mWd))), (a_mop, .inl (cI, 14, .inl mOp)), (a_mka, .inl (cI, 14, .inl mAa)), (a_mkb, .inl (cI, 14, .inl mAb)), (a_mkc, .inl (cI, 14, .inl mAc)), (a_mbit, .inl (cI, 224, .inl (nF B1))), (a_mxx, .inl (cI, 2600, .inl (nF mX1))), (a_myy, .inl (cI, 2600, .inl (nF mY1))), (a_mdepth, .inl (cI, 2600, .inl (nF mDe1)))] := hD
                              refine lv_iload_n hx hb d_Mod_node1_268 rfl (lv_at hl 8 rfl) ?_
                              refine lv_iconst (v := nI 4) hx hb d_Mod_node1_269 rfl ?_
                              refine lv_icmp_ne (tgt := 277) hx hb d_Mod_node1_270 (by decide) (fun c270 => ?_) (fun c270 => ?_)
                              · skip
                                have c270 : ¬ (4 = 4) := fun h => c270 ((nI_eq (by omega) (by omega)).mpr h)
                                omega
                              · skip
                                have c270 : 4 = 4 := (nI_eq (by omega) (by omega)).mp c270
                                refine lv_iconst (v := nI 0) hx hb d_Mod_node1_273 rfl ?_
                                refine lv_goto (tgt := 278) hx hb d_Mod_node1_274 (by decide) ?_
                                refine lv_ixor hx hb d_Mod_node1_278 ?_
                                refine k_top (nI_xor _ _) ?_
                                have hy8 : OKc T1 mG1 (lit B1 mWd Y b) ((oC (CB Y) 0) b) := by unfold oC; rw [if_neg (by decide)]; exact hy8
                                have hy8b := hy8.1
                                refine k_top (congrArg nI (show (lit B1 mWd Y b) ^^^ 0 = lit B1 mWd Y b from (Nat.xor_zero _))) ?_
                                refine lv_istore (lv' := [(11, .int (nI (lit B1 mWd Y b))), (10, .int (nI (lit B1 mWd X b))), (9, .int (nI 0)), (8, .int (nI b)), (7, .int (nI 1)), (6, .int (nI cr)), (5, .int (nI (mWd S))), (4, .int (nI Y)), (3, .int (nI X)), (2, .int (nI 4)), (0, .ref a_mod), (1, .int (nI S))]) hx hb d_Mod_node1_279 hl (by decide) rfl (fun ls hl => ?_)
                                refine lv_aload_n hx hb d_Mod_node1_281 rfl (lv_at hl 10 rfl) ?_
                                refine lv_iload hx hb d_Mod_node1_282 (lv_at hl 1 rfl) ?_
                                refine lv_iload hx hb d_Mod_node1_284 (lv_at hl 0 rfl) ?_
                                refine k_i (wr := [(a_mwidth, .inl (cI, 14, .inl (nF mWd))), (a_mop, .inl (cI, 14, .inl mOp)), (a_mka, .inl (cI, 14, .inl mAa)), (a_mkb, .inl (cI, 14, .inl mAb)), (a_mkc, .inl (cI, 14, .inl mAc)), (a_mbit, .inl (cI, 224, .inl (nF B1)))]) (w2 := fun (u : Nat × (Nat → Nat) × (Nat → Nat) × (Nat → Nat) × Nat × (Nat → Nat) × (Nat → Nat) × (Nat → Nat) × (Nat → Nat)) => [(a_mod, .inr (6, [.ref a_mkind, .ref a_mwidth, .ref a_mreset, .ref a_mop, .ref a_mka, .ref a_mkb, .ref a_mkc, .ref a_mheld, .int (nI mN), .ref a_msort, .ref a_mof, .ref a_mfrom, .int (nI mMs), .ref a_mbit, .ref a_mdone, .ref a_mrests, .ref a_mxx, .ref a_myy, .ref a_mdepth, .ref a_mone, .int (nI u.1), .int (nI mCk), .int mFw, .int (nI mRd), .ref a_mbefore, .ref a_mfirst, .ref a_mturned])), (a_mwidth, .inl (cI, 14, .inl (nF mWd))), (a_mop, .inl (cI, 14, .inl mOp)), (a_mka, .inl (cI, 14, .inl mAa)), (a_mkb, .inl (cI, 14, .inl mAb)), (a_mkc, .inl (cI, 14, .inl mAc)), (a_mbit, .inl (cI, 224, .inl (nF B1))), (a_mxx, .inl (cI, 2600, .inl (nF u.2.1))), (a_myy, .inl (cI, 2600, .inl (nF u.2.2.1))), (a_mdepth, .inl (cI, 2600, .inl (nF u.2.2.2.1)))]) (va_runV (As := [.int (nI (lit B1 mWd X b)), .int (nI (lit B1 mWd Y b))]) (rest := []) ⟨hx, hb, hml, hown, hts⟩ (c_Mod_differ l dC dI cI cZ a_mod a_mkind a_mwidth a_mreset a_mop a_mka a_mkb a_mkc a_mheld a_msort a_mof a_mfrom a_mbit a_mdone a_mrests a_mxx a_myy a_mdepth a_mone a_mbefore a_mfirst a_mturned tt H.size mN mMs mG1 mCk mFw mRd mX1 mY1 mDe1 gd1 P1 Dp1 Sl1 T1 K (lit B1 mWd X b) (lit B1 mWd Y b) (by omega) (by omega) (by omega) (by omega) b_mX1 b_mY1 b_mDe1 hN1 hXY1 hAL1 hx7.1 hy8.1 (by rw [hx7.2, hy8.2]; exact fun c h => hgl c (by rw [eL]; exact catL_in _ (by omega) (List.mem_append_left _ h)))) (cwV 2 hts (gd_V in_tl (mw 718 rfl rfl) (mw 720 rfl rfl) (mw 36 rfl rfl) (mw 47 rfl rfl) (mw 721 rfl rfl)) rfl rfl rfl (by decide +kernel) ⟨Nat.le_of_ble_eq_true rfl, Nat.le_of_ble_eq_true rfl⟩) (k_preV hK hP hD hS hA hE [0, 7, 8, 9] (by decide) rfl 6 0 rfl rfl) rfl rfl hl.1 rfl (lv_room (Nat.le_of_ble_eq_true rfl)) d_Mod_node1_286 ⟨Nat.zero_le _, Nat.zero_le _⟩) hP hD hS hA [0, 7, 8, 9] [1, 2, 3, 4, 5, 6] [6, 0, 1, 2, 3, 4, 5, 7, 8, 9] rfl rfl (by decide) (by decide) (by decide) (fun _ => rfl) (fun r_15 u H locs hw hP hD hS => ?_)
                                obtain ⟨mGv_6, mXv_7, mYv_8, mDev_9, gdv_10, Pv_11, Dpv_12, Slv_13, Tv_14⟩ := u
                                obtain ⟨v_16, rfl, b_mGv_6, b_mXv_7, b_mYv_8, b_mDev_9, hN_286, hXY_286, hst_286, hrl_286, hc_286, hAL_286⟩ : ∃ rv : Nat, r_15 = nI rv ∧ (mGv_6 ≤ 1280) ∧ (∀ j, mXv_7 j < 2786) ∧ (∀ j, mYv_8 j < 2786) ∧ (∀ j, mDev_9 j < 1400) ∧ (NJ mGv_6 gdv_10 Pv_11 Dpv_12 Slv_13 Tv_14) ∧ (MXY mGv_6 mXv_7 mYv_8 mDev_9 Pv_11 Dpv_12) ∧ (ST T1 mG1 Tv_14 mGv_6 (dfl (LT T1 (lit B1 mWd X b)) (LT T1 (lit B1 mWd Y b)))) ∧ (rv < 2 * (113 + mGv_6)) ∧ (LT Tv_14 rv = df (LT T1 (lit B1 mWd X b)) (LT T1 (lit B1 mWd Y b))) ∧ (AL K Tv_14 mGv_6) := hw
                                have hP : va_P (dC, dI) classes [(a_mod, .inr (6, [.ref a_mkind, .ref a_mwidth, .ref a_mreset, .ref a_mop, .ref a_mka, .ref a_mkb, .ref a_mkc, .ref a_mheld, .int (nI mN), .ref a_msort, .ref a_mof, .ref a_mfrom, .int (nI mMs), .ref a_mbit, .ref a_mdone, .ref a_mrests, .ref a_mxx, .ref a_myy, .ref a_mdepth, .ref a_mone, .int (nI mGv_6), .int (nI mCk), .int mFw, .int (nI mRd), .ref a_mbefore, .ref a_mfirst, .ref a_mturned])), (a_mwidth, .inl (cI, 14, .inl (nF mWd))), (a_mop, .inl (cI, 14, .inl mOp)), (a_mka, .inl (cI, 14, .inl mAa)), (a_mkb, .inl (cI, 14, .inl mAb)), (a_mkc, .inl (cI, 14, .inl mAc)), (a_mbit, .inl (cI, 224, .inl (nF B1))), (a_mxx, .inl (cI, 2600, .inl (nF mXv_7))), (a_myy, .inl (cI, 2600, .inl (nF mYv_8))), (a_mdepth, .inl (cI, 2600, .inl (nF mDev_9)))] H := hP
                                have hD : va_D A [(a_mod, .inr (6, [.ref a_mkind, .ref a_mwidth, .ref a_mreset, .ref a_mop, .ref a_mka, .ref a_mkb, .ref a_mkc, .ref a_mheld, .int (nI mN), .ref a_msort, .ref a_mof, .ref a_mfrom, .int (nI mMs), .ref a_mbit, .ref a_mdone, .ref a_mrests, .ref a_mxx, .ref a_myy, .ref a_mdepth, .ref a_mone, .int (nI mGv_6), .int (nI mCk), .int mFw, .int (nI mRd), .ref a_mbefore, .ref a_mfirst, .ref a_mturned])), (a_mwidth, .inl (cI, 14, .inl (nF mWd))), (a_mop, .inl (cI, 14, .inl mOp)), (a_mka, .inl (cI, 14, .inl mAa)), (a_mkb, .inl (cI, 14, .inl mAb)), (a_mkc, .inl (cI, 14, .inl mAc)), (a_mbit, .inl (cI, 224, .inl (nF B1))), (a_mxx, .inl (cI, 2600, .inl (nF mXv_7))), (a_myy, .inl (cI, 2600, .inl (nF mYv_8))), (a_mdepth, .inl (cI, 2600, .inl (nF mDev_9)))] := hD
                                rw [hx7.2, hy8.2] at hst_286 hc_286
                                have hh := And.intro hrl_286 hc_286
                                have hx7 := OKc_st hx7 hst_286
                                have hy8 := OKc_st hy8 hst_286
                                have hcr := OKc_st hcr hst_286
                                have hhb := hh.1
                                have hcb := hcr.1
                                have hx7b := hx7.1
                                have hy8b := hy8.1
                                refine lv_istore (lv' := [(12, .int (nI v_16)), (11, .int (nI (lit B1 mWd Y b))), (10, .int (nI (lit B1 mWd X b))), (9, .int (nI 0)), (8, .int (nI b)), (7, .int (nI 1)), (6, .int (nI cr)), (5, .int (nI (mWd S))), (4, .int (nI Y)), (3, .int (nI X)), (2, .int (nI 4)), (0, .ref a_mod), (1, .int (nI S))]) hx hb d_Mod_node1_289 hl (by decide) rfl (fun ls hl => ?_)
                                refine lv_aload_n hx hb d_Mod_node1_291 rfl (lv_at hl 11 rfl) ?_
                                refine lv_iload hx hb d_Mod_node1_292 (lv_at hl 0 rfl) ?_
                                refine lv_iload hx hb d_Mod_node1_294 (lv_at hl 6 rfl) ?_
                                refine k_i (wr := [(a_mwidth, .inl (cI, 14, .inl (nF mWd))), (a_mop, .inl (cI, 14, .inl mOp)), (a_mka, .inl (cI, 14, .inl mAa)), (a_mkb, .inl (cI, 14, .inl mAb)), (a_mkc, .inl (cI, 14, .inl mAc)), (a_mbit, .inl (cI, 224, .inl (nF B1)))]) (w2 := fun (u : Nat × (Nat → Nat) × (Nat → Nat) × (Nat → Nat) × Nat × (Nat → Nat) × (Nat → Nat) × (Nat → Nat) × (Nat → Nat)) => [(a_mod, .inr (6, [.ref a_mkind, .ref a_mwidth, .ref a_mreset, .ref a_mop, .ref a_mka, .ref a_mkb, .ref a_mkc, .ref a_mheld, .int (nI mN), .ref a_msort, .ref a_mof, .ref a_mfrom, .int (nI mMs), .ref a_mbit, .ref a_mdone, .ref a_mrests, .ref a_mxx, .ref a_myy, .ref a_mdepth, .ref a_mone, .int (nI u.1), .int (nI mCk), .int mFw, .int (nI mRd), .ref a_mbefore, .ref a_mfirst, .ref a_mturned])), (a_mwidth, .inl (cI, 14, .inl (nF mWd))), (a_mop, .inl (cI, 14, .inl mOp)), (a_mka, .inl (cI, 14, .inl mAa)), (a_mkb, .inl (cI, 14, .inl mAb)), (a_mkc, .inl (cI, 14, .inl mAc)), (a_mbit, .inl (cI, 224, .inl (nF B1))), (a_mxx, .inl (cI, 2600, .inl (nF u.2.1))), (a_myy, .inl (cI, 2600, .inl (nF u.2.2.1))), (a_mdepth, .inl (cI, 2600, .inl (nF u.2.2.2.1)))]) (va_runV (As := [.int (nI v_16), .int (nI cr)]) (rest := []) ⟨hx, hb, hml, hown, hts⟩ (c_Mod_differ l dC dI cI cZ a_mod a_mkind a_mwidth a_mreset a_mop a_mka a_mkb a_mkc a_mheld a_msort a_mof a_mfrom a_mbit a_mdone a_mrests a_mxx a_myy a_mdepth a_mone a_mbefore a_mfirst a_mturned tt H.size mN mMs mGv_6 mCk mFw mRd mXv_7 mYv_8 mDev_9 gdv_10 Pv_11 Dpv_12 Slv_13 Tv_14 K v_16 cr (by omega) (by omega) (by omega) (by omega) b_mXv_7 b_mYv_8 b_mDev_9 hN_286 hXY_286 hAL_286 hh.1 hcr.1 (by rw [hh.2, hcr.2]; exact fun c h => hgl c (by rw [eL]; exact catL_in _ (by omega) (List.mem_append_right _ (List.mem_append_left _ h))))) (cwV 2 hts (gd_V in_tl (mw 718 rfl rfl) (mw 720 rfl rfl) (mw 36 rfl rfl) (mw 47 rfl rfl) (mw 721 rfl rfl)) rfl rfl rfl (by decide +kernel) ⟨Nat.le_of_ble_eq_true rfl, Nat.le_of_ble_eq_true rfl⟩) (k_preV hK hP hD hS hA hE [0, 7, 8, 9] (by decide) rfl 6 0 rfl rfl) rfl rfl hl.1 rfl (lv_room (Nat.le_of_ble_eq_true rfl)) d_Mod_node1_296 ⟨Nat.zero_le _, Nat.zero_le _⟩) hP hD hS hA [0, 7, 8, 9] [1, 2, 3, 4, 5, 6] [6, 0, 1, 2, 3, 4, 5, 7, 8, 9] rfl rfl (by decide) (by decide) (by decide) (fun _ => rfl) (fun r_26 u H locs hw hP hD hS => ?_)
                                obtain ⟨mGv_17, mXv_18, mYv_19, mDev_20, gdv_21, Pv_22, Dpv_23, Slv_24, Tv_25⟩ := u
                                obtain ⟨v_27, rfl, b_mGv_17, b_mXv_18, b_mYv_19, b_mDev_20, hN_296, hXY_296, hst_296, hrl_296, hc_296, hAL_296⟩ : ∃ rv : Nat, r_26 = nI rv ∧ (mGv_17 ≤ 1280) ∧ (∀ j, mXv_18 j < 2786) ∧ (∀ j, mYv_19 j < 2786) ∧ (∀ j, mDev_20 j < 1400) ∧ (NJ mGv_17 gdv_21 Pv_22 Dpv_23 Slv_24 Tv_25) ∧ (MXY mGv_17 mXv_18 mYv_19 mDev_20 Pv_22 Dpv_23) ∧ (ST Tv_14 mGv_6 Tv_25 mGv_17 (dfl (LT Tv_14 v_16) (LT Tv_14 cr))) ∧ (rv < 2 * (113 + mGv_17)) ∧ (LT Tv_25 rv = df (LT Tv_14 v_16) (LT Tv_14 cr)) ∧ (AL K Tv_25 mGv_17) := hw
                                have hP : va_P (dC, dI) classes [(a_mod, .inr (6, [.ref a_mkind, .ref a_mwidth, .ref a_mreset, .ref a_mop, .ref a_mka, .ref a_mkb, .ref a_mkc, .ref a_mheld, .int (nI mN), .ref a_msort, .ref a_mof, .ref a_mfrom, .int (nI mMs), .ref a_mbit, .ref a_mdone, .ref a_mrests, .ref a_mxx, .ref a_myy, .ref a_mdepth, .ref a_mone, .int (nI mGv_17), .int (nI mCk), .int mFw, .int (nI mRd), .ref a_mbefore, .ref a_mfirst, .ref a_mturned])), (a_mwidth, .inl (cI, 14, .inl (nF mWd))), (a_mop, .inl (cI, 14, .inl mOp)), (a_mka, .inl (cI, 14, .inl mAa)), (a_mkb, .inl (cI, 14, .inl mAb)), (a_mkc, .inl (cI, 14, .inl mAc)), (a_mbit, .inl (cI, 224, .inl (nF B1))), (a_mxx, .inl (cI, 2600, .inl (nF mXv_18))), (a_myy, .inl (cI, 2600, .inl (nF mYv_19))), (a_mdepth, .inl (cI, 2600, .inl (nF mDev_20)))] H := hP
                                have hD : va_D A [(a_mod, .inr (6, [.ref a_mkind, .ref a_mwidth, .ref a_mreset, .ref a_mop, .ref a_mka, .ref a_mkb, .ref a_mkc, .ref a_mheld, .int (nI mN), .ref a_msort, .ref a_mof, .ref a_mfrom, .int (nI mMs), .ref a_mbit, .ref a_mdone, .ref a_mrests, .ref a_mxx, .ref a_myy, .ref a_mdepth, .ref a_mone, .int (nI mGv_17), .int (nI mCk), .int mFw, .int (nI mRd), .ref a_mbefore, .ref a_mfirst, .ref a_mturned])), (a_mwidth, .inl (cI, 14, .inl (nF mWd))), (a_mop, .inl (cI, 14, .inl mOp)), (a_mka, .inl (cI, 14, .inl mAa)), (a_mkb, .inl (cI, 14, .inl mAb)), (a_mkc, .inl (cI, 14, .inl mAc)), (a_mbit, .inl (cI, 224, .inl (nF B1))), (a_mxx, .inl (cI, 2600, .inl (nF mXv_18))), (a_myy, .inl (cI, 2600, .inl (nF mYv_19))), (a_mdepth, .inl (cI, 2600, .inl (nF mDev_20)))] := hD
                                rw [hh.2, hcr.2] at hst_296 hc_296
                                have hs9 := And.intro hrl_296 hc_296
                                have hx7 := OKc_st hx7 hst_296
                                have hy8 := OKc_st hy8 hst_296
                                have hcr := OKc_st hcr hst_296
                                have hh := OKc_st hh hst_296
                                have hs9b := hs9.1
                                refine lv_istore (lv' := [(9, .int (nI v_27)), (12, .int (nI v_16)), (11, .int (nI (lit B1 mWd Y b))), (10, .int (nI (lit B1 mWd X b))), (8, .int (nI b)), (7, .int (nI 1)), (6, .int (nI cr)), (5, .int (nI (mWd S))), (4, .int (nI Y)), (3, .int (nI X)), (2, .int (nI 4)), (0, .ref a_mod), (1, .int (nI S))]) hx hb d_Mod_node1_299 hl (by decide) rfl (fun ls hl => ?_)
                                refine lv_aload_n hx hb d_Mod_node1_301 rfl (lv_at hl 11 rfl) ?_
                                refine lv_aload_n hx hb d_Mod_node1_302 rfl (lv_at hl 11 rfl) ?_
                                refine lv_iload hx hb d_Mod_node1_303 (lv_at hl 3 rfl) ?_
                                refine lv_iload hx hb d_Mod_node1_305 (lv_at hl 2 rfl) ?_
                                refine k_i (wr := [(a_mwidth, .inl (cI, 14, .inl (nF mWd))), (a_mop, .inl (cI, 14, .inl mOp)), (a_mka, .inl (cI, 14, .inl mAa)), (a_mkb, .inl (cI, 14, .inl mAb)), (a_mkc, .inl (cI, 14, .inl mAc)), (a_mbit, .inl (cI, 224, .inl (nF B1)))]) (w2 := fun (u : Nat × (Nat → Nat) × (Nat → Nat) × (Nat → Nat) × Nat × (Nat → Nat) × (Nat → Nat) × (Nat → Nat) × (Nat → Nat)) => [(a_mod, .inr (6, [.ref a_mkind, .ref a_mwidth, .ref a_mreset, .ref a_mop, .ref a_mka, .ref a_mkb, .ref a_mkc, .ref a_mheld, .int (nI mN), .ref a_msort, .ref a_mof, .ref a_mfrom, .int (nI mMs), .ref a_mbit, .ref a_mdone, .ref a_mrests, .ref a_mxx, .ref a_myy, .ref a_mdepth, .ref a_mone, .int (nI u.1), .int (nI mCk), .int mFw, .int (nI mRd), .ref a_mbefore, .ref a_mfirst, .ref a_mturned])), (a_mwidth, .inl (cI, 14, .inl (nF mWd))), (a_mop, .inl (cI, 14, .inl mOp)), (a_mka, .inl (cI, 14, .inl mAa)), (a_mkb, .inl (cI, 14, .inl mAb)), (a_mkc, .inl (cI, 14, .inl mAc)), (a_mbit, .inl (cI, 224, .inl (nF B1))), (a_mxx, .inl (cI, 2600, .inl (nF u.2.1))), (a_myy, .inl (cI, 2600, .inl (nF u.2.2.1))), (a_mdepth, .inl (cI, 2600, .inl (nF u.2.2.2.1)))]) (va_runV (As := [.int (nI (lit B1 mWd X b)), .int (nI (lit B1 mWd Y b))]) (rest := [.ref a_mod]) ⟨hx, hb, hml, hown, hts⟩ (c_Mod_join l dC dI cI cZ a_mod a_mkind a_mwidth a_mreset a_mop a_mka a_mkb a_mkc a_mheld a_msort a_mof a_mfrom a_mbit a_mdone a_mrests a_mxx a_myy a_mdepth a_mone a_mbefore a_mfirst a_mturned tt H.size mN mMs mGv_17 mCk mFw mRd mXv_18 mYv_19 mDev_20 gdv_21 Pv_22 Dpv_23 Slv_24 Tv_25 K (lit B1 mWd X b) (lit B1 mWd Y b) (by omega) (by omega) (by omega) (by omega) b_mXv_18 b_mYv_19 b_mDev_20 hN_296 hXY_296 hAL_296 hx7.1 hy8.1 (by rw [hx7.2, hy8.2]; exact fun c h => hgl c (by rw [eL]; exact catL_in _ (by omega) (List.mem_append_right _ (List.mem_append_right _ (List.mem_append_left _ h)))))) (cwV 2 hts (gd_V in_tl (mw 702 rfl rfl) (mw 704 rfl rfl) (mw 32 rfl rfl) (mw 47 rfl rfl) (mw 705 rfl rfl)) rfl rfl rfl (by decide +kernel) ⟨Nat.le_of_ble_eq_true rfl, Nat.le_of_ble_eq_true rfl⟩) (k_preV hK hP hD hS hA hE [0, 7, 8, 9] (by decide) rfl 6 0 rfl rfl) rfl rfl hl.1 rfl (lv_room (Nat.le_of_ble_eq_true rfl)) d_Mod_node1_307 ⟨Nat.zero_le _, Nat.zero_le _⟩) hP hD hS hA [0, 7, 8, 9] [1, 2, 3, 4, 5, 6] [6, 0, 1, 2, 3, 4, 5, 7, 8, 9] rfl rfl (by decide) (by decide) (by decide) (fun _ => rfl) (fun r_37 u H locs hw hP hD hS => ?_)
                                obtain ⟨mGv_28, mXv_29, mYv_30, mDev_31, gdv_32, Pv_33, Dpv_34, Slv_35, Tv_36⟩ := u
                                obtain ⟨v_38, rfl, b_mGv_28, b_mXv_29, b_mYv_30, b_mDev_31, hN_307, hXY_307, hst_307, hrl_307, hc_307, hAL_307⟩ : ∃ rv : Nat, r_37 = nI rv ∧ (mGv_28 ≤ 1280) ∧ (∀ j, mXv_29 j < 2786) ∧ (∀ j, mYv_30 j < 2786) ∧ (∀ j, mDev_31 j < 1400) ∧ (NJ mGv_28 gdv_32 Pv_33 Dpv_34 Slv_35 Tv_36) ∧ (MXY mGv_28 mXv_29 mYv_30 mDev_31 Pv_33 Dpv_34) ∧ (ST Tv_25 mGv_17 Tv_36 mGv_28 (jl (LT Tv_25 (lit B1 mWd X b)) (LT Tv_25 (lit B1 mWd Y b)))) ∧ (rv < 2 * (113 + mGv_28)) ∧ (LT Tv_36 rv = jn (LT Tv_25 (lit B1 mWd X b)) (LT Tv_25 (lit B1 mWd Y b))) ∧ (AL K Tv_36 mGv_28) := hw
                                have hP : va_P (dC, dI) classes [(a_mod, .inr (6, [.ref a_mkind, .ref a_mwidth, .ref a_mreset, .ref a_mop, .ref a_mka, .ref a_mkb, .ref a_mkc, .ref a_mheld, .int (nI mN), .ref a_msort, .ref a_mof, .ref a_mfrom, .int (nI mMs), .ref a_mbit, .ref a_mdone, .ref a_mrests, .ref a_mxx, .ref a_myy, .ref a_mdepth, .ref a_mone, .int (nI mGv_28), .int (nI mCk), .int mFw, .int (nI mRd), .ref a_mbefore, .ref a_mfirst, .ref a_mturned])), (a_mwidth, .inl (cI, 14, .inl (nF mWd))), (a_mop, .inl (cI, 14, .inl mOp)), (a_mka, .inl (cI, 14, .inl mAa)), (a_mkb, .inl (cI, 14, .inl mAb)), (a_mkc, .inl (cI, 14, .inl mAc)), (a_mbit, .inl (cI, 224, .inl (nF B1))), (a_mxx, .inl (cI, 2600, .inl (nF mXv_29))), (a_myy, .inl (cI, 2600, .inl (nF mYv_30))), (a_mdepth, .inl (cI, 2600, .inl (nF mDev_31)))] H := hP
                                have hD : va_D A [(a_mod, .inr (6, [.ref a_mkind, .ref a_mwidth, .ref a_mreset, .ref a_mop, .ref a_mka, .ref a_mkb, .ref a_mkc, .ref a_mheld, .int (nI mN), .ref a_msort, .ref a_mof, .ref a_mfrom, .int (nI mMs), .ref a_mbit, .ref a_mdone, .ref a_mrests, .ref a_mxx, .ref a_myy, .ref a_mdepth, .ref a_mone, .int (nI mGv_28), .int (nI mCk), .int mFw, .int (nI mRd), .ref a_mbefore, .ref a_mfirst, .ref a_mturned])), (a_mwidth, .inl (cI, 14, .inl (nF mWd))), (a_mop, .inl (cI, 14, .inl mOp)), (a_mka, .inl (cI, 14, .inl mAa)), (a_mkb, .inl (cI, 14, .inl mAb)), (a_mkc, .inl (cI, 14, .inl mAc)), (a_mbit, .inl (cI, 224, .inl (nF B1))), (a_mxx, .inl (cI, 2600, .inl (nF mXv_29))), (a_myy, .inl (cI, 2600, .inl (nF mYv_30))), (a_mdepth, .inl (cI, 2600, .inl (nF mDev_31)))] := hD
                                rw [hx7.2, hy8.2] at hst_307 hc_307
                                have hj1 := And.intro hrl_307 hc_307
                                have hcr := OKc_st hcr hst_307
                                have hh := OKc_st hh hst_307
                                have hs9 := OKc_st hs9 hst_307
                                refine lv_aload_n hx hb d_Mod_node1_310 rfl (lv_at hl 11 rfl) ?_
                                refine lv_iload hx hb d_Mod_node1_311 (lv_at hl 1 rfl) ?_
                                refine lv_iload hx hb d_Mod_node1_313 (lv_at hl 6 rfl) ?_
                                refine k_i (wr := [(a_mwidth, .inl (cI, 14, .inl (nF mWd))), (a_mop, .inl (cI, 14, .inl mOp)), (a_mka, .inl (cI, 14, .inl mAa)), (a_mkb, .inl (cI, 14, .inl mAb)), (a_mkc, .inl (cI, 14, .inl mAc)), (a_mbit, .inl (cI, 224, .inl (nF B1)))]) (w2 := fun (u : Nat × (Nat → Nat) × (Nat → Nat) × (Nat → Nat) × Nat × (Nat → Nat) × (Nat → Nat) × (Nat → Nat) × (Nat → Nat)) => [(a_mod, .inr (6, [.ref a_mkind, .ref a_mwidth, .ref a_mreset, .ref a_mop, .ref a_mka, .ref a_mkb, .ref a_mkc, .ref a_mheld, .int (nI mN), .ref a_msort, .ref a_mof, .ref a_mfrom, .int (nI mMs), .ref a_mbit, .ref a_mdone, .ref a_mrests, .ref a_mxx, .ref a_myy, .ref a_mdepth, .ref a_mone, .int (nI u.1), .int (nI mCk), .int mFw, .int (nI mRd), .ref a_mbefore, .ref a_mfirst, .ref a_mturned])), (a_mwidth, .inl (cI, 14, .inl (nF mWd))), (a_mop, .inl (cI, 14, .inl mOp)), (a_mka, .inl (cI, 14, .inl mAa)), (a_mkb, .inl (cI, 14, .inl mAb)), (a_mkc, .inl (cI, 14, .inl mAc)), (a_mbit, .inl (cI, 224, .inl (nF B1))), (a_mxx, .inl (cI, 2600, .inl (nF u.2.1))), (a_myy, .inl (cI, 2600, .inl (nF u.2.2.1))), (a_mdepth, .inl (cI, 2600, .inl (nF u.2.2.2.1)))]) (va_runV (As := [.int (nI v_16), .int (nI cr)]) (rest := [.int (nI v_38), .ref a_mod]) ⟨hx, hb, hml, hown, hts⟩ (c_Mod_join l dC dI cI cZ a_mod a_mkind a_mwidth a_mreset a_mop a_mka a_mkb a_mkc a_mheld a_msort a_mof a_mfrom a_mbit a_mdone a_mrests a_mxx a_myy a_mdepth a_mone a_mbefore a_mfirst a_mturned tt H.size mN mMs mGv_28 mCk mFw mRd mXv_29 mYv_30 mDev_31 gdv_32 Pv_33 Dpv_34 Slv_35 Tv_36 K v_16 cr (by omega) (by omega) (by omega) (by omega) b_mXv_29 b_mYv_30 b_mDev_31 hN_307 hXY_307 hAL_307 hh.1 hcr.1 (by rw [hh.2, hcr.2]; exact fun c h => hgl c (by rw [eL]; exact catL_in _ (by omega) (List.mem_append_right _ (List.mem_append_right _ (List.mem_append_right _ (List.mem_append_left _ h))))))) (cwV 2 hts (gd_V in_tl (mw 702 rfl rfl) (mw 704 rfl rfl) (mw 32 rfl rfl) (mw 47 rfl rfl) (mw 705 rfl rfl)) rfl rfl rfl (by decide +kernel) ⟨Nat.le_of_ble_eq_true rfl, Nat.le_of_ble_eq_true rfl⟩) (k_preV hK hP hD hS hA hE [0, 7, 8, 9] (by decide) rfl 6 0 rfl rfl) rfl rfl hl.1 rfl (lv_room (Nat.le_of_ble_eq_true rfl)) d_Mod_node1_315 ⟨Nat.zero_le _, Nat.zero_le _⟩) hP hD hS hA [0, 7, 8, 9] [1, 2, 3, 4, 5, 6] [6, 0, 1, 2, 3, 4, 5, 7, 8, 9] rfl rfl (by decide) (by decide) (by decide) (fun _ => rfl) (fun r_48 u H locs hw hP hD hS => ?_)
                                obtain ⟨mGv_39, mXv_40, mYv_41, mDev_42, gdv_43, Pv_44, Dpv_45, Slv_46, Tv_47⟩ := u
                                obtain ⟨v_49, rfl, b_mGv_39, b_mXv_40, b_mYv_41, b_mDev_42, hN_315, hXY_315, hst_315, hrl_315, hc_315, hAL_315⟩ : ∃ rv : Nat, r_48 = nI rv ∧ (mGv_39 ≤ 1280) ∧ (∀ j, mXv_40 j < 2786) ∧ (∀ j, mYv_41 j < 2786) ∧ (∀ j, mDev_42 j < 1400) ∧ (NJ mGv_39 gdv_43 Pv_44 Dpv_45 Slv_46 Tv_47) ∧ (MXY mGv_39 mXv_40 mYv_41 mDev_42 Pv_44 Dpv_45) ∧ (ST Tv_36 mGv_28 Tv_47 mGv_39 (jl (LT Tv_36 v_16) (LT Tv_36 cr))) ∧ (rv < 2 * (113 + mGv_39)) ∧ (LT Tv_47 rv = jn (LT Tv_36 v_16) (LT Tv_36 cr)) ∧ (AL K Tv_47 mGv_39) := hw
                                have hP : va_P (dC, dI) classes [(a_mod, .inr (6, [.ref a_mkind, .ref a_mwidth, .ref a_mreset, .ref a_mop, .ref a_mka, .ref a_mkb, .ref a_mkc, .ref a_mheld, .int (nI mN), .ref a_msort, .ref a_mof, .ref a_mfrom, .int (nI mMs), .ref a_mbit, .ref a_mdone, .ref a_mrests, .ref a_mxx, .ref a_myy, .ref a_mdepth, .ref a_mone, .int (nI mGv_39), .int (nI mCk), .int mFw, .int (nI mRd), .ref a_mbefore, .ref a_mfirst, .ref a_mturned])), (a_mwidth, .inl (cI, 14, .inl (nF mWd))), (a_mop, .inl (cI, 14, .inl mOp)), (a_mka, .inl (cI, 14, .inl mAa)), (a_mkb, .inl (cI, 14, .inl mAb)), (a_mkc, .inl (cI, 14, .inl mAc)), (a_mbit, .inl (cI, 224, .inl (nF B1))), (a_mxx, .inl (cI, 2600, .inl (nF mXv_40))), (a_myy, .inl (cI, 2600, .inl (nF mYv_41))), (a_mdepth, .inl (cI, 2600, .inl (nF mDev_42)))] H := hP
                                have hD : va_D A [(a_mod, .inr (6, [.ref a_mkind, .ref a_mwidth, .ref a_mreset, .ref a_mop, .ref a_mka, .ref a_mkb, .ref a_mkc, .ref a_mheld, .int (nI mN), .ref a_msort, .ref a_mof, .ref a_mfrom, .int (nI mMs), .ref a_mbit, .ref a_mdone, .ref a_mrests, .ref a_mxx, .ref a_myy, .ref a_mdepth, .ref a_mone, .int (nI mGv_39), .int (nI mCk), .int mFw, .int (nI mRd), .ref a_mbefore, .ref a_mfirst, .ref a_mturned])), (a_mwidth, .inl (cI, 14, .inl (nF mWd))), (a_mop, .inl (cI, 14, .inl mOp)), (a_mka, .inl (cI, 14, .inl mAa)), (a_mkb, .inl (cI, 14, .inl mAb)), (a_mkc, .inl (cI, 14, .inl mAc)), (a_mbit, .inl (cI, 224, .inl (nF B1))), (a_mxx, .inl (cI, 2600, .inl (nF mXv_40))), (a_myy, .inl (cI, 2600, .inl (nF mYv_41))), (a_mdepth, .inl (cI, 2600, .inl (nF mDev_42)))] := hD
                                rw [hh.2, hcr.2] at hst_315 hc_315
                                have hj2 := And.intro hrl_315 hc_315
                                have hj1 := OKc_st hj1 hst_315
                                have hs9 := OKc_st hs9 hst_315
                                refine k_i (wr := [(a_mwidth, .inl (cI, 14, .inl (nF mWd))), (a_mop, .inl (cI, 14, .inl mOp)), (a_mka, .inl (cI, 14, .inl mAa)), (a_mkb, .inl (cI, 14, .inl mAb)), (a_mkc, .inl (cI, 14, .inl mAc)), (a_mbit, .inl (cI, 224, .inl (nF B1)))]) (w2 := fun (u : Nat × (Nat → Nat) × (Nat → Nat) × (Nat → Nat) × Nat × (Nat → Nat) × (Nat → Nat) × (Nat → Nat) × (Nat → Nat)) => [(a_mod, .inr (6, [.ref a_mkind, .ref a_mwidth, .ref a_mreset, .ref a_mop, .ref a_mka, .ref a_mkb, .ref a_mkc, .ref a_mheld, .int (nI mN), .ref a_msort, .ref a_mof, .ref a_mfrom, .int (nI mMs), .ref a_mbit, .ref a_mdone, .ref a_mrests, .ref a_mxx, .ref a_myy, .ref a_mdepth, .ref a_mone, .int (nI u.1), .int (nI mCk), .int mFw, .int (nI mRd), .ref a_mbefore, .ref a_mfirst, .ref a_mturned])), (a_mwidth, .inl (cI, 14, .inl (nF mWd))), (a_mop, .inl (cI, 14, .inl mOp)), (a_mka, .inl (cI, 14, .inl mAa)), (a_mkb, .inl (cI, 14, .inl mAb)), (a_mkc, .inl (cI, 14, .inl mAc)), (a_mbit, .inl (cI, 224, .inl (nF B1))), (a_mxx, .inl (cI, 2600, .inl (nF u.2.1))), (a_myy, .inl (cI, 2600, .inl (nF u.2.2.1))), (a_mdepth, .inl (cI, 2600, .inl (nF u.2.2.2.1)))]) (va_runV (As := [.int (nI v_38), .int (nI v_49)]) (rest := []) ⟨hx, hb, hml, hown, hts⟩ (c_Mod_either l dC dI cI cZ a_mod a_mkind a_mwidth a_mreset a_mop a_mka a_mkb a_mkc a_mheld a_msort a_mof a_mfrom a_mbit a_mdone a_mrests a_mxx a_myy a_mdepth a_mone a_mbefore a_mfirst a_mturned tt H.size mN mMs mGv_39 mCk mFw mRd mXv_40 mYv_41 mDev_42 gdv_43 Pv_44 Dpv_45 Slv_46 Tv_47 K v_38 v_49 (by omega) (by omega) (by omega) (by omega) b_mXv_40 b_mYv_41 b_mDev_42 hN_315 hXY_315 hAL_315 hj1.1 hj2.1 (by rw [hj1.2, hj2.2]; exact fun c h => hgl c (by rw [eL]; exact catL_in _ (by omega) (List.mem_append_right _ (List.mem_append_right _ (List.mem_append_right _ (List.mem_append_right _ h))))))) (cwV 2 hts (gd_V in_tl (mw 710 rfl rfl) (mw 712 rfl rfl) (mw 34 rfl rfl) (mw 47 rfl rfl) (mw 713 rfl rfl)) rfl rfl rfl (by decide +kernel) ⟨Nat.le_of_ble_eq_true rfl, Nat.le_of_ble_eq_true rfl⟩) (k_preV hK hP hD hS hA hE [0, 7, 8, 9] (by decide) rfl 6 0 rfl rfl) rfl rfl hl.1 rfl (lv_room (Nat.le_of_ble_eq_true rfl)) d_Mod_node1_318 ⟨Nat.zero_le _, Nat.zero_le _⟩) hP hD hS hA [0, 7, 8, 9] [1, 2, 3, 4, 5, 6] [6, 0, 1, 2, 3, 4, 5, 7, 8, 9] rfl rfl (by decide) (by decide) (by decide) (fun _ => rfl) (fun r_59 u H locs hw hP hD hS => ?_)
                                obtain ⟨mGv_50, mXv_51, mYv_52, mDev_53, gdv_54, Pv_55, Dpv_56, Slv_57, Tv_58⟩ := u
                                obtain ⟨v_60, rfl, b_mGv_50, b_mXv_51, b_mYv_52, b_mDev_53, hN_318, hXY_318, hst_318, hrl_318, hc_318, hAL_318⟩ : ∃ rv : Nat, r_59 = nI rv ∧ (mGv_50 ≤ 1280) ∧ (∀ j, mXv_51 j < 2786) ∧ (∀ j, mYv_52 j < 2786) ∧ (∀ j, mDev_53 j < 1400) ∧ (NJ mGv_50 gdv_54 Pv_55 Dpv_56 Slv_57 Tv_58) ∧ (MXY mGv_50 mXv_51 mYv_52 mDev_53 Pv_55 Dpv_56) ∧ (ST Tv_47 mGv_39 Tv_58 mGv_50 (eil (LT Tv_47 v_38) (LT Tv_47 v_49))) ∧ (rv < 2 * (113 + mGv_50)) ∧ (LT Tv_58 rv = ei (LT Tv_47 v_38) (LT Tv_47 v_49)) ∧ (AL K Tv_58 mGv_50) := hw
                                have hP : va_P (dC, dI) classes [(a_mod, .inr (6, [.ref a_mkind, .ref a_mwidth, .ref a_mreset, .ref a_mop, .ref a_mka, .ref a_mkb, .ref a_mkc, .ref a_mheld, .int (nI mN), .ref a_msort, .ref a_mof, .ref a_mfrom, .int (nI mMs), .ref a_mbit, .ref a_mdone, .ref a_mrests, .ref a_mxx, .ref a_myy, .ref a_mdepth, .ref a_mone, .int (nI mGv_50), .int (nI mCk), .int mFw, .int (nI mRd), .ref a_mbefore, .ref a_mfirst, .ref a_mturned])), (a_mwidth, .inl (cI, 14, .inl (nF mWd))), (a_mop, .inl (cI, 14, .inl mOp)), (a_mka, .inl (cI, 14, .inl mAa)), (a_mkb, .inl (cI, 14, .inl mAb)), (a_mkc, .inl (cI, 14, .inl mAc)), (a_mbit, .inl (cI, 224, .inl (nF B1))), (a_mxx, .inl (cI, 2600, .inl (nF mXv_51))), (a_myy, .inl (cI, 2600, .inl (nF mYv_52))), (a_mdepth, .inl (cI, 2600, .inl (nF mDev_53)))] H := hP
                                have hD : va_D A [(a_mod, .inr (6, [.ref a_mkind, .ref a_mwidth, .ref a_mreset, .ref a_mop, .ref a_mka, .ref a_mkb, .ref a_mkc, .ref a_mheld, .int (nI mN), .ref a_msort, .ref a_mof, .ref a_mfrom, .int (nI mMs), .ref a_mbit, .ref a_mdone, .ref a_mrests, .ref a_mxx, .ref a_myy, .ref a_mdepth, .ref a_mone, .int (nI mGv_50), .int (nI mCk), .int mFw, .int (nI mRd), .ref a_mbefore, .ref a_mfirst, .ref a_mturned])), (a_mwidth, .inl (cI, 14, .inl (nF mWd))), (a_mop, .inl (cI, 14, .inl mOp)), (a_mka, .inl (cI, 14, .inl mAa)), (a_mkb, .inl (cI, 14, .inl mAb)), (a_mkc, .inl (cI, 14, .inl mAc)), (a_mbit, .inl (cI, 224, .inl (nF B1))), (a_mxx, .inl (cI, 2600, .inl (nF mXv_51))), (a_myy, .inl (cI, 2600, .inl (nF mYv_52))), (a_mdepth, .inl (cI, 2600, .inl (nF mDev_53)))] := hD
                                rw [hj1.2, hj2.2] at hst_318 hc_318
                                have hs9 := OKc_st hs9 hst_318
                                have hs9b := hs9.1
                                have hall := ST_tr hst_286 (ST_tr hst_296 (ST_tr hst_307 (ST_tr hst_315 hst_318)))
                                refine lv_istore (lv' := [(6, .int (nI v_60)), (9, .int (nI v_27)), (12, .int (nI v_16)), (11, .int (nI (lit B1 mWd Y b))), (10, .int (nI (lit B1 mWd X b))), (8, .int (nI b)), (7, .int (nI 1)), (5, .int (nI (mWd S))), (4, .int (nI Y)), (3, .int (nI X)), (2, .int (nI 4)), (0, .ref a_mod), (1, .int (nI S))]) hx hb d_Mod_node1_321 hl (by decide) rfl (fun ls hl => ?_)
                                refine lv_iload_n hx hb d_Mod_node1_323 rfl (lv_at hl 10 rfl) ?_
                                refine lv_bipush (v := nI 6) hx hb d_Mod_node1_324 rfl ?_
                                refine lv_icmp_ne (tgt := 358) hx hb d_Mod_node1_326 (by decide) (fun c326 => ?_) (fun c326 => ?_)
                                · skip
                                  have c326 : ¬ (4 = 6) := fun h => c326 ((nI_eq (by omega) (by omega)).mpr h)
                                  refine lv_iload_n hx hb d_Mod_node1_358 rfl (lv_at hl 10 rfl) ?_
                                  refine lv_bipush (v := nI 8) hx hb d_Mod_node1_359 rfl ?_
                                  refine lv_icmp_ne (tgt := 414) hx hb d_Mod_node1_361 (by decide) (fun c361 => ?_) (fun c361 => ?_)
                                  · skip
                                    have c361 : ¬ (4 = 8) := fun h => c361 ((nI_eq (by omega) (by omega)).mpr h)
                                    refine lv_iload_n hx hb d_Mod_node1_414 rfl (lv_at hl 10 rfl) ?_
                                    refine lv_bipush (v := nI 9) hx hb d_Mod_node1_415 rfl ?_
                                    refine lv_icmp_ne (tgt := 437) hx hb d_Mod_node1_417 (by decide) (fun c417 => ?_) (fun c417 => ?_)
                                    · skip
                                      have c417 : ¬ (4 = 9) := fun h => c417 ((nI_eq (by omega) (by omega)).mpr h)
                                      refine lv_iload_n hx hb d_Mod_node1_437 rfl (lv_at hl 10 rfl) ?_
                                      refine lv_bipush (v := nI 10) hx hb d_Mod_node1_438 rfl ?_
                                      refine lv_icmp_ne (tgt := 478) hx hb d_Mod_node1_440 (by decide) (fun c440 => ?_) (fun c440 => ?_)
                                      · skip
                                        have c440 : ¬ (4 = 10) := fun h => c440 ((nI_eq (by omega) (by omega)).mpr h)
                                        refine lv_aload_n hx hb d_Mod_node1_478 rfl (lv_at hl 11 rfl) ?_
                                        refine va_get (D := (dC, dI)) (ci := 6) (v := .ref a_mbit) (C := R_Mod) (T := F_Mod) (N := 27) hx hb hts (wi i_Mod) hown hK hP 0 rfl rfl 13 (by decide) (hts _ (mt 555 rfl rfl)) (fun _ h9 => h9) rfl d_Mod_node1_479 ?_
                                        refine lv_bipush (v := nI 8) hx hb d_Mod_node1_482 rfl ?_
                                        refine lv_iload_n hx hb d_Mod_node1_484 rfl (lv_at hl 12 rfl) ?_
                                        refine lv_imul hx hb d_Mod_node1_485 ?_
                                        refine k_top (pk_mul _ _) ?_
                                        refine lv_iload hx hb d_Mod_node1_486 (lv_at hl 5 rfl) ?_
                                        refine lv_iadd hx hb d_Mod_node1_488 ?_
                                        refine k_top (nI_add _ _) ?_
                                        refine lv_iload hx hb d_Mod_node1_489 (lv_at hl 1 rfl) ?_
                                        refine k_ist hx hb hK hP hD hS 6 0 rfl rfl (by omega) (by decide) d_Mod_node1_491 (fun H locs hP hD hS => ?_)
                                        have bb_61 : ∀ j, upN B1 ((8 * S) + b) v_27 j < 2786 := upN_lt b_B1 (by first | omega | (have := hcr.1; omega))
                                        have hP : va_P (dC, dI) classes [(a_mod, .inr (6, [.ref a_mkind, .ref a_mwidth, .ref a_mreset, .ref a_mop, .ref a_mka, .ref a_mkb, .ref a_mkc, .ref a_mheld, .int (nI mN), .ref a_msort, .ref a_mof, .ref a_mfrom, .int (nI mMs), .ref a_mbit, .ref a_mdone, .ref a_mrests, .ref a_mxx, .ref a_myy, .ref a_mdepth, .ref a_mone, .int (nI mGv_50), .int (nI mCk), .int mFw, .int (nI mRd), .ref a_mbefore, .ref a_mfirst, .ref a_mturned])), (a_mwidth, .inl (cI, 14, .inl (nF mWd))), (a_mop, .inl (cI, 14, .inl mOp)), (a_mka, .inl (cI, 14, .inl mAa)), (a_mkb, .inl (cI, 14, .inl mAb)), (a_mkc, .inl (cI, 14, .inl mAc)), (a_mbit, .inl (cI, 224, .inl (nF (upN B1 ((8 * S) + b) v_27)))), (a_mxx, .inl (cI, 2600, .inl (nF mXv_51))), (a_myy, .inl (cI, 2600, .inl (nF mYv_52))), (a_mdepth, .inl (cI, 2600, .inl (nF mDev_53)))] H := hP
                                        have hD : va_D A [(a_mod, .inr (6, [.ref a_mkind, .ref a_mwidth, .ref a_mreset, .ref a_mop, .ref a_mka, .ref a_mkb, .ref a_mkc, .ref a_mheld, .int (nI mN), .ref a_msort, .ref a_mof, .ref a_mfrom, .int (nI mMs), .ref a_mbit, .ref a_mdone, .ref a_mrests, .ref a_mxx, .ref a_myy, .ref a_mdepth, .ref a_mone, .int (nI mGv_50), .int (nI mCk), .int mFw, .int (nI mRd), .ref a_mbefore, .ref a_mfirst, .ref a_mturned])), (a_mwidth, .inl (cI, 14, .inl (nF mWd))), (a_mop, .inl (cI, 14, .inl mOp)), (a_mka, .inl (cI, 14, .inl mAa)), (a_mkb, .inl (cI, 14, .inl mAb)), (a_mkc, .inl (cI, 14, .inl mAc)), (a_mbit, .inl (cI, 224, .inl (nF (upN B1 ((8 * S) + b) v_27)))), (a_mxx, .inl (cI, 2600, .inl (nF mXv_51))), (a_myy, .inl (cI, 2600, .inl (nF mYv_52))), (a_mdepth, .inl (cI, 2600, .inl (nF mDev_53)))] := hD
                                        refine lv_iinc (v := nI (b + 1)) (lv' := [(8, .int (nI (b + 1))), (6, .int (nI v_60)), (9, .int (nI v_27)), (12, .int (nI v_16)), (11, .int (nI (lit B1 mWd Y b))), (10, .int (nI (lit B1 mWd X b))), (7, .int (nI 1)), (5, .int (nI (mWd S))), (4, .int (nI Y)), (3, .int (nI X)), (2, .int (nI 4)), (0, .ref a_mod), (1, .int (nI S))]) hx hb d_Mod_node1_492 hl (k := 5) rfl (k_inc _ 1) (by decide) rfl (fun ls hl => ?_)
                                        refine lv_goto (tgt := 85) hx hb d_Mod_node1_495 (by decide) ?_
                                        have hI_62 : (mGv_50 ≤ 1280) ∧ (∀ j, mXv_51 j < 2786) ∧ (∀ j, mYv_52 j < 2786) ∧ (∀ j, mDev_53 j < 1400) ∧ (∀ j, (upN B1 ((8 * S) + b) v_27) j < 2786) ∧ (NJ mGv_50 gdv_54 Pv_55 Dpv_56 Slv_57 Tv_58) ∧ (MXY mGv_50 mXv_51 mYv_52 mDev_53 Pv_55 Dpv_56) ∧ (AL K Tv_58 mGv_50) ∧ (ST T mG Tv_58 mGv_50 (adL (CB X) (oC (CB Y) 0) 0 (min (b + 1) (max (mWd X) (mWd Y))))) ∧ (OKc Tv_58 mGv_50 v_60 (ca (CB X) (oC (CB Y) 0) 0 (min (b + 1) (max (mWd X) (mWd Y))))) ∧ (Out mBi (upN B1 ((8 * S) + b) v_27) S) ∧ (∀ j, j < (b + 1) → OKc Tv_58 mGv_50 ((upN B1 ((8 * S) + b) v_27) (8 * S + j)) ((if j < max (mWd X) (mWd Y) then sm (CB X) (oC (CB Y) 0) 0 j else ca (CB X) (oC (CB Y) 0) 0 (max (mWd X) (mWd Y))))) ∧ ((b + 1) ≤ mWd S) := ⟨(by omega), b_mXv_51, b_mYv_52, b_mDev_53, bb_61, hN_318, hXY_318, hAL_318, (by rw [show min (b + 1) (max (mWd X) (mWd Y)) = b + 1 by omega]; exact ST_tr hst1 hall), (by rw [show min (b + 1) (max (mWd X) (mWd Y)) = b + 1 by omega]; exact ⟨hrl_318, hc_318⟩), (Out_up8 hO1 (by omega)), (fun j hj => by
      by_cases e : j = b
      · rw [e, upN_self]; exact (by rw [if_pos (show b < max (mWd X) (mWd Y) by omega)]; exact hs9)
      · rw [upN_ne _ _ (by omega)]; exact OKc_st (hB1 j (by omega)) hall), (by omega)⟩
                                        exact ih_3 (b + 1, v_60, mGv_50, mXv_51, mYv_52, mDev_53, gdv_54, Pv_55, Dpv_56, Slv_57, Tv_58, upN B1 ((8 * S) + b) v_27) hI_62 (show mWd S - (b + 1) < mWd S - b from by omega) _ _ _ hP hD hS (lv_sub hl [0, 6, 1, 7, 8, 9, 10, 11, 12] rfl)
                                      · skip
                                        have c440 : 4 = 10 := (nI_eq (by omega) (by omega)).mp c440
                                        omega
                                    · skip
                                      have c417 : 4 = 9 := (nI_eq (by omega) (by omega)).mp c417
                                      omega
                                  · skip
                                    have c361 : 4 = 8 := (nI_eq (by omega) (by omega)).mp c361
                                    omega
                                · skip
                                  have c326 : 4 = 6 := (nI_eq (by omega) (by omega)).mp c326
                                  omega
                            · skip
                              have c237 : ¬ (b < ((mWd S) - 1)) := fun h => c237 ((nI_ltI (by omega) (by omega)).mpr h)
                              omega
                        · skip
                          have c219 : b = ((mWd S) - 1) := (nI_eq (by omega) (by omega)).mp c219
                          refine lv_iload hx hb d_Mod_node1_222 (lv_at hl 3 rfl) ?_
                          refine lv_istore (lv' := [(9, .int (nI cr)), (8, .int (nI b)), (7, .int (nI 1)), (6, .int (nI cr)), (5, .int (nI (mWd S))), (4, .int (nI Y)), (3, .int (nI X)), (2, .int (nI 4)), (0, .ref a_mod), (1, .int (nI S))]) hx hb d_Mod_node1_224 hl (by decide) rfl (fun ls hl => ?_)
                          refine lv_iload_n hx hb d_Mod_node1_226 rfl (lv_at hl 7 rfl) ?_
                          refine lv_iconst (v := nI 4) hx hb d_Mod_node1_227 rfl ?_
                          refine lv_icmp_ne (tgt := 240) hx hb d_Mod_node1_228 (by decide) (fun c228 => ?_) (fun c228 => ?_)
                          · skip
                            have c228 : ¬ (4 = 4) := fun h => c228 ((nI_eq (by omega) (by omega)).mpr h)
                            omega
                          · skip
                            have c228 : 4 = 4 := (nI_eq (by omega) (by omega)).mp c228
                            refine lv_iload hx hb d_Mod_node1_231 (lv_at hl 1 rfl) ?_
                            refine lv_iload hx hb d_Mod_node1_233 (lv_at hl 4 rfl) ?_
                            refine lv_iconst (v := nI 1) hx hb d_Mod_node1_235 rfl ?_
                            refine lv_isub hx hb d_Mod_node1_236 ?_
                            refine k_top (pk_sub (by omega)) ?_
                            refine lv_icmp_lt (tgt := 251) hx hb d_Mod_node1_237 (by decide) (fun c237 => ?_) (fun c237 => ?_)
                            · skip
                              have c237 : b < ((mWd S) - 1) := (nI_ltI (by omega) (by omega)).mp c237
                              omega
                            · skip
                              have c237 : ¬ (b < ((mWd S) - 1)) := fun h => c237 ((nI_ltI (by omega) (by omega)).mpr h)
                              refine lv_iload_n hx hb d_Mod_node1_240 rfl (lv_at hl 7 rfl) ?_
                              refine lv_iconst (v := nI 5) hx hb d_Mod_node1_241 rfl ?_
                              refine lv_icmp_eq (tgt := 251) hx hb d_Mod_node1_242 (by decide) (fun c242 => ?_) (fun c242 => ?_)
                              · skip
                                have c242 : 4 = 5 := (nI_eq (by omega) (by omega)).mp c242
                                omega
                              · skip
                                have c242 : ¬ (4 = 5) := fun h => c242 ((nI_eq (by omega) (by omega)).mpr h)
                                refine lv_iload_n hx hb d_Mod_node1_245 rfl (lv_at hl 7 rfl) ?_
                                refine lv_bipush (v := nI 7) hx hb d_Mod_node1_246 rfl ?_
                                refine lv_icmp_ne (tgt := 323) hx hb d_Mod_node1_248 (by decide) (fun c248 => ?_) (fun c248 => ?_)
                                · skip
                                  have c248 : ¬ (4 = 7) := fun h => c248 ((nI_eq (by omega) (by omega)).mpr h)
                                  refine lv_iload_n hx hb d_Mod_node1_323 rfl (lv_at hl 7 rfl) ?_
                                  refine lv_bipush (v := nI 6) hx hb d_Mod_node1_324 rfl ?_
                                  refine lv_icmp_ne (tgt := 358) hx hb d_Mod_node1_326 (by decide) (fun c326 => ?_) (fun c326 => ?_)
                                  · skip
                                    have c326 : ¬ (4 = 6) := fun h => c326 ((nI_eq (by omega) (by omega)).mpr h)
                                    refine lv_iload_n hx hb d_Mod_node1_358 rfl (lv_at hl 7 rfl) ?_
                                    refine lv_bipush (v := nI 8) hx hb d_Mod_node1_359 rfl ?_
                                    refine lv_icmp_ne (tgt := 414) hx hb d_Mod_node1_361 (by decide) (fun c361 => ?_) (fun c361 => ?_)
                                    · skip
                                      have c361 : ¬ (4 = 8) := fun h => c361 ((nI_eq (by omega) (by omega)).mpr h)
                                      refine lv_iload_n hx hb d_Mod_node1_414 rfl (lv_at hl 7 rfl) ?_
                                      refine lv_bipush (v := nI 9) hx hb d_Mod_node1_415 rfl ?_
                                      refine lv_icmp_ne (tgt := 437) hx hb d_Mod_node1_417 (by decide) (fun c417 => ?_) (fun c417 => ?_)
                                      · skip
                                        have c417 : ¬ (4 = 9) := fun h => c417 ((nI_eq (by omega) (by omega)).mpr h)
                                        refine lv_iload_n hx hb d_Mod_node1_437 rfl (lv_at hl 7 rfl) ?_
                                        refine lv_bipush (v := nI 10) hx hb d_Mod_node1_438 rfl ?_
                                        refine lv_icmp_ne (tgt := 478) hx hb d_Mod_node1_440 (by decide) (fun c440 => ?_) (fun c440 => ?_)
                                        · skip
                                          have c440 : ¬ (4 = 10) := fun h => c440 ((nI_eq (by omega) (by omega)).mpr h)
                                          refine lv_aload_n hx hb d_Mod_node1_478 rfl (lv_at hl 8 rfl) ?_
                                          refine va_get (D := (dC, dI)) (ci := 6) (v := .ref a_mbit) (C := R_Mod) (T := F_Mod) (N := 27) hx hb hts (wi i_Mod) hown hK hP 0 rfl rfl 13 (by decide) (hts _ (mt 555 rfl rfl)) (fun _ h9 => h9) rfl d_Mod_node1_479 ?_
                                          refine lv_bipush (v := nI 8) hx hb d_Mod_node1_482 rfl ?_
                                          refine lv_iload_n hx hb d_Mod_node1_484 rfl (lv_at hl 9 rfl) ?_
                                          refine lv_imul hx hb d_Mod_node1_485 ?_
                                          refine k_top (pk_mul _ _) ?_
                                          refine lv_iload hx hb d_Mod_node1_486 (lv_at hl 1 rfl) ?_
                                          refine lv_iadd hx hb d_Mod_node1_488 ?_
                                          refine k_top (nI_add _ _) ?_
                                          refine lv_iload hx hb d_Mod_node1_489 (lv_at hl 0 rfl) ?_
                                          refine k_ist hx hb hK hP hD hS 6 0 rfl rfl (by omega) (by decide) d_Mod_node1_491 (fun H locs hP hD hS => ?_)
                                          have bb_63 : ∀ j, upN B1 ((8 * S) + b) cr j < 2786 := upN_lt b_B1 (by first | omega | (have := hcr.1; omega))
                                          have hP : va_P (dC, dI) classes [(a_mod, .inr (6, [.ref a_mkind, .ref a_mwidth, .ref a_mreset, .ref a_mop, .ref a_mka, .ref a_mkb, .ref a_mkc, .ref a_mheld, .int (nI mN), .ref a_msort, .ref a_mof, .ref a_mfrom, .int (nI mMs), .ref a_mbit, .ref a_mdone, .ref a_mrests, .ref a_mxx, .ref a_myy, .ref a_mdepth, .ref a_mone, .int (nI mG1), .int (nI mCk), .int mFw, .int (nI mRd), .ref a_mbefore, .ref a_mfirst, .ref a_mturned])), (a_mwidth, .inl (cI, 14, .inl (nF mWd))), (a_mop, .inl (cI, 14, .inl mOp)), (a_mka, .inl (cI, 14, .inl mAa)), (a_mkb, .inl (cI, 14, .inl mAb)), (a_mkc, .inl (cI, 14, .inl mAc)), (a_mbit, .inl (cI, 224, .inl (nF (upN B1 ((8 * S) + b) cr)))), (a_mxx, .inl (cI, 2600, .inl (nF mX1))), (a_myy, .inl (cI, 2600, .inl (nF mY1))), (a_mdepth, .inl (cI, 2600, .inl (nF mDe1)))] H := hP
                                          have hD : va_D A [(a_mod, .inr (6, [.ref a_mkind, .ref a_mwidth, .ref a_mreset, .ref a_mop, .ref a_mka, .ref a_mkb, .ref a_mkc, .ref a_mheld, .int (nI mN), .ref a_msort, .ref a_mof, .ref a_mfrom, .int (nI mMs), .ref a_mbit, .ref a_mdone, .ref a_mrests, .ref a_mxx, .ref a_myy, .ref a_mdepth, .ref a_mone, .int (nI mG1), .int (nI mCk), .int mFw, .int (nI mRd), .ref a_mbefore, .ref a_mfirst, .ref a_mturned])), (a_mwidth, .inl (cI, 14, .inl (nF mWd))), (a_mop, .inl (cI, 14, .inl mOp)), (a_mka, .inl (cI, 14, .inl mAa)), (a_mkb, .inl (cI, 14, .inl mAb)), (a_mkc, .inl (cI, 14, .inl mAc)), (a_mbit, .inl (cI, 224, .inl (nF (upN B1 ((8 * S) + b) cr)))), (a_mxx, .inl (cI, 2600, .inl (nF mX1))), (a_myy, .inl (cI, 2600, .inl (nF mY1))), (a_mdepth, .inl (cI, 2600, .inl (nF mDe1)))] := hD
                                          refine lv_iinc (v := nI (b + 1)) (lv' := [(8, .int (nI (b + 1))), (9, .int (nI cr)), (7, .int (nI 1)), (6, .int (nI cr)), (5, .int (nI (mWd S))), (4, .int (nI Y)), (3, .int (nI X)), (2, .int (nI 4)), (0, .ref a_mod), (1, .int (nI S))]) hx hb d_Mod_node1_492 hl (k := 1) rfl (k_inc _ 1) (by decide) rfl (fun ls hl => ?_)
                                          refine lv_goto (tgt := 85) hx hb d_Mod_node1_495 (by decide) ?_
                                          have hI_64 : (mG1 ≤ 1280) ∧ (∀ j, mX1 j < 2786) ∧ (∀ j, mY1 j < 2786) ∧ (∀ j, mDe1 j < 1400) ∧ (∀ j, (upN B1 ((8 * S) + b) cr) j < 2786) ∧ (NJ mG1 gd1 P1 Dp1 Sl1 T1) ∧ (MXY mG1 mX1 mY1 mDe1 P1 Dp1) ∧ (AL K T1 mG1) ∧ (ST T mG T1 mG1 (adL (CB X) (oC (CB Y) 0) 0 (min (b + 1) (max (mWd X) (mWd Y))))) ∧ (OKc T1 mG1 cr (ca (CB X) (oC (CB Y) 0) 0 (min (b + 1) (max (mWd X) (mWd Y))))) ∧ (Out mBi (upN B1 ((8 * S) + b) cr) S) ∧ (∀ j, j < (b + 1) → OKc T1 mG1 ((upN B1 ((8 * S) + b) cr) (8 * S + j)) ((if j < max (mWd X) (mWd Y) then sm (CB X) (oC (CB Y) 0) 0 j else ca (CB X) (oC (CB Y) 0) 0 (max (mWd X) (mWd Y))))) ∧ ((b + 1) ≤ mWd S) := ⟨(by omega), b_mX1, b_mY1, b_mDe1, bb_63, hN1, hXY1, hAL1, (by rw [show min (b + 1) (max (mWd X) (mWd Y)) = min b (max (mWd X) (mWd Y)) by omega]; exact hst1), (by rw [show min (b + 1) (max (mWd X) (mWd Y)) = min b (max (mWd X) (mWd Y)) by omega]; exact hcr), (Out_up8 hO1 (by omega)), (fun j hj => by
      by_cases e : j = b
      · rw [e, upN_self]; exact (by rw [if_neg (show ¬ b < max (mWd X) (mWd Y) by omega)]; have := hcr; rw [show min b (max (mWd X) (mWd Y)) = max (mWd X) (mWd Y) by omega] at this; exact this)
      · rw [upN_ne _ _ (by omega)]; exact hB1 j (by omega)), (by omega)⟩
                                          exact ih_3 (b + 1, cr, mG1, mX1, mY1, mDe1, gd1, P1, Dp1, Sl1, T1, upN B1 ((8 * S) + b) cr) hI_64 (show mWd S - (b + 1) < mWd S - b from by omega) _ _ _ hP hD hS (lv_sub hl [0, 2, 3, 4, 5, 6, 7, 8, 9] rfl)
                                        · skip
                                          have c440 : 4 = 10 := (nI_eq (by omega) (by omega)).mp c440
                                          omega
                                      · skip
                                        have c417 : 4 = 9 := (nI_eq (by omega) (by omega)).mp c417
                                        omega
                                    · skip
                                      have c361 : 4 = 8 := (nI_eq (by omega) (by omega)).mp c361
                                      omega
                                  · skip
                                    have c326 : 4 = 6 := (nI_eq (by omega) (by omega)).mp c326
                                    omega
                                · skip
                                  have c248 : 4 = 7 := (nI_eq (by omega) (by omega)).mp c248
                                  omega
                    · skip
                      have c184 : 4 = 3 := (nI_eq (by omega) (by omega)).mp c184
                      omega
                  · skip
                    have c158 : 4 = 2 := (nI_eq (by omega) (by omega)).mp c158
                    omega
                · skip
                  have c132 : 4 = 1 := (nI_eq (by omega) (by omega)).mp c132
                  omega
              · skip
                have c111 : 4 = 0 := (nI_eq0 (by omega)).mp c111
                omega
            · skip
              have c95 : 4 = 11 := (nI_eq (by omega) (by omega)).mp c95
              omega
        · skip
          have c69 : 4 = 7 := (nI_eq (by omega) (by omega)).mp c69
          omega
    · skip
      have c31 : 4 = 7 := (nI_eq (by omega) (by omega)).mp c31
      omega
set_option maxHeartbeats 4000000 in
set_option maxRecDepth 100000 in
theorem c_Mod_node1o5 (l : Launch) (dC : Nat → ClassId) (dI : Nat → Nat → Nat) (cI cZ : ClassId) (a_mod a_mkind a_mwidth a_mreset a_mop a_mka a_mkb a_mkc a_mheld a_msort a_mof a_mfrom a_mbit a_mdone a_mrests a_mxx a_myy a_mdepth a_mone a_mbefore a_mfirst a_mturned : Nat) (tt sz : Nat) (mN : Nat) (mMs : Nat) (mG : Nat) (mCk : Nat) (mFw : Int32) (mRd : Nat) (mWd : Nat → Nat) (mOp : Nat → Int32) (mAa : Nat → Int32) (mAb : Nat → Int32) (mAc : Nat → Int32) (mBi : Nat → Nat) (mX : Nat → Nat) (mY : Nat → Nat) (mDe : Nat → Nat) (gd : Nat) (P : Nat → Nat) (Dp : Nat → Nat) (Sl : Nat → Nat) (T : Nat → Nat) (K : List Nat) (CB : Nat → Nat → Nat) (X : Nat) (Y : Nat) (S : Nat) (b_mN : mN ≤ 14) (b_mMs : mMs ≤ 20) (b_mG : mG ≤ 1280) (b_mRd : mRd ≤ 1) (b_mWd : ∀ j, mWd j < 9) (b_mBi : ∀ j, mBi j < 2786) (b_mX : ∀ j, mX j < 2786) (b_mY : ∀ j, mY j < 2786) (b_mDe : ∀ j, mDe j < 1400) (hN : NJ mG gd P Dp Sl T) (hXY : MXY mG mX mY mDe P Dp) (hAL : AL K T mG) (hS14 : S < 14) (hW1 : 1 ≤ mWd S) (hop : mOp S = nI 5) (hax : mAa S = nI X) (hx1 : X < 14 ∧ X ≠ S ∧ ∀ j, OKc T mG (lit mBi mWd X j) (CB X j)) (hay : mAb S = nI Y) (hy1 : Y < 14 ∧ Y ≠ S ∧ ∀ j, OKc T mG (lit mBi mWd Y j) (CB Y j)) (hws : mWd S = max (mWd X) (mWd Y)) (hgl : ∀ c, c ∈ ncL mWd CB 5 (mAa S) (mAb S) (mAc S) (mWd S) → c ∈ K) : Met l y_Mod_node1 w_Mod_node1 ({ frames := 6, cells := 0, slots := 0, locals := 200 }) (va_Pc [.ref a_mod, .int (nI S)] (PW (dC, dI) classes [(cI, .int), (cZ, .boolean)] tt [(a_mod, .inr (6, [.ref a_mkind, .ref a_mwidth, .ref a_mreset, .ref a_mop, .ref a_mka, .ref a_mkb, .ref a_mkc, .ref a_mheld, .int (nI mN), .ref a_msort, .ref a_mof, .ref a_mfrom, .int (nI mMs), .ref a_mbit, .ref a_mdone, .ref a_mrests, .ref a_mxx, .ref a_myy, .ref a_mdepth, .ref a_mone, .int (nI mG), .int (nI mCk), .int mFw, .int (nI mRd), .ref a_mbefore, .ref a_mfirst, .ref a_mturned])), (a_mwidth, .inl (cI, 14, .inl (nF mWd))), (a_mop, .inl (cI, 14, .inl mOp)), (a_mka, .inl (cI, 14, .inl mAa)), (a_mkb, .inl (cI, 14, .inl mAb)), (a_mkc, .inl (cI, 14, .inl mAc)), (a_mbit, .inl (cI, 224, .inl (nF mBi))), (a_mxx, .inl (cI, 2600, .inl (nF mX))), (a_myy, .inl (cI, 2600, .inl (nF mY))), (a_mdepth, .inl (cI, 2600, .inl (nF mDe)))] sz)) (va_Qv (fun (u : Nat × (Nat → Nat) × (Nat → Nat) × (Nat → Nat) × Nat × (Nat → Nat) × (Nat → Nat) × (Nat → Nat) × (Nat → Nat) × (Nat → Nat)) => (u.1 ≤ 1280) ∧ (∀ j, u.2.1 j < 2786) ∧ (∀ j, u.2.2.1 j < 2786) ∧ (∀ j, u.2.2.2.1 j < 1400) ∧ (∀ j, u.2.2.2.2.2.2.2.2.2 j < 2786) ∧ (NJ u.1 u.2.2.2.2.1 u.2.2.2.2.2.1 u.2.2.2.2.2.2.1 u.2.2.2.2.2.2.2.1 u.2.2.2.2.2.2.2.2.1) ∧ (MXY u.1 u.2.1 u.2.2.1 u.2.2.2.1 u.2.2.2.2.2.1 u.2.2.2.2.2.2.1) ∧ (AL K u.2.2.2.2.2.2.2.2.1 u.1) ∧ (ST T mG u.2.2.2.2.2.2.2.2.1 u.1 (ncL mWd CB 5 (mAa S) (mAb S) (mAc S) (mWd S))) ∧ (Out mBi u.2.2.2.2.2.2.2.2.2 S) ∧ (∀ j, j < mWd S → OKc u.2.2.2.2.2.2.2.2.1 u.1 (u.2.2.2.2.2.2.2.2.2 (8 * S + j)) (nc mWd CB 5 (mAa S) (mAb S) (mAc S) j))) (AT (dC, dI) classes [(cI, .int), (cZ, .boolean)] (va_A [(a_mod, .inr (6, [.ref a_mkind, .ref a_mwidth, .ref a_mreset, .ref a_mop, .ref a_mka, .ref a_mkb, .ref a_mkc, .ref a_mheld, .int (nI mN), .ref a_msort, .ref a_mof, .ref a_mfrom, .int (nI mMs), .ref a_mbit, .ref a_mdone, .ref a_mrests, .ref a_mxx, .ref a_myy, .ref a_mdepth, .ref a_mone, .int (nI mG), .int (nI mCk), .int mFw, .int (nI mRd), .ref a_mbefore, .ref a_mfirst, .ref a_mturned])), (a_mwidth, .inl (cI, 14, .inl (nF mWd))), (a_mop, .inl (cI, 14, .inl mOp)), (a_mka, .inl (cI, 14, .inl mAa)), (a_mkb, .inl (cI, 14, .inl mAb)), (a_mkc, .inl (cI, 14, .inl mAc)), (a_mbit, .inl (cI, 224, .inl (nF mBi))), (a_mxx, .inl (cI, 2600, .inl (nF mX))), (a_myy, .inl (cI, 2600, .inl (nF mY))), (a_mdepth, .inl (cI, 2600, .inl (nF mDe)))] sz) (fun (u : Nat × (Nat → Nat) × (Nat → Nat) × (Nat → Nat) × Nat × (Nat → Nat) × (Nat → Nat) × (Nat → Nat) × (Nat → Nat) × (Nat → Nat)) => [(a_mod, .inr (6, [.ref a_mkind, .ref a_mwidth, .ref a_mreset, .ref a_mop, .ref a_mka, .ref a_mkb, .ref a_mkc, .ref a_mheld, .int (nI mN), .ref a_msort, .ref a_mof, .ref a_mfrom, .int (nI mMs), .ref a_mbit, .ref a_mdone, .ref a_mrests, .ref a_mxx, .ref a_myy, .ref a_mdepth, .ref a_mone, .int (nI u.1), .int (nI mCk), .int mFw, .int (nI mRd), .ref a_mbefore, .ref a_mfirst, .ref a_mturned])), (a_mwidth, .inl (cI, 14, .inl (nF mWd))), (a_mop, .inl (cI, 14, .inl mOp)), (a_mka, .inl (cI, 14, .inl mAa)), (a_mkb, .inl (cI, 14, .inl mAb)), (a_mkc, .inl (cI, 14, .inl mAc)), (a_mbit, .inl (cI, 224, .inl (nF u.2.2.2.2.2.2.2.2.2))), (a_mxx, .inl (cI, 2600, .inl (nF u.2.1))), (a_myy, .inl (cI, 2600, .inl (nF u.2.2.1))), (a_mdepth, .inl (cI, 2600, .inl (nF u.2.2.2.1)))])) (va_A [(a_mod, .inr (6, [.ref a_mkind, .ref a_mwidth, .ref a_mreset, .ref a_mop, .ref a_mka, .ref a_mkb, .ref a_mkc, .ref a_mheld, .int (nI mN), .ref a_msort, .ref a_mof, .ref a_mfrom, .int (nI mMs), .ref a_mbit, .ref a_mdone, .ref a_mrests, .ref a_mxx, .ref a_myy, .ref a_mdepth, .ref a_mone, .int (nI mG), .int (nI mCk), .int mFw, .int (nI mRd), .ref a_mbefore, .ref a_mfirst, .ref a_mturned])), (a_mwidth, .inl (cI, 14, .inl (nF mWd))), (a_mop, .inl (cI, 14, .inl mOp)), (a_mka, .inl (cI, 14, .inl mAa)), (a_mkb, .inl (cI, 14, .inl mAb)), (a_mkc, .inl (cI, 14, .inl mAc)), (a_mbit, .inl (cI, 224, .inl (nF mBi))), (a_mxx, .inl (cI, 2600, .inl (nF mX))), (a_myy, .inl (cI, 2600, .inl (nF mY))), (a_mdepth, .inl (cI, 2600, .inl (nF mDe)))] sz)) 0 0 (va_A [(a_mod, .inr (6, [.ref a_mkind, .ref a_mwidth, .ref a_mreset, .ref a_mop, .ref a_mka, .ref a_mkb, .ref a_mkc, .ref a_mheld, .int (nI mN), .ref a_msort, .ref a_mof, .ref a_mfrom, .int (nI mMs), .ref a_mbit, .ref a_mdone, .ref a_mrests, .ref a_mxx, .ref a_myy, .ref a_mdepth, .ref a_mone, .int (nI mG), .int (nI mCk), .int mFw, .int (nI mRd), .ref a_mbefore, .ref a_mfirst, .ref a_mturned])), (a_mwidth, .inl (cI, 14, .inl (nF mWd))), (a_mop, .inl (cI, 14, .inl mOp)), (a_mka, .inl (cI, 14, .inl mAa)), (a_mkb, .inl (cI, 14, .inl mAb)), (a_mkc, .inl (cI, 14, .inl mAc)), (a_mbit, .inl (cI, 224, .inl (nF mBi))), (a_mxx, .inl (cI, 2600, .inl (nF mX))), (a_myy, .inl (cI, 2600, .inl (nF mY))), (a_mdepth, .inl (cI, 2600, .inl (nF mDe)))] sz) := by
  refine Met.ofW (cc := b_Mod_node1) (maxL := 13) (ret := none) (by decide) rfl ?_
  intro p e s m args below meth c s₁ B hml hv
  obtain ⟨rfl, hsz, hP, hK, hD0, hE⟩ := hv
  have hx := B.exec
  have hb := B.bytes
  have hr := B.returns
  have hts := atoms_spec (ws := w_Mod_node1) B.pre
  have hown : s.vm.findClass R_Mod = some m.cls := findClass_of_methodNamed B.named
  have hlocks := B.notSynchronized
  subst hsz
  have hD := hD0.self (sz := s.heap.size)
  generalize hAe : va_A [(a_mod, .inr (6, [.ref a_mkind, .ref a_mwidth, .ref a_mreset, .ref a_mop, .ref a_mka, .ref a_mkb, .ref a_mkc, .ref a_mheld, .int (nI mN), .ref a_msort, .ref a_mof, .ref a_mfrom, .int (nI mMs), .ref a_mbit, .ref a_mdone, .ref a_mrests, .ref a_mxx, .ref a_myy, .ref a_mdepth, .ref a_mone, .int (nI mG), .int (nI mCk), .int mFw, .int (nI mRd), .ref a_mbefore, .ref a_mfirst, .ref a_mturned])), (a_mwidth, .inl (cI, 14, .inl (nF mWd))), (a_mop, .inl (cI, 14, .inl mOp)), (a_mka, .inl (cI, 14, .inl mAa)), (a_mkb, .inl (cI, 14, .inl mAb)), (a_mkc, .inl (cI, 14, .inl mAc)), (a_mbit, .inl (cI, 224, .inl (nF mBi))), (a_mxx, .inl (cI, 2600, .inl (nF mX))), (a_myy, .inl (cI, 2600, .inl (nF mY))), (a_mdepth, .inl (cI, 2600, .inl (nF mDe)))] s.heap.size = A at hD hE ⊢
  have hA : ∀ q : Nat, s.heap.size ≤ q → A q := fun q h => by rw [← hAe]; exact Or.inr h
  have hS : va_S A s.heap s.heap [] := va_S.rf
  have hP : va_P (dC, dI) classes [(a_mod, .inr (6, [.ref a_mkind, .ref a_mwidth, .ref a_mreset, .ref a_mop, .ref a_mka, .ref a_mkb, .ref a_mkc, .ref a_mheld, .int (nI mN), .ref a_msort, .ref a_mof, .ref a_mfrom, .int (nI mMs), .ref a_mbit, .ref a_mdone, .ref a_mrests, .ref a_mxx, .ref a_myy, .ref a_mdepth, .ref a_mone, .int (nI mG), .int (nI mCk), .int mFw, .int (nI mRd), .ref a_mbefore, .ref a_mfirst, .ref a_mturned])), (a_mwidth, .inl (cI, 14, .inl (nF mWd))), (a_mop, .inl (cI, 14, .inl mOp)), (a_mka, .inl (cI, 14, .inl mAa)), (a_mkb, .inl (cI, 14, .inl mAb)), (a_mkc, .inl (cI, 14, .inl mAc)), (a_mbit, .inl (cI, 224, .inl (nF mBi))), (a_mxx, .inl (cI, 2600, .inl (nF mX))), (a_myy, .inl (cI, 2600, .inl (nF mY))), (a_mdepth, .inl (cI, 2600, .inl (nF mDe)))] s.heap := hP
  have hl := lv_entry ([.ref a_mod, .int (nI S)]) (n := 13) (Nat.le_of_ble_eq_true rfl)
  rw [lg_entry_eq]
  generalize (lg_sl ([.ref a_mod, .int (nI S)]) ++ List.replicate (13 - (lg_sl ([.ref a_mod, .int (nI S)])).length) Slot.unset).toArray = ls at hl ⊢
  have hl : lv_has ls 13 [(0, .ref a_mod), (1, .int (nI S))] := hl
  have eX : ix (mAa S) = X := ix_of hax (by omega)
  have eY : ix (mAb S) = Y := ix_of hay (by have := b_mWd X; omega)
  have hWs := b_mWd S
  have hWx := b_mWd X
  have hWy := b_mWd Y
  have eL : ncL mWd CB 5 (mAa S) (mAb S) (mAc S) (mWd S) = adL (CB X) (oC (CB Y) 1) 1 (max (mWd X) (mWd Y)) := by show adL (CB (ix (mAa S))) (oC (CB (ix (mAb S))) 1) 1 (max (mWd (ix (mAa S))) (mWd (ix (mAb S)))) = _; rw [eX, eY]
  have eV : ∀ j, nc mWd CB 5 (mAa S) (mAb S) (mAc S) j = sm (CB X) (oC (CB Y) 1) 1 j := fun j => by show sm (CB (ix (mAa S))) (oC (CB (ix (mAb S))) 1) 1 j = _; rw [eX, eY]
  refine lv_aload_n hx hb d_Mod_node1_0 rfl (lv_at hl 0 rfl) ?_
  refine va_get (D := (dC, dI)) (ci := 6) (v := .ref a_mop) (C := R_Mod) (T := F_Mod) (N := 27) hx hb hts (wi i_Mod) hown hK hP 0 rfl rfl 3 (by decide) (hts _ (mt 545 rfl rfl)) (fun _ h9 => h9) rfl d_Mod_node1_1 ?_
  refine lv_iload_n hx hb d_Mod_node1_4 rfl (lv_at hl 1 rfl) ?_
  refine k_rld hx hb hK hP 2 0 rfl rfl (by omega) (by decide) d_Mod_node1_5 ?_
  refine k_top (show mOp S = nI 5 from hop) ?_
  refine lv_istore_n (lv' := [(2, .int (nI 5)), (0, .ref a_mod), (1, .int (nI S))]) hx hb d_Mod_node1_6 rfl hl (by decide) rfl (fun ls hl => ?_)
  refine lv_aload_n hx hb d_Mod_node1_7 rfl (lv_at hl 1 rfl) ?_
  refine va_get (D := (dC, dI)) (ci := 6) (v := .ref a_mka) (C := R_Mod) (T := F_Mod) (N := 27) hx hb hts (wi i_Mod) hown hK hP 0 rfl rfl 4 (by decide) (hts _ (mt 546 rfl rfl)) (fun _ h9 => h9) rfl d_Mod_node1_8 ?_
  refine lv_iload_n hx hb d_Mod_node1_11 rfl (lv_at hl 2 rfl) ?_
  refine k_rld hx hb hK hP 3 0 rfl rfl (by omega) (by decide) d_Mod_node1_12 ?_
  refine k_top (show mAa S = nI X from hax) ?_
  refine lv_istore_n (lv' := [(3, .int (nI X)), (2, .int (nI 5)), (0, .ref a_mod), (1, .int (nI S))]) hx hb d_Mod_node1_13 rfl hl (by decide) rfl (fun ls hl => ?_)
  refine lv_aload_n hx hb d_Mod_node1_14 rfl (lv_at hl 2 rfl) ?_
  refine va_get (D := (dC, dI)) (ci := 6) (v := .ref a_mkb) (C := R_Mod) (T := F_Mod) (N := 27) hx hb hts (wi i_Mod) hown hK hP 0 rfl rfl 5 (by decide) (hts _ (mt 547 rfl rfl)) (fun _ h9 => h9) rfl d_Mod_node1_15 ?_
  refine lv_iload_n hx hb d_Mod_node1_18 rfl (lv_at hl 3 rfl) ?_
  refine k_rld hx hb hK hP 4 0 rfl rfl (by omega) (by decide) d_Mod_node1_19 ?_
  refine k_top (show mAb S = nI Y from hay) ?_
  refine lv_istore (lv' := [(4, .int (nI Y)), (3, .int (nI X)), (2, .int (nI 5)), (0, .ref a_mod), (1, .int (nI S))]) hx hb d_Mod_node1_20 hl (by decide) rfl (fun ls hl => ?_)
  refine lv_iload_n hx hb d_Mod_node1_22 rfl (lv_at hl 2 rfl) ?_
  refine lv_bipush (v := nI 6) hx hb d_Mod_node1_23 rfl ?_
  refine lv_icmp_eq (tgt := 34) hx hb d_Mod_node1_25 (by decide) (fun c25 => ?_) (fun c25 => ?_)
  · skip
    have c25 : 5 = 6 := (nI_eq (by omega) (by omega)).mp c25
    omega
  · skip
    have c25 : ¬ (5 = 6) := fun h => c25 ((nI_eq (by omega) (by omega)).mpr h)
    refine lv_iload_n hx hb d_Mod_node1_28 rfl (lv_at hl 2 rfl) ?_
    refine lv_bipush (v := nI 7) hx hb d_Mod_node1_29 rfl ?_
    refine lv_icmp_ne (tgt := 53) hx hb d_Mod_node1_31 (by decide) (fun c31 => ?_) (fun c31 => ?_)
    · skip
      have c31 : ¬ (5 = 7) := fun h => c31 ((nI_eq (by omega) (by omega)).mpr h)
      refine lv_aload_n hx hb d_Mod_node1_53 rfl (lv_at hl 3 rfl) ?_
      refine va_get (D := (dC, dI)) (ci := 6) (v := .ref a_mwidth) (C := R_Mod) (T := F_Mod) (N := 27) hx hb hts (wi i_Mod) hown hK hP 0 rfl rfl 1 (by decide) (hts _ (mt 543 rfl rfl)) (fun _ h9 => h9) rfl d_Mod_node1_54 ?_
      refine lv_iload_n hx hb d_Mod_node1_57 rfl (lv_at hl 4 rfl) ?_
      refine k_ild hx hb hK hP 1 0 rfl rfl (by omega) (by decide) d_Mod_node1_58 ?_
      have hb_1 := b_mWd S
      refine lv_istore (lv' := [(5, .int (nI (mWd S))), (4, .int (nI Y)), (3, .int (nI X)), (2, .int (nI 5)), (0, .ref a_mod), (1, .int (nI S))]) hx hb d_Mod_node1_59 hl (by decide) rfl (fun ls hl => ?_)
      refine lv_iload_n hx hb d_Mod_node1_61 rfl (lv_at hl 3 rfl) ?_
      refine lv_iconst (v := nI 5) hx hb d_Mod_node1_62 rfl ?_
      refine lv_icmp_eq (tgt := 72) hx hb d_Mod_node1_63 (by decide) (fun c63 => ?_) (fun c63 => ?_)
      · skip
        have c63 : 5 = 5 := (nI_eq (by omega) (by omega)).mp c63
        refine lv_iconst (v := nI 1) hx hb d_Mod_node1_72 rfl ?_
        refine lv_goto (tgt := 77) hx hb d_Mod_node1_73 (by decide) ?_
        refine lv_istore (lv' := [(6, .int (nI 1)), (5, .int (nI (mWd S))), (4, .int (nI Y)), (3, .int (nI X)), (2, .int (nI 5)), (0, .ref a_mod), (1, .int (nI S))]) hx hb d_Mod_node1_77 hl (by decide) rfl (fun ls hl => ?_)
        refine lv_iconst (v := nI 1) hx hb d_Mod_node1_79 rfl ?_
        refine lv_istore (lv' := [(7, .int (nI 1)), (6, .int (nI 1)), (5, .int (nI (mWd S))), (4, .int (nI Y)), (3, .int (nI X)), (2, .int (nI 5)), (0, .ref a_mod), (1, .int (nI S))]) hx hb d_Mod_node1_80 hl (by decide) rfl (fun ls hl => ?_)
        refine lv_iconst (v := nI 0) hx hb d_Mod_node1_82 rfl ?_
        refine lv_istore (lv' := [(8, .int (nI 0)), (7, .int (nI 1)), (6, .int (nI 1)), (5, .int (nI (mWd S))), (4, .int (nI Y)), (3, .int (nI X)), (2, .int (nI 5)), (0, .ref a_mod), (1, .int (nI S))]) hx hb d_Mod_node1_83 hl (by decide) rfl (fun ls hl => ?_)
        have hI_2 : (mG ≤ 1280) ∧ (∀ j, mX j < 2786) ∧ (∀ j, mY j < 2786) ∧ (∀ j, mDe j < 1400) ∧ (∀ j, mBi j < 2786) ∧ (NJ mG gd P Dp Sl T) ∧ (MXY mG mX mY mDe P Dp) ∧ (AL K T mG) ∧ (ST T mG T mG (adL (CB X) (oC (CB Y) 1) 1 (0))) ∧ (OKc T mG 1 (ca (CB X) (oC (CB Y) 1) 1 (0))) ∧ (Out mBi mBi S) ∧ (∀ j, j < 0 → OKc T mG (mBi (8 * S + j)) (sm (CB X) (oC (CB Y) 1) 1 j)) ∧ (0 ≤ mWd S) := ⟨(by omega), b_mX, b_mY, b_mDe, b_mBi, hN, hXY, hAL, (ST_rf rfl), ⟨by omega, LT_1 hN.1⟩, (Out_rf mBi S), (fun j h => absurd h (by omega)), (by omega)⟩
        refine k_loop (σ := Nat × Nat × Nat × (Nat → Nat) × (Nat → Nat) × (Nat → Nat) × Nat × (Nat → Nat) × (Nat → Nat) × (Nat → Nat) × (Nat → Nat) × (Nat → Nat)) (D := (dC, dI)) (cl := classes) (A := A) (H0 := s.heap) (fun x => [(a_mod, .inr (6, [.ref a_mkind, .ref a_mwidth, .ref a_mreset, .ref a_mop, .ref a_mka, .ref a_mkb, .ref a_mkc, .ref a_mheld, .int (nI mN), .ref a_msort, .ref a_mof, .ref a_mfrom, .int (nI mMs), .ref a_mbit, .ref a_mdone, .ref a_mrests, .ref a_mxx, .ref a_myy, .ref a_mdepth, .ref a_mone, .int (nI x.2.2.1), .int (nI mCk), .int mFw, .int (nI mRd), .ref a_mbefore, .ref a_mfirst, .ref a_mturned])), (a_mwidth, .inl (cI, 14, .inl (nF mWd))), (a_mop, .inl (cI, 14, .inl mOp)), (a_mka, .inl (cI, 14, .inl mAa)), (a_mkb, .inl (cI, 14, .inl mAb)), (a_mkc, .inl (cI, 14, .inl mAc)), (a_mbit, .inl (cI, 224, .inl (nF x.2.2.2.2.2.2.2.2.2.2.2))), (a_mxx, .inl (cI, 2600, .inl (nF x.2.2.2.1))), (a_myy, .inl (cI, 2600, .inl (nF x.2.2.2.2.1))), (a_mdepth, .inl (cI, 2600, .inl (nF x.2.2.2.2.2.1)))]) (fun x => [(8, .int (nI x.1)), (7, .int (nI 1)), (6, .int (nI x.2.1)), (5, .int (nI (mWd S))), (4, .int (nI Y)), (3, .int (nI X)), (2, .int (nI 5)), (0, .ref a_mod), (1, .int (nI S))]) (fun x => (x.2.2.1 ≤ 1280) ∧ (∀ j, x.2.2.2.1 j < 2786) ∧ (∀ j, x.2.2.2.2.1 j < 2786) ∧ (∀ j, x.2.2.2.2.2.1 j < 1400) ∧ (∀ j, x.2.2.2.2.2.2.2.2.2.2.2 j < 2786) ∧ (NJ x.2.2.1 x.2.2.2.2.2.2.1 x.2.2.2.2.2.2.2.1 x.2.2.2.2.2.2.2.2.1 x.2.2.2.2.2.2.2.2.2.1 x.2.2.2.2.2.2.2.2.2.2.1) ∧ (MXY x.2.2.1 x.2.2.2.1 x.2.2.2.2.1 x.2.2.2.2.2.1 x.2.2.2.2.2.2.2.1 x.2.2.2.2.2.2.2.2.1) ∧ (AL K x.2.2.2.2.2.2.2.2.2.2.1 x.2.2.1) ∧ (ST T mG x.2.2.2.2.2.2.2.2.2.2.1 x.2.2.1 (adL (CB X) (oC (CB Y) 1) 1 (x.1))) ∧ (OKc x.2.2.2.2.2.2.2.2.2.2.1 x.2.2.1 x.2.1 (ca (CB X) (oC (CB Y) 1) 1 (x.1))) ∧ (Out mBi x.2.2.2.2.2.2.2.2.2.2.2 S) ∧ (∀ j, j < x.1 → OKc x.2.2.2.2.2.2.2.2.2.2.1 x.2.2.1 (x.2.2.2.2.2.2.2.2.2.2.2 (8 * S + j)) (sm (CB X) (oC (CB Y) 1) 1 j)) ∧ (x.1 ≤ mWd S)) (fun x => mWd S - x.1) ?_ (0, 1, mG, mX, mY, mDe, gd, P, Dp, Sl, T, mBi) hI_2 hP hD hS (lv_sub hl [0, 1, 2, 3, 4, 5, 6, 7, 8] rfl)
        rintro ⟨b, cr, mG1, mX1, mY1, mDe1, gd1, P1, Dp1, Sl1, T1, B1⟩ hI ih_3 H locs ls hP hD hS hl
        obtain ⟨b_mG1, b_mX1, b_mY1, b_mDe1, b_B1, hN1, hXY1, hAL1, hst1, hcr, hO1, hB1, hbw⟩ : (mG1 ≤ 1280) ∧ (∀ j, mX1 j < 2786) ∧ (∀ j, mY1 j < 2786) ∧ (∀ j, mDe1 j < 1400) ∧ (∀ j, B1 j < 2786) ∧ (NJ mG1 gd1 P1 Dp1 Sl1 T1) ∧ (MXY mG1 mX1 mY1 mDe1 P1 Dp1) ∧ (AL K T1 mG1) ∧ (ST T mG T1 mG1 (adL (CB X) (oC (CB Y) 1) 1 (b))) ∧ (OKc T1 mG1 cr (ca (CB X) (oC (CB Y) 1) 1 (b))) ∧ (Out mBi B1 S) ∧ (∀ j, j < b → OKc T1 mG1 (B1 (8 * S + j)) (sm (CB X) (oC (CB Y) 1) 1 j)) ∧ (b ≤ mWd S) := hI
        have hP : va_P (dC, dI) classes [(a_mod, .inr (6, [.ref a_mkind, .ref a_mwidth, .ref a_mreset, .ref a_mop, .ref a_mka, .ref a_mkb, .ref a_mkc, .ref a_mheld, .int (nI mN), .ref a_msort, .ref a_mof, .ref a_mfrom, .int (nI mMs), .ref a_mbit, .ref a_mdone, .ref a_mrests, .ref a_mxx, .ref a_myy, .ref a_mdepth, .ref a_mone, .int (nI mG1), .int (nI mCk), .int mFw, .int (nI mRd), .ref a_mbefore, .ref a_mfirst, .ref a_mturned])), (a_mwidth, .inl (cI, 14, .inl (nF mWd))), (a_mop, .inl (cI, 14, .inl mOp)), (a_mka, .inl (cI, 14, .inl mAa)), (a_mkb, .inl (cI, 14, .inl mAb)), (a_mkc, .inl (cI, 14, .inl mAc)), (a_mbit, .inl (cI, 224, .inl (nF B1))), (a_mxx, .inl (cI, 2600, .inl (nF mX1))), (a_myy, .inl (cI, 2600, .inl (nF mY1))), (a_mdepth, .inl (cI, 2600, .inl (nF mDe1)))] H := hP
        have hD : va_D A [(a_mod, .inr (6, [.ref a_mkind, .ref a_mwidth, .ref a_mreset, .ref a_mop, .ref a_mka, .ref a_mkb, .ref a_mkc, .ref a_mheld, .int (nI mN), .ref a_msort, .ref a_mof, .ref a_mfrom, .int (nI mMs), .ref a_mbit, .ref a_mdone, .ref a_mrests, .ref a_mxx, .ref a_myy, .ref a_mdepth, .ref a_mone, .int (nI mG1), .int (nI mCk), .int mFw, .int (nI mRd), .ref a_mbefore, .ref a_mfirst, .ref a_mturned])), (a_mwidth, .inl (cI, 14, .inl (nF mWd))), (a_mop, .inl (cI, 14, .inl mOp)), (a_mka, .inl (cI, 14, .inl mAa)), (a_mkb, .inl (cI, 14, .inl mAb)), (a_mkc, .inl (cI, 14, .inl mAc)), (a_mbit, .inl (cI, 224, .inl (nF B1))), (a_mxx, .inl (cI, 2600, .inl (nF mX1))), (a_myy, .inl (cI, 2600, .inl (nF mY1))), (a_mdepth, .inl (cI, 2600, .inl (nF mDe1)))] := hD
        have hl : lv_has ls 13 [(8, .int (nI b)), (7, .int (nI 1)), (6, .int (nI cr)), (5, .int (nI (mWd S))), (4, .int (nI Y)), (3, .int (nI X)), (2, .int (nI 5)), (0, .ref a_mod), (1, .int (nI S))] := hl
        refine lv_iload hx hb d_Mod_node1_85 (lv_at hl 0 rfl) ?_
        refine lv_iload hx hb d_Mod_node1_87 (lv_at hl 3 rfl) ?_
        refine lv_icmp_ge (tgt := 498) hx hb d_Mod_node1_89 (by decide) (fun c89 => ?_) (fun c89 => ?_)
        · skip
          have c89 : (mWd S) ≤ b := (nI_leI (by omega) (by omega)).mp c89
          refine lv_iload_n hx hb d_Mod_node1_498 rfl (lv_at hl 6 rfl) ?_
          refine lv_bipush (v := nI 6) hx hb d_Mod_node1_499 rfl ?_
          refine lv_icmp_ne (tgt := 515) hx hb d_Mod_node1_501 (by decide) (fun c501 => ?_) (fun c501 => ?_)
          · skip
            have c501 : ¬ (5 = 6) := fun h => c501 ((nI_eq (by omega) (by omega)).mpr h)
            refine lv_iload_n hx hb d_Mod_node1_515 rfl (lv_at hl 6 rfl) ?_
            refine lv_bipush (v := nI 7) hx hb d_Mod_node1_516 rfl ?_
            refine lv_icmp_ne (tgt := 534) hx hb d_Mod_node1_518 (by decide) (fun c518 => ?_) (fun c518 => ?_)
            · skip
              have c518 : ¬ (5 = 7) := fun h => c518 ((nI_eq (by omega) (by omega)).mpr h)
              exact W.vret hx hb hr (fun t ht hW => ⟨⟨(mG1, mX1, mY1, mDe1, gd1, P1, Dp1, Sl1, T1, B1), rfl, ⟨(show mG1 ≤ 1280 from by omega), b_mX1, b_mY1, b_mDe1, b_B1, (show NJ mG1 gd1 P1 Dp1 Sl1 T1 from hN1), (show MXY mG1 mX1 mY1 mDe1 P1 Dp1 from hXY1), (show AL K T1 mG1 from hAL1), (show ST T mG T1 mG1 (ncL mWd CB 5 (mAa S) (mAb S) (mAc S) (mWd S)) from by rw [eL, show max (mWd X) (mWd Y) = b by omega]; exact hst1), (show Out mBi B1 S from hO1), (show ∀ j, j < mWd S → OKc T1 mG1 (B1 (8 * S + j)) (nc mWd CB 5 (mAa S) (mAb S) (mAc S) j) from fun j hj => by rw [eV]; exact hB1 j (by omega))⟩, by rw [ht]; exact hP, va_K.moved hW.alike hK, hD⟩, hS.F ht⟩) hS.2.2 d_Mod_node1_534
            · skip
              have c518 : 5 = 7 := (nI_eq (by omega) (by omega)).mp c518
              omega
          · skip
            have c501 : 5 = 6 := (nI_eq (by omega) (by omega)).mp c501
            omega
        · skip
          have c89 : ¬ ((mWd S) ≤ b) := fun h => c89 ((nI_leI (by omega) (by omega)).mpr h)
          refine lv_iload_n hx hb d_Mod_node1_92 rfl (lv_at hl 6 rfl) ?_
          refine lv_bipush (v := nI 11) hx hb d_Mod_node1_93 rfl ?_
          refine lv_icmp_ne (tgt := 107) hx hb d_Mod_node1_95 (by decide) (fun c95 => ?_) (fun c95 => ?_)
          · skip
            have c95 : ¬ (5 = 11) := fun h => c95 ((nI_eq (by omega) (by omega)).mpr h)
            refine lv_iconst (v := nI 0) hx hb d_Mod_node1_107 rfl ?_
            refine lv_istore (lv' := [(9, .int (nI 0)), (8, .int (nI b)), (7, .int (nI 1)), (6, .int (nI cr)), (5, .int (nI (mWd S))), (4, .int (nI Y)), (3, .int (nI X)), (2, .int (nI 5)), (0, .ref a_mod), (1, .int (nI S))]) hx hb d_Mod_node1_108 hl (by decide) rfl (fun ls hl => ?_)
            refine lv_iload_n hx hb d_Mod_node1_110 rfl (lv_at hl 7 rfl) ?_
            refine lv_if_ne (tgt := 130) hx hb d_Mod_node1_111 (by decide) (fun c111 => ?_) (fun c111 => ?_)
            · skip
              have c111 : ¬ (5 = 0) := fun h => c111 ((nI_eq0 (by omega)).mpr h)
              refine lv_iload_n hx hb d_Mod_node1_130 rfl (lv_at hl 7 rfl) ?_
              refine lv_iconst (v := nI 1) hx hb d_Mod_node1_131 rfl ?_
              refine lv_icmp_ne (tgt := 156) hx hb d_Mod_node1_132 (by decide) (fun c132 => ?_) (fun c132 => ?_)
              · skip
                have c132 : ¬ (5 = 1) := fun h => c132 ((nI_eq (by omega) (by omega)).mpr h)
                refine lv_iload_n hx hb d_Mod_node1_156 rfl (lv_at hl 7 rfl) ?_
                refine lv_iconst (v := nI 2) hx hb d_Mod_node1_157 rfl ?_
                refine lv_icmp_ne (tgt := 182) hx hb d_Mod_node1_158 (by decide) (fun c158 => ?_) (fun c158 => ?_)
                · skip
                  have c158 : ¬ (5 = 2) := fun h => c158 ((nI_eq (by omega) (by omega)).mpr h)
                  refine lv_iload_n hx hb d_Mod_node1_182 rfl (lv_at hl 7 rfl) ?_
                  refine lv_iconst (v := nI 3) hx hb d_Mod_node1_183 rfl ?_
                  refine lv_icmp_ne (tgt := 208) hx hb d_Mod_node1_184 (by decide) (fun c184 => ?_) (fun c184 => ?_)
                  · skip
                    have c184 : ¬ (5 = 3) := fun h => c184 ((nI_eq (by omega) (by omega)).mpr h)
                    refine lv_iload_n hx hb d_Mod_node1_208 rfl (lv_at hl 7 rfl) ?_
                    refine lv_iconst (v := nI 4) hx hb d_Mod_node1_209 rfl ?_
                    refine lv_icmp_ne (tgt := 226) hx hb d_Mod_node1_210 (by decide) (fun c210 => ?_) (fun c210 => ?_)
                    · skip
                      have c210 : ¬ (5 = 4) := fun h => c210 ((nI_eq (by omega) (by omega)).mpr h)
                      refine lv_iload_n hx hb d_Mod_node1_226 rfl (lv_at hl 7 rfl) ?_
                      refine lv_iconst (v := nI 4) hx hb d_Mod_node1_227 rfl ?_
                      refine lv_icmp_ne (tgt := 240) hx hb d_Mod_node1_228 (by decide) (fun c228 => ?_) (fun c228 => ?_)
                      · skip
                        have c228 : ¬ (5 = 4) := fun h => c228 ((nI_eq (by omega) (by omega)).mpr h)
                        refine lv_iload_n hx hb d_Mod_node1_240 rfl (lv_at hl 7 rfl) ?_
                        refine lv_iconst (v := nI 5) hx hb d_Mod_node1_241 rfl ?_
                        refine lv_icmp_eq (tgt := 251) hx hb d_Mod_node1_242 (by decide) (fun c242 => ?_) (fun c242 => ?_)
                        · skip
                          have c242 : 5 = 5 := (nI_eq (by omega) (by omega)).mp c242
                          have hx7 := OK_out (hx1.2.2 b) hst1 hO1 b_mWd hx1.2.1
                          have hx7b := hx7.1
                          have hy8 := OK_out (hy1.2.2 b) hst1 hO1 b_mWd hy1.2.1
                          have hy8b := hy8.1
                          have hcrb := hcr.1
                          refine lv_aload_n hx hb d_Mod_node1_251 rfl (lv_at hl 8 rfl) ?_
                          refine lv_iload_n hx hb d_Mod_node1_252 rfl (lv_at hl 6 rfl) ?_
                          refine lv_iload hx hb d_Mod_node1_253 (lv_at hl 1 rfl) ?_
                          refine k_i (wr := [(a_mop, .inl (cI, 14, .inl mOp)), (a_mka, .inl (cI, 14, .inl mAa)), (a_mkb, .inl (cI, 14, .inl mAb)), (a_mkc, .inl (cI, 14, .inl mAc)), (a_mxx, .inl (cI, 2600, .inl (nF mX1))), (a_myy, .inl (cI, 2600, .inl (nF mY1))), (a_mdepth, .inl (cI, 2600, .inl (nF mDe1)))]) (w2 := fun (u : Unit) => [(a_mod, .inr (6, [.ref a_mkind, .ref a_mwidth, .ref a_mreset, .ref a_mop, .ref a_mka, .ref a_mkb, .ref a_mkc, .ref a_mheld, .int (nI mN), .ref a_msort, .ref a_mof, .ref a_mfrom, .int (nI mMs), .ref a_mbit, .ref a_mdone, .ref a_mrests, .ref a_mxx, .ref a_myy, .ref a_mdepth, .ref a_mone, .int (nI mG1), .int (nI mCk), .int mFw, .int (nI mRd), .ref a_mbefore, .ref a_mfirst, .ref a_mturned])), (a_mwidth, .inl (cI, 14, .inl (nF mWd))), (a_mop, .inl (cI, 14, .inl mOp)), (a_mka, .inl (cI, 14, .inl mAa)), (a_mkb, .inl (cI, 14, .inl mAb)), (a_mkc, .inl (cI, 14, .inl mAc)), (a_mbit, .inl (cI, 224, .inl (nF B1))), (a_mxx, .inl (cI, 2600, .inl (nF mX1))), (a_myy, .inl (cI, 2600, .inl (nF mY1))), (a_mdepth, .inl (cI, 2600, .inl (nF mDe1)))]) (va_runV (As := [.int (nI X), .int (nI b)]) (rest := []) ⟨hx, hb, hml, hown, hts⟩ (c_Mod_bitOf l dC dI cI cZ a_mod a_mkind a_mwidth a_mreset a_mop a_mka a_mkb a_mkc a_mheld a_msort a_mof a_mfrom a_mbit a_mdone a_mrests a_mxx a_myy a_mdepth a_mone a_mbefore a_mfirst a_mturned tt H.size mN mMs mG1 mCk mFw mRd mWd B1 X b (by omega) (by omega) (by omega) (by omega) b_mWd b_B1 (by omega) (by omega)) (cwV 2 hts (gd_V in_tl (mw 690 rfl rfl) (mw 692 rfl rfl) (mw 29 rfl rfl) (mw 47 rfl rfl) (mw 693 rfl rfl)) rfl rfl rfl (by decide +kernel) ⟨Nat.le_of_ble_eq_true rfl, Nat.le_of_ble_eq_true rfl⟩) (k_preV hK hP hD hS hA hE [0, 1, 6] (by decide) rfl 6 0 rfl rfl) rfl rfl hl.1 rfl (lv_room (Nat.le_of_ble_eq_true rfl)) d_Mod_node1_255 ⟨Nat.zero_le _, Nat.zero_le _⟩) hP hD hS hA [0, 1, 6] [2, 3, 4, 5, 7, 8, 9] [7, 8, 0, 1, 2, 3, 9, 4, 5, 6] rfl rfl (by decide) (by decide) (by decide) (fun _ => rfl) (fun r_4 u H locs hw hP hD hS => ?_)
                          obtain rfl : (r_4 = nI (lit B1 mWd X b)) := hw
                          have hP : va_P (dC, dI) classes [(a_mod, .inr (6, [.ref a_mkind, .ref a_mwidth, .ref a_mreset, .ref a_mop, .ref a_mka, .ref a_mkb, .ref a_mkc, .ref a_mheld, .int (nI mN), .ref a_msort, .ref a_mof, .ref a_mfrom, .int (nI mMs), .ref a_mbit, .ref a_mdone, .ref a_mrests, .ref a_mxx, .ref a_myy, .ref a_mdepth, .ref a_mone, .int (nI mG1), .int (nI mCk), .int mFw, .int (nI mRd), .ref a_mbefore, .ref a_mfirst, .ref a_mturned])), (a_mwidth, .inl (cI, 14, .inl (nF mWd))), (a_mop, .inl (cI, 14, .inl mOp)), (a_mka, .inl (cI, 14, .inl mAa)), (a_mkb, .inl (cI, 14, .inl mAb)), (a_mkc, .inl (cI, 14, .inl mAc)), (a_mbit, .inl (cI, 224, .inl (nF B1))), (a_mxx, .inl (cI, 2600, .inl (nF mX1))), (a_myy, .inl (cI, 2600, .inl (nF mY1))), (a_mdepth, .inl (cI, 2600, .inl (nF mDe1)))] H := hP
                          have hD : va_D A [(a_mod, .inr (6, [.ref a_mkind, .ref a_mwidth, .ref a_mreset, .ref a_mop, .ref a_mka, .ref a_mkb, .ref a_mkc, .ref a_mheld, .int (nI mN), .ref a_msort, .ref a_mof, .ref a_mfrom, .int (nI mMs), .ref a_mbit, .ref a_mdone, .ref a_mrests, .ref a_mxx, .ref a_myy, .ref a_mdepth, .ref a_mone, .int (nI mG1), .int (nI mCk), .int mFw, .int (nI mRd), .ref a_mbefore, .ref a_mfirst, .ref a_mturned])), (a_mwidth, .inl (cI, 14, .inl (nF mWd))), (a_mop, .inl (cI, 14, .inl mOp)), (a_mka, .inl (cI, 14, .inl mAa)), (a_mkb, .inl (cI, 14, .inl mAb)), (a_mkc, .inl (cI, 14, .inl mAc)), (a_mbit, .inl (cI, 224, .inl (nF B1))), (a_mxx, .inl (cI, 2600, .inl (nF mX1))), (a_myy, .inl (cI, 2600, .inl (nF mY1))), (a_mdepth, .inl (cI, 2600, .inl (nF mDe1)))] := hD
                          refine lv_istore (lv' := [(10, .int (nI (lit B1 mWd X b))), (9, .int (nI 0)), (8, .int (nI b)), (7, .int (nI 1)), (6, .int (nI cr)), (5, .int (nI (mWd S))), (4, .int (nI Y)), (3, .int (nI X)), (2, .int (nI 5)), (0, .ref a_mod), (1, .int (nI S))]) hx hb d_Mod_node1_258 hl (by decide) rfl (fun ls hl => ?_)
                          refine lv_aload_n hx hb d_Mod_node1_260 rfl (lv_at hl 9 rfl) ?_
                          refine lv_iload hx hb d_Mod_node1_261 (lv_at hl 6 rfl) ?_
                          refine lv_iload hx hb d_Mod_node1_263 (lv_at hl 2 rfl) ?_
                          refine k_i (wr := [(a_mop, .inl (cI, 14, .inl mOp)), (a_mka, .inl (cI, 14, .inl mAa)), (a_mkb, .inl (cI, 14, .inl mAb)), (a_mkc, .inl (cI, 14, .inl mAc)), (a_mxx, .inl (cI, 2600, .inl (nF mX1))), (a_myy, .inl (cI, 2600, .inl (nF mY1))), (a_mdepth, .inl (cI, 2600, .inl (nF mDe1)))]) (w2 := fun (u : Unit) => [(a_mod, .inr (6, [.ref a_mkind, .ref a_mwidth, .ref a_mreset, .ref a_mop, .ref a_mka, .ref a_mkb, .ref a_mkc, .ref a_mheld, .int (nI mN), .ref a_msort, .ref a_mof, .ref a_mfrom, .int (nI mMs), .ref a_mbit, .ref a_mdone, .ref a_mrests, .ref a_mxx, .ref a_myy, .ref a_mdepth, .ref a_mone, .int (nI mG1), .int (nI mCk), .int mFw, .int (nI mRd), .ref a_mbefore, .ref a_mfirst, .ref a_mturned])), (a_mwidth, .inl (cI, 14, .inl (nF mWd))), (a_mop, .inl (cI, 14, .inl mOp)), (a_mka, .inl (cI, 14, .inl mAa)), (a_mkb, .inl (cI, 14, .inl mAb)), (a_mkc, .inl (cI, 14, .inl mAc)), (a_mbit, .inl (cI, 224, .inl (nF B1))), (a_mxx, .inl (cI, 2600, .inl (nF mX1))), (a_myy, .inl (cI, 2600, .inl (nF mY1))), (a_mdepth, .inl (cI, 2600, .inl (nF mDe1)))]) (va_runV (As := [.int (nI Y), .int (nI b)]) (rest := []) ⟨hx, hb, hml, hown, hts⟩ (c_Mod_bitOf l dC dI cI cZ a_mod a_mkind a_mwidth a_mreset a_mop a_mka a_mkb a_mkc a_mheld a_msort a_mof a_mfrom a_mbit a_mdone a_mrests a_mxx a_myy a_mdepth a_mone a_mbefore a_mfirst a_mturned tt H.size mN mMs mG1 mCk mFw mRd mWd B1 Y b (by omega) (by omega) (by omega) (by omega) b_mWd b_B1 (by omega) (by omega)) (cwV 2 hts (gd_V in_tl (mw 690 rfl rfl) (mw 692 rfl rfl) (mw 29 rfl rfl) (mw 47 rfl rfl) (mw 693 rfl rfl)) rfl rfl rfl (by decide +kernel) ⟨Nat.le_of_ble_eq_true rfl, Nat.le_of_ble_eq_true rfl⟩) (k_preV hK hP hD hS hA hE [0, 1, 6] (by decide) rfl 6 0 rfl rfl) rfl rfl hl.1 rfl (lv_room (Nat.le_of_ble_eq_true rfl)) d_Mod_node1_265 ⟨Nat.zero_le _, Nat.zero_le _⟩) hP hD hS hA [0, 1, 6] [2, 3, 4, 5, 7, 8, 9] [7, 8, 0, 1, 2, 3, 9, 4, 5, 6] rfl rfl (by decide) (by decide) (by decide) (fun _ => rfl) (fun r_5 u H locs hw hP hD hS => ?_)
                          obtain rfl : (r_5 = nI (lit B1 mWd Y b)) := hw
                          have hP : va_P (dC, dI) classes [(a_mod, .inr (6, [.ref a_mkind, .ref a_mwidth, .ref a_mreset, .ref a_mop, .ref a_mka, .ref a_mkb, .ref a_mkc, .ref a_mheld, .int (nI mN), .ref a_msort, .ref a_mof, .ref a_mfrom, .int (nI mMs), .ref a_mbit, .ref a_mdone, .ref a_mrests, .ref a_mxx, .ref a_myy, .ref a_mdepth, .ref a_mone, .int (nI mG1), .int (nI mCk), .int mFw, .int (nI mRd), .ref a_mbefore, .ref a_mfirst, .ref a_mturned])), (a_mwidth, .inl (cI, 14, .inl (nF mWd))), (a_mop, .inl (cI, 14, .inl mOp)), (a_mka, .inl (cI, 14, .inl mAa)), (a_mkb, .inl (cI, 14, .inl mAb)), (a_mkc, .inl (cI, 14, .inl mAc)), (a_mbit, .inl (cI, 224, .inl (nF B1))), (a_mxx, .inl (cI, 2600, .inl (nF mX1))), (a_myy, .inl (cI, 2600, .inl (nF mY1))), (a_mdepth, .inl (cI, 2600, .inl (nF mDe1)))] H := hP
                          have hD : va_D A [(a_mod, .inr (6, [.ref a_mkind, .ref a_mwidth, .ref a_mreset, .ref a_mop, .ref a_mka, .ref a_mkb, .ref a_mkc, .ref a_mheld, .int (nI mN), .ref a_msort, .ref a_mof, .ref a_mfrom, .int (nI mMs), .ref a_mbit, .ref a_mdone, .ref a_mrests, .ref a_mxx, .ref a_myy, .ref a_mdepth, .ref a_mone, .int (nI mG1), .int (nI mCk), .int mFw, .int (nI mRd), .ref a_mbefore, .ref a_mfirst, .ref a_mturned])), (a_mwidth, .inl (cI, 14, .inl (nF mWd))), (a_mop, .inl (cI, 14, .inl mOp)), (a_mka, .inl (cI, 14, .inl mAa)), (a_mkb, .inl (cI, 14, .inl mAb)), (a_mkc, .inl (cI, 14, .inl mAc)), (a_mbit, .inl (cI, 224, .inl (nF B1))), (a_mxx, .inl (cI, 2600, .inl (nF mX1))), (a_myy, .inl (cI, 2600, .inl (nF mY1))), (a_mdepth, .inl (cI, 2600, .inl (nF mDe1)))] := hD
                          refine lv_iload_n hx hb d_Mod_node1_268 rfl (lv_at hl 8 rfl) ?_
                          refine lv_iconst (v := nI 4) hx hb d_Mod_node1_269 rfl ?_
                          refine lv_icmp_ne (tgt := 277) hx hb d_Mod_node1_270 (by decide) (fun c270 => ?_) (fun c270 => ?_)
                          · skip
                            have c270 : ¬ (5 = 4) := fun h => c270 ((nI_eq (by omega) (by omega)).mpr h)
                            refine lv_iconst (v := nI 1) hx hb d_Mod_node1_277 rfl ?_
                            refine lv_ixor hx hb d_Mod_node1_278 ?_
                            refine k_top ((nI_xor _ _).trans (congrArg nI (xor_1 _))) ?_
                            have hy8 : OKc T1 mG1 (op1 (lit B1 mWd Y b)) ((oC (CB Y) 1) b) := by unfold oC; rw [if_pos (by decide)]; exact OKc_op hy8
                            have hy8b := hy8.1
                            refine lv_istore (lv' := [(11, .int (nI (op1 (lit B1 mWd Y b)))), (10, .int (nI (lit B1 mWd X b))), (9, .int (nI 0)), (8, .int (nI b)), (7, .int (nI 1)), (6, .int (nI cr)), (5, .int (nI (mWd S))), (4, .int (nI Y)), (3, .int (nI X)), (2, .int (nI 5)), (0, .ref a_mod), (1, .int (nI S))]) hx hb d_Mod_node1_279 hl (by decide) rfl (fun ls hl => ?_)
                            refine lv_aload_n hx hb d_Mod_node1_281 rfl (lv_at hl 10 rfl) ?_
                            refine lv_iload hx hb d_Mod_node1_282 (lv_at hl 1 rfl) ?_
                            refine lv_iload hx hb d_Mod_node1_284 (lv_at hl 0 rfl) ?_
                            refine k_i (wr := [(a_mwidth, .inl (cI, 14, .inl (nF mWd))), (a_mop, .inl (cI, 14, .inl mOp)), (a_mka, .inl (cI, 14, .inl mAa)), (a_mkb, .inl (cI, 14, .inl mAb)), (a_mkc, .inl (cI, 14, .inl mAc)), (a_mbit, .inl (cI, 224, .inl (nF B1)))]) (w2 := fun (u : Nat × (Nat → Nat) × (Nat → Nat) × (Nat → Nat) × Nat × (Nat → Nat) × (Nat → Nat) × (Nat → Nat) × (Nat → Nat)) => [(a_mod, .inr (6, [.ref a_mkind, .ref a_mwidth, .ref a_mreset, .ref a_mop, .ref a_mka, .ref a_mkb, .ref a_mkc, .ref a_mheld, .int (nI mN), .ref a_msort, .ref a_mof, .ref a_mfrom, .int (nI mMs), .ref a_mbit, .ref a_mdone, .ref a_mrests, .ref a_mxx, .ref a_myy, .ref a_mdepth, .ref a_mone, .int (nI u.1), .int (nI mCk), .int mFw, .int (nI mRd), .ref a_mbefore, .ref a_mfirst, .ref a_mturned])), (a_mwidth, .inl (cI, 14, .inl (nF mWd))), (a_mop, .inl (cI, 14, .inl mOp)), (a_mka, .inl (cI, 14, .inl mAa)), (a_mkb, .inl (cI, 14, .inl mAb)), (a_mkc, .inl (cI, 14, .inl mAc)), (a_mbit, .inl (cI, 224, .inl (nF B1))), (a_mxx, .inl (cI, 2600, .inl (nF u.2.1))), (a_myy, .inl (cI, 2600, .inl (nF u.2.2.1))), (a_mdepth, .inl (cI, 2600, .inl (nF u.2.2.2.1)))]) (va_runV (As := [.int (nI (lit B1 mWd X b)), .int (nI (op1 (lit B1 mWd Y b)))]) (rest := []) ⟨hx, hb, hml, hown, hts⟩ (c_Mod_differ l dC dI cI cZ a_mod a_mkind a_mwidth a_mreset a_mop a_mka a_mkb a_mkc a_mheld a_msort a_mof a_mfrom a_mbit a_mdone a_mrests a_mxx a_myy a_mdepth a_mone a_mbefore a_mfirst a_mturned tt H.size mN mMs mG1 mCk mFw mRd mX1 mY1 mDe1 gd1 P1 Dp1 Sl1 T1 K (lit B1 mWd X b) (op1 (lit B1 mWd Y b)) (by omega) (by omega) (by omega) (by omega) b_mX1 b_mY1 b_mDe1 hN1 hXY1 hAL1 hx7.1 hy8.1 (by rw [hx7.2, hy8.2]; exact fun c h => hgl c (by rw [eL]; exact catL_in _ (by omega) (List.mem_append_left _ h)))) (cwV 2 hts (gd_V in_tl (mw 718 rfl rfl) (mw 720 rfl rfl) (mw 36 rfl rfl) (mw 47 rfl rfl) (mw 721 rfl rfl)) rfl rfl rfl (by decide +kernel) ⟨Nat.le_of_ble_eq_true rfl, Nat.le_of_ble_eq_true rfl⟩) (k_preV hK hP hD hS hA hE [0, 7, 8, 9] (by decide) rfl 6 0 rfl rfl) rfl rfl hl.1 rfl (lv_room (Nat.le_of_ble_eq_true rfl)) d_Mod_node1_286 ⟨Nat.zero_le _, Nat.zero_le _⟩) hP hD hS hA [0, 7, 8, 9] [1, 2, 3, 4, 5, 6] [6, 0, 1, 2, 3, 4, 5, 7, 8, 9] rfl rfl (by decide) (by decide) (by decide) (fun _ => rfl) (fun r_15 u H locs hw hP hD hS => ?_)
                            obtain ⟨mGv_6, mXv_7, mYv_8, mDev_9, gdv_10, Pv_11, Dpv_12, Slv_13, Tv_14⟩ := u
                            obtain ⟨v_16, rfl, b_mGv_6, b_mXv_7, b_mYv_8, b_mDev_9, hN_286, hXY_286, hst_286, hrl_286, hc_286, hAL_286⟩ : ∃ rv : Nat, r_15 = nI rv ∧ (mGv_6 ≤ 1280) ∧ (∀ j, mXv_7 j < 2786) ∧ (∀ j, mYv_8 j < 2786) ∧ (∀ j, mDev_9 j < 1400) ∧ (NJ mGv_6 gdv_10 Pv_11 Dpv_12 Slv_13 Tv_14) ∧ (MXY mGv_6 mXv_7 mYv_8 mDev_9 Pv_11 Dpv_12) ∧ (ST T1 mG1 Tv_14 mGv_6 (dfl (LT T1 (lit B1 mWd X b)) (LT T1 (op1 (lit B1 mWd Y b))))) ∧ (rv < 2 * (113 + mGv_6)) ∧ (LT Tv_14 rv = df (LT T1 (lit B1 mWd X b)) (LT T1 (op1 (lit B1 mWd Y b)))) ∧ (AL K Tv_14 mGv_6) := hw
                            have hP : va_P (dC, dI) classes [(a_mod, .inr (6, [.ref a_mkind, .ref a_mwidth, .ref a_mreset, .ref a_mop, .ref a_mka, .ref a_mkb, .ref a_mkc, .ref a_mheld, .int (nI mN), .ref a_msort, .ref a_mof, .ref a_mfrom, .int (nI mMs), .ref a_mbit, .ref a_mdone, .ref a_mrests, .ref a_mxx, .ref a_myy, .ref a_mdepth, .ref a_mone, .int (nI mGv_6), .int (nI mCk), .int mFw, .int (nI mRd), .ref a_mbefore, .ref a_mfirst, .ref a_mturned])), (a_mwidth, .inl (cI, 14, .inl (nF mWd))), (a_mop, .inl (cI, 14, .inl mOp)), (a_mka, .inl (cI, 14, .inl mAa)), (a_mkb, .inl (cI, 14, .inl mAb)), (a_mkc, .inl (cI, 14, .inl mAc)), (a_mbit, .inl (cI, 224, .inl (nF B1))), (a_mxx, .inl (cI, 2600, .inl (nF mXv_7))), (a_myy, .inl (cI, 2600, .inl (nF mYv_8))), (a_mdepth, .inl (cI, 2600, .inl (nF mDev_9)))] H := hP
                            have hD : va_D A [(a_mod, .inr (6, [.ref a_mkind, .ref a_mwidth, .ref a_mreset, .ref a_mop, .ref a_mka, .ref a_mkb, .ref a_mkc, .ref a_mheld, .int (nI mN), .ref a_msort, .ref a_mof, .ref a_mfrom, .int (nI mMs), .ref a_mbit, .ref a_mdone, .ref a_mrests, .ref a_mxx, .ref a_myy, .ref a_mdepth, .ref a_mone, .int (nI mGv_6), .int (nI mCk), .int mFw, .int (nI mRd), .ref a_mbefore, .ref a_mfirst, .ref a_mturned])), (a_mwidth, .inl (cI, 14, .inl (nF mWd))), (a_mop, .inl (cI, 14, .inl mOp)), (a_mka, .inl (cI, 14, .inl mAa)), (a_mkb, .inl (cI, 14, .inl mAb)), (a_mkc, .inl (cI, 14, .inl mAc)), (a_mbit, .inl (cI, 224, .inl (nF B1))), (a_mxx, .inl (cI, 2600, .inl (nF mXv_7))), (a_myy, .inl (cI, 2600, .inl (nF mYv_8))), (a_mdepth, .inl (cI, 2600, .inl (nF mDev_9)))] := hD
                            rw [hx7.2, hy8.2] at hst_286 hc_286
                            have hh := And.intro hrl_286 hc_286
                            have hx7 := OKc_st hx7 hst_286
                            have hy8 := OKc_st hy8 hst_286
                            have hcr := OKc_st hcr hst_286
                            have hhb := hh.1
                            have hcb := hcr.1
                            have hx7b := hx7.1
                            have hy8b := hy8.1
                            refine lv_istore (lv' := [(12, .int (nI v_16)), (11, .int (nI (op1 (lit B1 mWd Y b)))), (10, .int (nI (lit B1 mWd X b))), (9, .int (nI 0)), (8, .int (nI b)), (7, .int (nI 1)), (6, .int (nI cr)), (5, .int (nI (mWd S))), (4, .int (nI Y)), (3, .int (nI X)), (2, .int (nI 5)), (0, .ref a_mod), (1, .int (nI S))]) hx hb d_Mod_node1_289 hl (by decide) rfl (fun ls hl => ?_)
                            refine lv_aload_n hx hb d_Mod_node1_291 rfl (lv_at hl 11 rfl) ?_
                            refine lv_iload hx hb d_Mod_node1_292 (lv_at hl 0 rfl) ?_
                            refine lv_iload hx hb d_Mod_node1_294 (lv_at hl 6 rfl) ?_
                            refine k_i (wr := [(a_mwidth, .inl (cI, 14, .inl (nF mWd))), (a_mop, .inl (cI, 14, .inl mOp)), (a_mka, .inl (cI, 14, .inl mAa)), (a_mkb, .inl (cI, 14, .inl mAb)), (a_mkc, .inl (cI, 14, .inl mAc)), (a_mbit, .inl (cI, 224, .inl (nF B1)))]) (w2 := fun (u : Nat × (Nat → Nat) × (Nat → Nat) × (Nat → Nat) × Nat × (Nat → Nat) × (Nat → Nat) × (Nat → Nat) × (Nat → Nat)) => [(a_mod, .inr (6, [.ref a_mkind, .ref a_mwidth, .ref a_mreset, .ref a_mop, .ref a_mka, .ref a_mkb, .ref a_mkc, .ref a_mheld, .int (nI mN), .ref a_msort, .ref a_mof, .ref a_mfrom, .int (nI mMs), .ref a_mbit, .ref a_mdone, .ref a_mrests, .ref a_mxx, .ref a_myy, .ref a_mdepth, .ref a_mone, .int (nI u.1), .int (nI mCk), .int mFw, .int (nI mRd), .ref a_mbefore, .ref a_mfirst, .ref a_mturned])), (a_mwidth, .inl (cI, 14, .inl (nF mWd))), (a_mop, .inl (cI, 14, .inl mOp)), (a_mka, .inl (cI, 14, .inl mAa)), (a_mkb, .inl (cI, 14, .inl mAb)), (a_mkc, .inl (cI, 14, .inl mAc)), (a_mbit, .inl (cI, 224, .inl (nF B1))), (a_mxx, .inl (cI, 2600, .inl (nF u.2.1))), (a_myy, .inl (cI, 2600, .inl (nF u.2.2.1))), (a_mdepth, .inl (cI, 2600, .inl (nF u.2.2.2.1)))]) (va_runV (As := [.int (nI v_16), .int (nI cr)]) (rest := []) ⟨hx, hb, hml, hown, hts⟩ (c_Mod_differ l dC dI cI cZ a_mod a_mkind a_mwidth a_mreset a_mop a_mka a_mkb a_mkc a_mheld a_msort a_mof a_mfrom a_mbit a_mdone a_mrests a_mxx a_myy a_mdepth a_mone a_mbefore a_mfirst a_mturned tt H.size mN mMs mGv_6 mCk mFw mRd mXv_7 mYv_8 mDev_9 gdv_10 Pv_11 Dpv_12 Slv_13 Tv_14 K v_16 cr (by omega) (by omega) (by omega) (by omega) b_mXv_7 b_mYv_8 b_mDev_9 hN_286 hXY_286 hAL_286 hh.1 hcr.1 (by rw [hh.2, hcr.2]; exact fun c h => hgl c (by rw [eL]; exact catL_in _ (by omega) (List.mem_append_right _ (List.mem_append_left _ h))))) (cwV 2 hts (gd_V in_tl (mw 718 rfl rfl) (mw 720 rfl rfl) (mw 36 rfl rfl) (mw 47 rfl rfl) (mw 721 rfl rfl)) rfl rfl rfl (by decide +kernel) ⟨Nat.le_of_ble_eq_true rfl, Nat.le_of_ble_eq_true rfl⟩) (k_preV hK hP hD hS hA hE [0, 7, 8, 9] (by decide) rfl 6 0 rfl rfl) rfl rfl hl.1 rfl (lv_room (Nat.le_of_ble_eq_true rfl)) d_Mod_node1_296 ⟨Nat.zero_le _, Nat.zero_le _⟩) hP hD hS hA [0, 7, 8, 9] [1, 2, 3, 4, 5, 6] [6, 0, 1, 2, 3, 4, 5, 7, 8, 9] rfl rfl (by decide) (by decide) (by decide) (fun _ => rfl) (fun r_26 u H locs hw hP hD hS => ?_)
                            obtain ⟨mGv_17, mXv_18, mYv_19, mDev_20, gdv_21, Pv_22, Dpv_23, Slv_24, Tv_25⟩ := u
                            obtain ⟨v_27, rfl, b_mGv_17, b_mXv_18, b_mYv_19, b_mDev_20, hN_296, hXY_296, hst_296, hrl_296, hc_296, hAL_296⟩ : ∃ rv : Nat, r_26 = nI rv ∧ (mGv_17 ≤ 1280) ∧ (∀ j, mXv_18 j < 2786) ∧ (∀ j, mYv_19 j < 2786) ∧ (∀ j, mDev_20 j < 1400) ∧ (NJ mGv_17 gdv_21 Pv_22 Dpv_23 Slv_24 Tv_25) ∧ (MXY mGv_17 mXv_18 mYv_19 mDev_20 Pv_22 Dpv_23) ∧ (ST Tv_14 mGv_6 Tv_25 mGv_17 (dfl (LT Tv_14 v_16) (LT Tv_14 cr))) ∧ (rv < 2 * (113 + mGv_17)) ∧ (LT Tv_25 rv = df (LT Tv_14 v_16) (LT Tv_14 cr)) ∧ (AL K Tv_25 mGv_17) := hw
                            have hP : va_P (dC, dI) classes [(a_mod, .inr (6, [.ref a_mkind, .ref a_mwidth, .ref a_mreset, .ref a_mop, .ref a_mka, .ref a_mkb, .ref a_mkc, .ref a_mheld, .int (nI mN), .ref a_msort, .ref a_mof, .ref a_mfrom, .int (nI mMs), .ref a_mbit, .ref a_mdone, .ref a_mrests, .ref a_mxx, .ref a_myy, .ref a_mdepth, .ref a_mone, .int (nI mGv_17), .int (nI mCk), .int mFw, .int (nI mRd), .ref a_mbefore, .ref a_mfirst, .ref a_mturned])), (a_mwidth, .inl (cI, 14, .inl (nF mWd))), (a_mop, .inl (cI, 14, .inl mOp)), (a_mka, .inl (cI, 14, .inl mAa)), (a_mkb, .inl (cI, 14, .inl mAb)), (a_mkc, .inl (cI, 14, .inl mAc)), (a_mbit, .inl (cI, 224, .inl (nF B1))), (a_mxx, .inl (cI, 2600, .inl (nF mXv_18))), (a_myy, .inl (cI, 2600, .inl (nF mYv_19))), (a_mdepth, .inl (cI, 2600, .inl (nF mDev_20)))] H := hP
                            have hD : va_D A [(a_mod, .inr (6, [.ref a_mkind, .ref a_mwidth, .ref a_mreset, .ref a_mop, .ref a_mka, .ref a_mkb, .ref a_mkc, .ref a_mheld, .int (nI mN), .ref a_msort, .ref a_mof, .ref a_mfrom, .int (nI mMs), .ref a_mbit, .ref a_mdone, .ref a_mrests, .ref a_mxx, .ref a_myy, .ref a_mdepth, .ref a_mone, .int (nI mGv_17), .int (nI mCk), .int mFw, .int (nI mRd), .ref a_mbefore, .ref a_mfirst, .ref a_mturned])), (a_mwidth, .inl (cI, 14, .inl (nF mWd))), (a_mop, .inl (cI, 14, .inl mOp)), (a_mka, .inl (cI, 14, .inl mAa)), (a_mkb, .inl (cI, 14, .inl mAb)), (a_mkc, .inl (cI, 14, .inl mAc)), (a_mbit, .inl (cI, 224, .inl (nF B1))), (a_mxx, .inl (cI, 2600, .inl (nF mXv_18))), (a_myy, .inl (cI, 2600, .inl (nF mYv_19))), (a_mdepth, .inl (cI, 2600, .inl (nF mDev_20)))] := hD
                            rw [hh.2, hcr.2] at hst_296 hc_296
                            have hs9 := And.intro hrl_296 hc_296
                            have hx7 := OKc_st hx7 hst_296
                            have hy8 := OKc_st hy8 hst_296
                            have hcr := OKc_st hcr hst_296
                            have hh := OKc_st hh hst_296
                            have hs9b := hs9.1
                            refine lv_istore (lv' := [(9, .int (nI v_27)), (12, .int (nI v_16)), (11, .int (nI (op1 (lit B1 mWd Y b)))), (10, .int (nI (lit B1 mWd X b))), (8, .int (nI b)), (7, .int (nI 1)), (6, .int (nI cr)), (5, .int (nI (mWd S))), (4, .int (nI Y)), (3, .int (nI X)), (2, .int (nI 5)), (0, .ref a_mod), (1, .int (nI S))]) hx hb d_Mod_node1_299 hl (by decide) rfl (fun ls hl => ?_)
                            refine lv_aload_n hx hb d_Mod_node1_301 rfl (lv_at hl 11 rfl) ?_
                            refine lv_aload_n hx hb d_Mod_node1_302 rfl (lv_at hl 11 rfl) ?_
                            refine lv_iload hx hb d_Mod_node1_303 (lv_at hl 3 rfl) ?_
                            refine lv_iload hx hb d_Mod_node1_305 (lv_at hl 2 rfl) ?_
                            refine k_i (wr := [(a_mwidth, .inl (cI, 14, .inl (nF mWd))), (a_mop, .inl (cI, 14, .inl mOp)), (a_mka, .inl (cI, 14, .inl mAa)), (a_mkb, .inl (cI, 14, .inl mAb)), (a_mkc, .inl (cI, 14, .inl mAc)), (a_mbit, .inl (cI, 224, .inl (nF B1)))]) (w2 := fun (u : Nat × (Nat → Nat) × (Nat → Nat) × (Nat → Nat) × Nat × (Nat → Nat) × (Nat → Nat) × (Nat → Nat) × (Nat → Nat)) => [(a_mod, .inr (6, [.ref a_mkind, .ref a_mwidth, .ref a_mreset, .ref a_mop, .ref a_mka, .ref a_mkb, .ref a_mkc, .ref a_mheld, .int (nI mN), .ref a_msort, .ref a_mof, .ref a_mfrom, .int (nI mMs), .ref a_mbit, .ref a_mdone, .ref a_mrests, .ref a_mxx, .ref a_myy, .ref a_mdepth, .ref a_mone, .int (nI u.1), .int (nI mCk), .int mFw, .int (nI mRd), .ref a_mbefore, .ref a_mfirst, .ref a_mturned])), (a_mwidth, .inl (cI, 14, .inl (nF mWd))), (a_mop, .inl (cI, 14, .inl mOp)), (a_mka, .inl (cI, 14, .inl mAa)), (a_mkb, .inl (cI, 14, .inl mAb)), (a_mkc, .inl (cI, 14, .inl mAc)), (a_mbit, .inl (cI, 224, .inl (nF B1))), (a_mxx, .inl (cI, 2600, .inl (nF u.2.1))), (a_myy, .inl (cI, 2600, .inl (nF u.2.2.1))), (a_mdepth, .inl (cI, 2600, .inl (nF u.2.2.2.1)))]) (va_runV (As := [.int (nI (lit B1 mWd X b)), .int (nI (op1 (lit B1 mWd Y b)))]) (rest := [.ref a_mod]) ⟨hx, hb, hml, hown, hts⟩ (c_Mod_join l dC dI cI cZ a_mod a_mkind a_mwidth a_mreset a_mop a_mka a_mkb a_mkc a_mheld a_msort a_mof a_mfrom a_mbit a_mdone a_mrests a_mxx a_myy a_mdepth a_mone a_mbefore a_mfirst a_mturned tt H.size mN mMs mGv_17 mCk mFw mRd mXv_18 mYv_19 mDev_20 gdv_21 Pv_22 Dpv_23 Slv_24 Tv_25 K (lit B1 mWd X b) (op1 (lit B1 mWd Y b)) (by omega) (by omega) (by omega) (by omega) b_mXv_18 b_mYv_19 b_mDev_20 hN_296 hXY_296 hAL_296 hx7.1 hy8.1 (by rw [hx7.2, hy8.2]; exact fun c h => hgl c (by rw [eL]; exact catL_in _ (by omega) (List.mem_append_right _ (List.mem_append_right _ (List.mem_append_left _ h)))))) (cwV 2 hts (gd_V in_tl (mw 702 rfl rfl) (mw 704 rfl rfl) (mw 32 rfl rfl) (mw 47 rfl rfl) (mw 705 rfl rfl)) rfl rfl rfl (by decide +kernel) ⟨Nat.le_of_ble_eq_true rfl, Nat.le_of_ble_eq_true rfl⟩) (k_preV hK hP hD hS hA hE [0, 7, 8, 9] (by decide) rfl 6 0 rfl rfl) rfl rfl hl.1 rfl (lv_room (Nat.le_of_ble_eq_true rfl)) d_Mod_node1_307 ⟨Nat.zero_le _, Nat.zero_le _⟩) hP hD hS hA [0, 7, 8, 9] [1, 2, 3, 4, 5, 6] [6, 0, 1, 2, 3, 4, 5, 7, 8, 9] rfl rfl (by decide) (by decide) (by decide) (fun _ => rfl) (fun r_37 u H locs hw hP hD hS => ?_)
                            obtain ⟨mGv_28, mXv_29, mYv_30, mDev_31, gdv_32, Pv_33, Dpv_34, Slv_35, Tv_36⟩ := u
                            obtain ⟨v_38, rfl, b_mGv_28, b_mXv_29, b_mYv_30, b_mDev_31, hN_307, hXY_307, hst_307, hrl_307, hc_307, hAL_307⟩ : ∃ rv : Nat, r_37 = nI rv ∧ (mGv_28 ≤ 1280) ∧ (∀ j, mXv_29 j < 2786) ∧ (∀ j, mYv_30 j < 2786) ∧ (∀ j, mDev_31 j < 1400) ∧ (NJ mGv_28 gdv_32 Pv_33 Dpv_34 Slv_35 Tv_36) ∧ (MXY mGv_28 mXv_29 mYv_30 mDev_31 Pv_33 Dpv_34) ∧ (ST Tv_25 mGv_17 Tv_36 mGv_28 (jl (LT Tv_25 (lit B1 mWd X b)) (LT Tv_25 (op1 (lit B1 mWd Y b))))) ∧ (rv < 2 * (113 + mGv_28)) ∧ (LT Tv_36 rv = jn (LT Tv_25 (lit B1 mWd X b)) (LT Tv_25 (op1 (lit B1 mWd Y b)))) ∧ (AL K Tv_36 mGv_28) := hw
                            have hP : va_P (dC, dI) classes [(a_mod, .inr (6, [.ref a_mkind, .ref a_mwidth, .ref a_mreset, .ref a_mop, .ref a_mka, .ref a_mkb, .ref a_mkc, .ref a_mheld, .int (nI mN), .ref a_msort, .ref a_mof, .ref a_mfrom, .int (nI mMs), .ref a_mbit, .ref a_mdone, .ref a_mrests, .ref a_mxx, .ref a_myy, .ref a_mdepth, .ref a_mone, .int (nI mGv_28), .int (nI mCk), .int mFw, .int (nI mRd), .ref a_mbefore, .ref a_mfirst, .ref a_mturned])), (a_mwidth, .inl (cI, 14, .inl (nF mWd))), (a_mop, .inl (cI, 14, .inl mOp)), (a_mka, .inl (cI, 14, .inl mAa)), (a_mkb, .inl (cI, 14, .inl mAb)), (a_mkc, .inl (cI, 14, .inl mAc)), (a_mbit, .inl (cI, 224, .inl (nF B1))), (a_mxx, .inl (cI, 2600, .inl (nF mXv_29))), (a_myy, .inl (cI, 2600, .inl (nF mYv_30))), (a_mdepth, .inl (cI, 2600, .inl (nF mDev_31)))] H := hP
                            have hD : va_D A [(a_mod, .inr (6, [.ref a_mkind, .ref a_mwidth, .ref a_mreset, .ref a_mop, .ref a_mka, .ref a_mkb, .ref a_mkc, .ref a_mheld, .int (nI mN), .ref a_msort, .ref a_mof, .ref a_mfrom, .int (nI mMs), .ref a_mbit, .ref a_mdone, .ref a_mrests, .ref a_mxx, .ref a_myy, .ref a_mdepth, .ref a_mone, .int (nI mGv_28), .int (nI mCk), .int mFw, .int (nI mRd), .ref a_mbefore, .ref a_mfirst, .ref a_mturned])), (a_mwidth, .inl (cI, 14, .inl (nF mWd))), (a_mop, .inl (cI, 14, .inl mOp)), (a_mka, .inl (cI, 14, .inl mAa)), (a_mkb, .inl (cI, 14, .inl mAb)), (a_mkc, .inl (cI, 14, .inl mAc)), (a_mbit, .inl (cI, 224, .inl (nF B1))), (a_mxx, .inl (cI, 2600, .inl (nF mXv_29))), (a_myy, .inl (cI, 2600, .inl (nF mYv_30))), (a_mdepth, .inl (cI, 2600, .inl (nF mDev_31)))] := hD
                            rw [hx7.2, hy8.2] at hst_307 hc_307
                            have hj1 := And.intro hrl_307 hc_307
                            have hcr := OKc_st hcr hst_307
                            have hh := OKc_st hh hst_307
                            have hs9 := OKc_st hs9 hst_307
                            refine lv_aload_n hx hb d_Mod_node1_310 rfl (lv_at hl 11 rfl) ?_
                            refine lv_iload hx hb d_Mod_node1_311 (lv_at hl 1 rfl) ?_
                            refine lv_iload hx hb d_Mod_node1_313 (lv_at hl 6 rfl) ?_
                            refine k_i (wr := [(a_mwidth, .inl (cI, 14, .inl (nF mWd))), (a_mop, .inl (cI, 14, .inl mOp)), (a_mka, .inl (cI, 14, .inl mAa)), (a_mkb, .inl (cI, 14, .inl mAb)), (a_mkc, .inl (cI, 14, .inl mAc)), (a_mbit, .inl (cI, 224, .inl (nF B1)))]) (w2 := fun (u : Nat × (Nat → Nat) × (Nat → Nat) × (Nat → Nat) × Nat × (Nat → Nat) × (Nat → Nat) × (Nat → Nat) × (Nat → Nat)) => [(a_mod, .inr (6, [.ref a_mkind, .ref a_mwidth, .ref a_mreset, .ref a_mop, .ref a_mka, .ref a_mkb, .ref a_mkc, .ref a_mheld, .int (nI mN), .ref a_msort, .ref a_mof, .ref a_mfrom, .int (nI mMs), .ref a_mbit, .ref a_mdone, .ref a_mrests, .ref a_mxx, .ref a_myy, .ref a_mdepth, .ref a_mone, .int (nI u.1), .int (nI mCk), .int mFw, .int (nI mRd), .ref a_mbefore, .ref a_mfirst, .ref a_mturned])), (a_mwidth, .inl (cI, 14, .inl (nF mWd))), (a_mop, .inl (cI, 14, .inl mOp)), (a_mka, .inl (cI, 14, .inl mAa)), (a_mkb, .inl (cI, 14, .inl mAb)), (a_mkc, .inl (cI, 14, .inl mAc)), (a_mbit, .inl (cI, 224, .inl (nF B1))), (a_mxx, .inl (cI, 2600, .inl (nF u.2.1))), (a_myy, .inl (cI, 2600, .inl (nF u.2.2.1))), (a_mdepth, .inl (cI, 2600, .inl (nF u.2.2.2.1)))]) (va_runV (As := [.int (nI v_16), .int (nI cr)]) (rest := [.int (nI v_38), .ref a_mod]) ⟨hx, hb, hml, hown, hts⟩ (c_Mod_join l dC dI cI cZ a_mod a_mkind a_mwidth a_mreset a_mop a_mka a_mkb a_mkc a_mheld a_msort a_mof a_mfrom a_mbit a_mdone a_mrests a_mxx a_myy a_mdepth a_mone a_mbefore a_mfirst a_mturned tt H.size mN mMs mGv_28 mCk mFw mRd mXv_29 mYv_30 mDev_31 gdv_32 Pv_33 Dpv_34 Slv_35 Tv_36 K v_16 cr (by omega) (by omega) (by omega) (by omega) b_mXv_29 b_mYv_30 b_mDev_31 hN_307 hXY_307 hAL_307 hh.1 hcr.1 (by rw [hh.2, hcr.2]; exact fun c h => hgl c (by rw [eL]; exact catL_in _ (by omega) (List.mem_append_right _ (List.mem_append_right _ (List.mem_append_right _ (List.mem_append_left _ h))))))) (cwV 2 hts (gd_V in_tl (mw 702 rfl rfl) (mw 704 rfl rfl) (mw 32 rfl rfl) (mw 47 rfl rfl) (mw 705 rfl rfl)) rfl rfl rfl (by decide +kernel) ⟨Nat.le_of_ble_eq_true rfl, Nat.le_of_ble_eq_true rfl⟩) (k_preV hK hP hD hS hA hE [0, 7, 8, 9] (by decide) rfl 6 0 rfl rfl) rfl rfl hl.1 rfl (lv_room (Nat.le_of_ble_eq_true rfl)) d_Mod_node1_315 ⟨Nat.zero_le _, Nat.zero_le _⟩) hP hD hS hA [0, 7, 8, 9] [1, 2, 3, 4, 5, 6] [6, 0, 1, 2, 3, 4, 5, 7, 8, 9] rfl rfl (by decide) (by decide) (by decide) (fun _ => rfl) (fun r_48 u H locs hw hP hD hS => ?_)
                            obtain ⟨mGv_39, mXv_40, mYv_41, mDev_42, gdv_43, Pv_44, Dpv_45, Slv_46, Tv_47⟩ := u
                            obtain ⟨v_49, rfl, b_mGv_39, b_mXv_40, b_mYv_41, b_mDev_42, hN_315, hXY_315, hst_315, hrl_315, hc_315, hAL_315⟩ : ∃ rv : Nat, r_48 = nI rv ∧ (mGv_39 ≤ 1280) ∧ (∀ j, mXv_40 j < 2786) ∧ (∀ j, mYv_41 j < 2786) ∧ (∀ j, mDev_42 j < 1400) ∧ (NJ mGv_39 gdv_43 Pv_44 Dpv_45 Slv_46 Tv_47) ∧ (MXY mGv_39 mXv_40 mYv_41 mDev_42 Pv_44 Dpv_45) ∧ (ST Tv_36 mGv_28 Tv_47 mGv_39 (jl (LT Tv_36 v_16) (LT Tv_36 cr))) ∧ (rv < 2 * (113 + mGv_39)) ∧ (LT Tv_47 rv = jn (LT Tv_36 v_16) (LT Tv_36 cr)) ∧ (AL K Tv_47 mGv_39) := hw
                            have hP : va_P (dC, dI) classes [(a_mod, .inr (6, [.ref a_mkind, .ref a_mwidth, .ref a_mreset, .ref a_mop, .ref a_mka, .ref a_mkb, .ref a_mkc, .ref a_mheld, .int (nI mN), .ref a_msort, .ref a_mof, .ref a_mfrom, .int (nI mMs), .ref a_mbit, .ref a_mdone, .ref a_mrests, .ref a_mxx, .ref a_myy, .ref a_mdepth, .ref a_mone, .int (nI mGv_39), .int (nI mCk), .int mFw, .int (nI mRd), .ref a_mbefore, .ref a_mfirst, .ref a_mturned])), (a_mwidth, .inl (cI, 14, .inl (nF mWd))), (a_mop, .inl (cI, 14, .inl mOp)), (a_mka, .inl (cI, 14, .inl mAa)), (a_mkb, .inl (cI, 14, .inl mAb)), (a_mkc, .inl (cI, 14, .inl mAc)), (a_mbit, .inl (cI, 224, .inl (nF B1))), (a_mxx, .inl (cI, 2600, .inl (nF mXv_40))), (a_myy, .inl (cI, 2600, .inl (nF mYv_41))), (a_mdepth, .inl (cI, 2600, .inl (nF mDev_42)))] H := hP
                            have hD : va_D A [(a_mod, .inr (6, [.ref a_mkind, .ref a_mwidth, .ref a_mreset, .ref a_mop, .ref a_mka, .ref a_mkb, .ref a_mkc, .ref a_mheld, .int (nI mN), .ref a_msort, .ref a_mof, .ref a_mfrom, .int (nI mMs), .ref a_mbit, .ref a_mdone, .ref a_mrests, .ref a_mxx, .ref a_myy, .ref a_mdepth, .ref a_mone, .int (nI mGv_39), .int (nI mCk), .int mFw, .int (nI mRd), .ref a_mbefore, .ref a_mfirst, .ref a_mturned])), (a_mwidth, .inl (cI, 14, .inl (nF mWd))), (a_mop, .inl (cI, 14, .inl mOp)), (a_mka, .inl (cI, 14, .inl mAa)), (a_mkb, .inl (cI, 14, .inl mAb)), (a_mkc, .inl (cI, 14, .inl mAc)), (a_mbit, .inl (cI, 224, .inl (nF B1))), (a_mxx, .inl (cI, 2600, .inl (nF mXv_40))), (a_myy, .inl (cI, 2600, .inl (nF mYv_41))), (a_mdepth, .inl (cI, 2600, .inl (nF mDev_42)))] := hD
                            rw [hh.2, hcr.2] at hst_315 hc_315
                            have hj2 := And.intro hrl_315 hc_315
                            have hj1 := OKc_st hj1 hst_315
                            have hs9 := OKc_st hs9 hst_315
                            refine k_i (wr := [(a_mwidth, .inl (cI, 14, .inl (nF mWd))), (a_mop, .inl (cI, 14, .inl mOp)), (a_mka, .inl (cI, 14, .inl mAa)), (a_mkb, .inl (cI, 14, .inl mAb)), (a_mkc, .inl (cI, 14, .inl mAc)), (a_mbit, .inl (cI, 224, .inl (nF B1)))]) (w2 := fun (u : Nat × (Nat → Nat) × (Nat → Nat) × (Nat → Nat) × Nat × (Nat → Nat) × (Nat → Nat) × (Nat → Nat) × (Nat → Nat)) => [(a_mod, .inr (6, [.ref a_mkind, .ref a_mwidth, .ref a_mreset, .ref a_mop, .ref a_mka, .ref a_mkb, .ref a_mkc, .ref a_mheld, .int (nI mN), .ref a_msort, .ref a_mof, .ref a_mfrom, .int (nI mMs), .ref a_mbit, .ref a_mdone, .ref a_mrests, .ref a_mxx, .ref a_myy, .ref a_mdepth, .ref a_mone, .int (nI u.1), .int (nI mCk), .int mFw, .int (nI mRd), .ref a_mbefore, .ref a_mfirst, .ref a_mturned])), (a_mwidth, .inl (cI, 14, .inl (nF mWd))), (a_mop, .inl (cI, 14, .inl mOp)), (a_mka, .inl (cI, 14, .inl mAa)), (a_mkb, .inl (cI, 14, .inl mAb)), (a_mkc, .inl (cI, 14, .inl mAc)), (a_mbit, .inl (cI, 224, .inl (nF B1))), (a_mxx, .inl (cI, 2600, .inl (nF u.2.1))), (a_myy, .inl (cI, 2600, .inl (nF u.2.2.1))), (a_mdepth, .inl (cI, 2600, .inl (nF u.2.2.2.1)))]) (va_runV (As := [.int (nI v_38), .int (nI v_49)]) (rest := []) ⟨hx, hb, hml, hown, hts⟩ (c_Mod_either l dC dI cI cZ a_mod a_mkind a_mwidth a_mreset a_mop a_mka a_mkb a_mkc a_mheld a_msort a_mof a_mfrom a_mbit a_mdone a_mrests a_mxx a_myy a_mdepth a_mone a_mbefore a_mfirst a_mturned tt H.size mN mMs mGv_39 mCk mFw mRd mXv_40 mYv_41 mDev_42 gdv_43 Pv_44 Dpv_45 Slv_46 Tv_47 K v_38 v_49 (by omega) (by omega) (by omega) (by omega) b_mXv_40 b_mYv_41 b_mDev_42 hN_315 hXY_315 hAL_315 hj1.1 hj2.1 (by rw [hj1.2, hj2.2]; exact fun c h => hgl c (by rw [eL]; exact catL_in _ (by omega) (List.mem_append_right _ (List.mem_append_right _ (List.mem_append_right _ (List.mem_append_right _ h))))))) (cwV 2 hts (gd_V in_tl (mw 710 rfl rfl) (mw 712 rfl rfl) (mw 34 rfl rfl) (mw 47 rfl rfl) (mw 713 rfl rfl)) rfl rfl rfl (by decide +kernel) ⟨Nat.le_of_ble_eq_true rfl, Nat.le_of_ble_eq_true rfl⟩) (k_preV hK hP hD hS hA hE [0, 7, 8, 9] (by decide) rfl 6 0 rfl rfl) rfl rfl hl.1 rfl (lv_room (Nat.le_of_ble_eq_true rfl)) d_Mod_node1_318 ⟨Nat.zero_le _, Nat.zero_le _⟩) hP hD hS hA [0, 7, 8, 9] [1, 2, 3, 4, 5, 6] [6, 0, 1, 2, 3, 4, 5, 7, 8, 9] rfl rfl (by decide) (by decide) (by decide) (fun _ => rfl) (fun r_59 u H locs hw hP hD hS => ?_)
                            obtain ⟨mGv_50, mXv_51, mYv_52, mDev_53, gdv_54, Pv_55, Dpv_56, Slv_57, Tv_58⟩ := u
                            obtain ⟨v_60, rfl, b_mGv_50, b_mXv_51, b_mYv_52, b_mDev_53, hN_318, hXY_318, hst_318, hrl_318, hc_318, hAL_318⟩ : ∃ rv : Nat, r_59 = nI rv ∧ (mGv_50 ≤ 1280) ∧ (∀ j, mXv_51 j < 2786) ∧ (∀ j, mYv_52 j < 2786) ∧ (∀ j, mDev_53 j < 1400) ∧ (NJ mGv_50 gdv_54 Pv_55 Dpv_56 Slv_57 Tv_58) ∧ (MXY mGv_50 mXv_51 mYv_52 mDev_53 Pv_55 Dpv_56) ∧ (ST Tv_47 mGv_39 Tv_58 mGv_50 (eil (LT Tv_47 v_38) (LT Tv_47 v_49))) ∧ (rv < 2 * (113 + mGv_50)) ∧ (LT Tv_58 rv = ei (LT Tv_47 v_38) (LT Tv_47 v_49)) ∧ (AL K Tv_58 mGv_50) := hw
                            have hP : va_P (dC, dI) classes [(a_mod, .inr (6, [.ref a_mkind, .ref a_mwidth, .ref a_mreset, .ref a_mop, .ref a_mka, .ref a_mkb, .ref a_mkc, .ref a_mheld, .int (nI mN), .ref a_msort, .ref a_mof, .ref a_mfrom, .int (nI mMs), .ref a_mbit, .ref a_mdone, .ref a_mrests, .ref a_mxx, .ref a_myy, .ref a_mdepth, .ref a_mone, .int (nI mGv_50), .int (nI mCk), .int mFw, .int (nI mRd), .ref a_mbefore, .ref a_mfirst, .ref a_mturned])), (a_mwidth, .inl (cI, 14, .inl (nF mWd))), (a_mop, .inl (cI, 14, .inl mOp)), (a_mka, .inl (cI, 14, .inl mAa)), (a_mkb, .inl (cI, 14, .inl mAb)), (a_mkc, .inl (cI, 14, .inl mAc)), (a_mbit, .inl (cI, 224, .inl (nF B1))), (a_mxx, .inl (cI, 2600, .inl (nF mXv_51))), (a_myy, .inl (cI, 2600, .inl (nF mYv_52))), (a_mdepth, .inl (cI, 2600, .inl (nF mDev_53)))] H := hP
                            have hD : va_D A [(a_mod, .inr (6, [.ref a_mkind, .ref a_mwidth, .ref a_mreset, .ref a_mop, .ref a_mka, .ref a_mkb, .ref a_mkc, .ref a_mheld, .int (nI mN), .ref a_msort, .ref a_mof, .ref a_mfrom, .int (nI mMs), .ref a_mbit, .ref a_mdone, .ref a_mrests, .ref a_mxx, .ref a_myy, .ref a_mdepth, .ref a_mone, .int (nI mGv_50), .int (nI mCk), .int mFw, .int (nI mRd), .ref a_mbefore, .ref a_mfirst, .ref a_mturned])), (a_mwidth, .inl (cI, 14, .inl (nF mWd))), (a_mop, .inl (cI, 14, .inl mOp)), (a_mka, .inl (cI, 14, .inl mAa)), (a_mkb, .inl (cI, 14, .inl mAb)), (a_mkc, .inl (cI, 14, .inl mAc)), (a_mbit, .inl (cI, 224, .inl (nF B1))), (a_mxx, .inl (cI, 2600, .inl (nF mXv_51))), (a_myy, .inl (cI, 2600, .inl (nF mYv_52))), (a_mdepth, .inl (cI, 2600, .inl (nF mDev_53)))] := hD
                            rw [hj1.2, hj2.2] at hst_318 hc_318
                            have hs9 := OKc_st hs9 hst_318
                            have hs9b := hs9.1
                            have hall := ST_tr hst_286 (ST_tr hst_296 (ST_tr hst_307 (ST_tr hst_315 hst_318)))
                            refine lv_istore (lv' := [(6, .int (nI v_60)), (9, .int (nI v_27)), (12, .int (nI v_16)), (11, .int (nI (op1 (lit B1 mWd Y b)))), (10, .int (nI (lit B1 mWd X b))), (8, .int (nI b)), (7, .int (nI 1)), (5, .int (nI (mWd S))), (4, .int (nI Y)), (3, .int (nI X)), (2, .int (nI 5)), (0, .ref a_mod), (1, .int (nI S))]) hx hb d_Mod_node1_321 hl (by decide) rfl (fun ls hl => ?_)
                            refine lv_iload_n hx hb d_Mod_node1_323 rfl (lv_at hl 10 rfl) ?_
                            refine lv_bipush (v := nI 6) hx hb d_Mod_node1_324 rfl ?_
                            refine lv_icmp_ne (tgt := 358) hx hb d_Mod_node1_326 (by decide) (fun c326 => ?_) (fun c326 => ?_)
                            · skip
                              have c326 : ¬ (5 = 6) := fun h => c326 ((nI_eq (by omega) (by omega)).mpr h)
                              refine lv_iload_n hx hb d_Mod_node1_358 rfl (lv_at hl 10 rfl) ?_
                              refine lv_bipush (v := nI 8) hx hb d_Mod_node1_359 rfl ?_
                              refine lv_icmp_ne (tgt := 414) hx hb d_Mod_node1_361 (by decide) (fun c361 => ?_) (fun c361 => ?_)
                              · skip
                                have c361 : ¬ (5 = 8) := fun h => c361 ((nI_eq (by omega) (by omega)).mpr h)
                                refine lv_iload_n hx hb d_Mod_node1_414 rfl (lv_at hl 10 rfl) ?_
                                refine lv_bipush (v := nI 9) hx hb d_Mod_node1_415 rfl ?_
                                refine lv_icmp_ne (tgt := 437) hx hb d_Mod_node1_417 (by decide) (fun c417 => ?_) (fun c417 => ?_)
                                · skip
                                  have c417 : ¬ (5 = 9) := fun h => c417 ((nI_eq (by omega) (by omega)).mpr h)
                                  refine lv_iload_n hx hb d_Mod_node1_437 rfl (lv_at hl 10 rfl) ?_
                                  refine lv_bipush (v := nI 10) hx hb d_Mod_node1_438 rfl ?_
                                  refine lv_icmp_ne (tgt := 478) hx hb d_Mod_node1_440 (by decide) (fun c440 => ?_) (fun c440 => ?_)
                                  · skip
                                    have c440 : ¬ (5 = 10) := fun h => c440 ((nI_eq (by omega) (by omega)).mpr h)
                                    refine lv_aload_n hx hb d_Mod_node1_478 rfl (lv_at hl 11 rfl) ?_
                                    refine va_get (D := (dC, dI)) (ci := 6) (v := .ref a_mbit) (C := R_Mod) (T := F_Mod) (N := 27) hx hb hts (wi i_Mod) hown hK hP 0 rfl rfl 13 (by decide) (hts _ (mt 555 rfl rfl)) (fun _ h9 => h9) rfl d_Mod_node1_479 ?_
                                    refine lv_bipush (v := nI 8) hx hb d_Mod_node1_482 rfl ?_
                                    refine lv_iload_n hx hb d_Mod_node1_484 rfl (lv_at hl 12 rfl) ?_
                                    refine lv_imul hx hb d_Mod_node1_485 ?_
                                    refine k_top (pk_mul _ _) ?_
                                    refine lv_iload hx hb d_Mod_node1_486 (lv_at hl 5 rfl) ?_
                                    refine lv_iadd hx hb d_Mod_node1_488 ?_
                                    refine k_top (nI_add _ _) ?_
                                    refine lv_iload hx hb d_Mod_node1_489 (lv_at hl 1 rfl) ?_
                                    refine k_ist hx hb hK hP hD hS 6 0 rfl rfl (by omega) (by decide) d_Mod_node1_491 (fun H locs hP hD hS => ?_)
                                    have bb_61 : ∀ j, upN B1 ((8 * S) + b) v_27 j < 2786 := upN_lt b_B1 (by first | omega | (have := hcr.1; omega))
                                    have hP : va_P (dC, dI) classes [(a_mod, .inr (6, [.ref a_mkind, .ref a_mwidth, .ref a_mreset, .ref a_mop, .ref a_mka, .ref a_mkb, .ref a_mkc, .ref a_mheld, .int (nI mN), .ref a_msort, .ref a_mof, .ref a_mfrom, .int (nI mMs), .ref a_mbit, .ref a_mdone, .ref a_mrests, .ref a_mxx, .ref a_myy, .ref a_mdepth, .ref a_mone, .int (nI mGv_50), .int (nI mCk), .int mFw, .int (nI mRd), .ref a_mbefore, .ref a_mfirst, .ref a_mturned])), (a_mwidth, .inl (cI, 14, .inl (nF mWd))), (a_mop, .inl (cI, 14, .inl mOp)), (a_mka, .inl (cI, 14, .inl mAa)), (a_mkb, .inl (cI, 14, .inl mAb)), (a_mkc, .inl (cI, 14, .inl mAc)), (a_mbit, .inl (cI, 224, .inl (nF (upN B1 ((8 * S) + b) v_27)))), (a_mxx, .inl (cI, 2600, .inl (nF mXv_51))), (a_myy, .inl (cI, 2600, .inl (nF mYv_52))), (a_mdepth, .inl (cI, 2600, .inl (nF mDev_53)))] H := hP
                                    have hD : va_D A [(a_mod, .inr (6, [.ref a_mkind, .ref a_mwidth, .ref a_mreset, .ref a_mop, .ref a_mka, .ref a_mkb, .ref a_mkc, .ref a_mheld, .int (nI mN), .ref a_msort, .ref a_mof, .ref a_mfrom, .int (nI mMs), .ref a_mbit, .ref a_mdone, .ref a_mrests, .ref a_mxx, .ref a_myy, .ref a_mdepth, .ref a_mone, .int (nI mGv_50), .int (nI mCk), .int mFw, .int (nI mRd), .ref a_mbefore, .ref a_mfirst, .ref a_mturned])), (a_mwidth, .inl (cI, 14, .inl (nF mWd))), (a_mop, .inl (cI, 14, .inl mOp)), (a_mka, .inl (cI, 14, .inl mAa)), (a_mkb, .inl (cI, 14, .inl mAb)), (a_mkc, .inl (cI, 14, .inl mAc)), (a_mbit, .inl (cI, 224, .inl (nF (upN B1 ((8 * S) + b) v_27)))), (a_mxx, .inl (cI, 2600, .inl (nF mXv_51))), (a_myy, .inl (cI, 2600, .inl (nF mYv_52))), (a_mdepth, .inl (cI, 2600, .inl (nF mDev_53)))] := hD
                                    refine lv_iinc (v := nI (b + 1)) (lv' := [(8, .int (nI (b + 1))), (6, .int (nI v_60)), (9, .int (nI v_27)), (12, .int (nI v_16)), (11, .int (nI (op1 (lit B1 mWd Y b)))), (10, .int (nI (lit B1 mWd X b))), (7, .int (nI 1)), (5, .int (nI (mWd S))), (4, .int (nI Y)), (3, .int (nI X)), (2, .int (nI 5)), (0, .ref a_mod), (1, .int (nI S))]) hx hb d_Mod_node1_492 hl (k := 5) rfl (k_inc _ 1) (by decide) rfl (fun ls hl => ?_)
                                    refine lv_goto (tgt := 85) hx hb d_Mod_node1_495 (by decide) ?_
                                    have hI_62 : (mGv_50 ≤ 1280) ∧ (∀ j, mXv_51 j < 2786) ∧ (∀ j, mYv_52 j < 2786) ∧ (∀ j, mDev_53 j < 1400) ∧ (∀ j, (upN B1 ((8 * S) + b) v_27) j < 2786) ∧ (NJ mGv_50 gdv_54 Pv_55 Dpv_56 Slv_57 Tv_58) ∧ (MXY mGv_50 mXv_51 mYv_52 mDev_53 Pv_55 Dpv_56) ∧ (AL K Tv_58 mGv_50) ∧ (ST T mG Tv_58 mGv_50 (adL (CB X) (oC (CB Y) 1) 1 ((b + 1)))) ∧ (OKc Tv_58 mGv_50 v_60 (ca (CB X) (oC (CB Y) 1) 1 ((b + 1)))) ∧ (Out mBi (upN B1 ((8 * S) + b) v_27) S) ∧ (∀ j, j < (b + 1) → OKc Tv_58 mGv_50 ((upN B1 ((8 * S) + b) v_27) (8 * S + j)) (sm (CB X) (oC (CB Y) 1) 1 j)) ∧ ((b + 1) ≤ mWd S) := ⟨(by omega), b_mXv_51, b_mYv_52, b_mDev_53, bb_61, hN_318, hXY_318, hAL_318, (ST_tr hst1 hall), ⟨hrl_318, hc_318⟩, (Out_up8 hO1 (by omega)), (fun j hj => by
      by_cases e : j = b
      · rw [e, upN_self]; exact hs9
      · rw [upN_ne _ _ (by omega)]; exact OKc_st (hB1 j (by omega)) hall), (by omega)⟩
                                    exact ih_3 (b + 1, v_60, mGv_50, mXv_51, mYv_52, mDev_53, gdv_54, Pv_55, Dpv_56, Slv_57, Tv_58, upN B1 ((8 * S) + b) v_27) hI_62 (show mWd S - (b + 1) < mWd S - b from by omega) _ _ _ hP hD hS (lv_sub hl [0, 6, 1, 7, 8, 9, 10, 11, 12] rfl)
                                  · skip
                                    have c440 : 5 = 10 := (nI_eq (by omega) (by omega)).mp c440
                                    omega
                                · skip
                                  have c417 : 5 = 9 := (nI_eq (by omega) (by omega)).mp c417
                                  omega
                              · skip
                                have c361 : 5 = 8 := (nI_eq (by omega) (by omega)).mp c361
                                omega
                            · skip
                              have c326 : 5 = 6 := (nI_eq (by omega) (by omega)).mp c326
                              omega
                          · skip
                            have c270 : 5 = 4 := (nI_eq (by omega) (by omega)).mp c270
                            omega
                        · skip
                          have c242 : ¬ (5 = 5) := fun h => c242 ((nI_eq (by omega) (by omega)).mpr h)
                          omega
                      · skip
                        have c228 : 5 = 4 := (nI_eq (by omega) (by omega)).mp c228
                        omega
                    · skip
                      have c210 : 5 = 4 := (nI_eq (by omega) (by omega)).mp c210
                      omega
                  · skip
                    have c184 : 5 = 3 := (nI_eq (by omega) (by omega)).mp c184
                    omega
                · skip
                  have c158 : 5 = 2 := (nI_eq (by omega) (by omega)).mp c158
                  omega
              · skip
                have c132 : 5 = 1 := (nI_eq (by omega) (by omega)).mp c132
                omega
            · skip
              have c111 : 5 = 0 := (nI_eq0 (by omega)).mp c111
              omega
          · skip
            have c95 : 5 = 11 := (nI_eq (by omega) (by omega)).mp c95
            omega
      · skip
        have c63 : ¬ (5 = 5) := fun h => c63 ((nI_eq (by omega) (by omega)).mpr h)
        omega
    · skip
      have c31 : 5 = 7 := (nI_eq (by omega) (by omega)).mp c31
      omega
