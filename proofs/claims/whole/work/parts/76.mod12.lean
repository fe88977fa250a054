set_option maxHeartbeats 4000000 in
set_option maxRecDepth 100000 in
theorem c_Mod_node1o8 (l : Launch) (dC : Nat → ClassId) (dI : Nat → Nat → Nat) (cI cZ : ClassId) (a_mod a_mkind a_mwidth a_mreset a_mop a_mka a_mkb a_mkc a_mheld a_msort a_mof a_mfrom a_mbit a_mdone a_mrests a_mxx a_myy a_mdepth a_mone a_mbefore a_mfirst a_mturned : Nat) (tt sz : Nat) (mN : Nat) (mMs : Nat) (mG : Nat) (mCk : Nat) (mFw : Int32) (mRd : Nat) (mWd : Nat → Nat) (mOp : Nat → Int32) (mAa : Nat → Int32) (mAb : Nat → Int32) (mAc : Nat → Int32) (mBi : Nat → Nat) (mX : Nat → Nat) (mY : Nat → Nat) (mDe : Nat → Nat) (gd : Nat) (P : Nat → Nat) (Dp : Nat → Nat) (Sl : Nat → Nat) (T : Nat → Nat) (K : List Nat) (CB : Nat → Nat → Nat) (X : Nat) (Y : Nat) (S : Nat) (b_mN : mN ≤ 14) (b_mMs : mMs ≤ 20) (b_mG : mG ≤ 1280) (b_mRd : mRd ≤ 1) (b_mWd : ∀ j, mWd j < 9) (b_mBi : ∀ j, mBi j < 2786) (b_mX : ∀ j, mX j < 2786) (b_mY : ∀ j, mY j < 2786) (b_mDe : ∀ j, mDe j < 1400) (hN : NJ mG gd P Dp Sl T) (hXY : MXY mG mX mY mDe P Dp) (hAL : AL K T mG) (hS14 : S < 14) (hW1 : 1 ≤ mWd S) (hop : mOp S = nI 8) (hax : mAa S = nI X) (hx1 : X < 14 ∧ X ≠ S ∧ ∀ j, OKc T mG (lit mBi mWd X j) (CB X j)) (hay : mAb S = nI Y) (hy1 : Y < 14 ∧ Y ≠ S ∧ ∀ j, OKc T mG (lit mBi mWd Y j) (CB Y j)) (hws : mWd S = mWd X + mWd Y) (hgl : ∀ c, c ∈ ncL mWd CB 8 (mAa S) (mAb S) (mAc S) (mWd S) → c ∈ K) : Met l y_Mod_node1 w_Mod_node1 ({ frames := 6, cells := 0, slots := 0, locals := 200 }) (va_Pc [.ref a_mod, .int (nI S)] (PW (dC, dI) classes [(cI, .int), (cZ, .boolean)] tt [(a_mod, .inr (6, [.ref a_mkind, .ref a_mwidth, .ref a_mreset, .ref a_mop, .ref a_mka, .ref a_mkb, .ref a_mkc, .ref a_mheld, .int (nI mN), .ref a_msort, .ref a_mof, .ref a_mfrom, .int (nI mMs), .ref a_mbit, .ref a_mdone, .ref a_mrests, .ref a_mxx, .ref a_myy, .ref a_mdepth, .ref a_mone, .int (nI mG), .int (nI mCk), .int mFw, .int (nI mRd), .ref a_mbefore, .ref a_mfirst, .ref a_mturned])), (a_mwidth, .inl (cI, 14, .inl (nF mWd))), (a_mop, .inl (cI, 14, .inl mOp)), (a_mka, .inl (cI, 14, .inl mAa)), (a_mkb, .inl (cI, 14, .inl mAb)), (a_mkc, .inl (cI, 14, .inl mAc)), (a_mbit, .inl (cI, 224, .inl (nF mBi))), (a_mxx, .inl (cI, 2600, .inl (nF mX))), (a_myy, .inl (cI, 2600, .inl (nF mY))), (a_mdepth, .inl (cI, 2600, .inl (nF mDe)))] sz)) (va_Qv (fun (u : Nat × (Nat → Nat) × (Nat → Nat) × (Nat → Nat) × Nat × (Nat → Nat) × (Nat → Nat) × (Nat → Nat) × (Nat → Nat) × (Nat → Nat)) => (u.1 ≤ 1280) ∧ (∀ j, u.2.1 j < 2786) ∧ (∀ j, u.2.2.1 j < 2786) ∧ (∀ j, u.2.2.2.1 j < 1400) ∧ (∀ j, u.2.2.2.2.2.2.2.2.2 j < 2786) ∧ (NJ u.1 u.2.2.2.2.1 u.2.2.2.2.2.1 u.2.2.2.2.2.2.1 u.2.2.2.2.2.2.2.1 u.2.2.2.2.2.2.2.2.1) ∧ (MXY u.1 u.2.1 u.2.2.1 u.2.2.2.1 u.2.2.2.2.2.1 u.2.2.2.2.2.2.1) ∧ (AL K u.2.2.2.2.2.2.2.2.1 u.1) ∧ (ST T mG u.2.2.2.2.2.2.2.2.1 u.1 (ncL mWd CB 8 (mAa S) (mAb S) (mAc S) (mWd S))) ∧ (Out mBi u.2.2.2.2.2.2.2.2.2 S) ∧ (∀ j, j < mWd S → OKc u.2.2.2.2.2.2.2.2.1 u.1 (u.2.2.2.2.2.2.2.2.2 (8 * S + j)) (nc mWd CB 8 (mAa S) (mAb S) (mAc S) j))) (AT (dC, dI) classes [(cI, .int), (cZ, .boolean)] (va_A [(a_mod, .inr (6, [.ref a_mkind, .ref a_mwidth, .ref a_mreset, .ref a_mop, .ref a_mka, .ref a_mkb, .ref a_mkc, .ref a_mheld, .int (nI mN), .ref a_msort, .ref a_mof, .ref a_mfrom, .int (nI mMs), .ref a_mbit, .ref a_mdone, .ref a_mrests, .ref a_mxx, .ref a_myy, .ref a_mdepth, .ref a_mone, .int (nI mG), .int (nI mCk), .int mFw, .int (nI mRd), .ref a_mbefore, .ref a_mfirst, .ref a_mturned])), (a_mwidth, .inl (cI, 14, .inl (nF mWd))), (a_mop, .inl (cI, 14, .inl mOp)), (a_mka, .inl (cI, 14, .inl mAa)), (a_mkb, .inl (cI, 14, .inl mAb)), (a_mkc, .inl (cI, 14, .inl mAc)), (a_mbit, .inl (cI, 224, .inl (nF mBi))), (a_mxx, .inl (cI, 2600, .inl (nF mX))), (a_myy, .inl (cI, 2600, .inl (nF mY))), (a_mdepth, .inl (cI, 2600, .inl (nF mDe)))] sz) (fun (u : Nat × (Nat → Nat) × (Nat → Nat) × (Nat → Nat) × Nat × (Nat → Nat) × (Nat → Nat) × (Nat → Nat) × (Nat → Nat) × (Nat → Nat)) => [(a_mod, .inr (6, [.ref a_mkind, .ref a_mwidth, .ref a_mreset, .ref a_mop, .ref a_mka, .ref a_mkb, .ref a_mkc, .ref a_mheld, .int (nI mN), .ref a_msort, .ref a_mof, .ref a_mfrom, .int (nI mMs), .ref a_mbit, .ref a_mdone, .ref a_mrests, .ref a_mxx, .ref a_myy, .ref a_mdepth, .ref a_mone, .int (nI u.1), .int (nI mCk), .int mFw, .int (nI mRd), .ref a_mbefore, .ref a_mfirst, .ref a_mturned])), (a_mwidth, .inl (cI, 14, .inl (nF mWd))), (a_mop, .inl (cI, 14, .inl mOp)), (a_mka, .inl (cI, 14, .inl mAa)), (a_mkb, .inl (cI, 14, .inl mAb)), (a_mkc, .inl (cI, 14, .inl mAc)), (a_mbit, .inl (cI, 224, .inl (nF u.2.2.2.2.2.2.2.2.2))), (a_mxx, .inl (cI, 2600, .inl (nF u.2.1))), (a_myy, .inl (cI, 2600, .inl (nF u.2.2.1))), (a_mdepth, .inl (cI, 2600, .inl (nF u.2.2.2.1)))])) (va_A [(a_mod, .inr (6, [.ref a_mkind, .ref a_mwidth, .ref a_mreset, .ref a_mop, .ref a_mka, .ref a_mkb, .ref a_mkc, .ref a_mheld, .int (nI mN), .ref a_msort, .ref a_mof, .ref a_mfrom, .int (nI mMs), .ref a_mbit, .ref a_mdone, .ref a_mrests, .ref a_mxx, .ref a_myy, .ref a_mdepth, .ref a_mone, .int (nI mG), .int (nI mCk), .int mFw, .int (nI mRd), .ref a_mbefore, .ref a_mfirst, .ref a_mturned])), (a_mwidth, .inl (cI, 14, .inl (nF mWd))), (a_mop, .inl (cI, 14, .inl mOp)), (a_mka, .inl (cI, 14, .inl mAa)), (a_mkb, .inl (cI, 14, .inl mAb)), (a_mkc, .inl (cI, 14, .inl mAc)), (a_mbit, .inl (cI, 224, .inl (nF mBi))), (a_mxx, .inl (cI, 2600, .inl (nF mX))), (a_myy, .inl (cI, 2600, .inl (nF mY))), (a_mdepth, .inl (cI, 2600, .inl (nF mDe)))] sz)) 0 0 (va_A [(a_mod, .inr (6, [.ref a_mkind, .ref a_mwidth, .ref a_mreset, .ref a_mop, .ref a_mka, .ref a_mkb, .ref a_mkc, .ref a_mheld, .int (nI mN), .ref a_msort, .ref a_mof, .ref a_mfrom, .int (nI mMs), .ref a_mbit, .ref a_mdone, .ref a_mrests, .ref a_mxx, .ref a_myy, .ref a_mdepth, .ref a_mone, .int (nI mG), .int (nI mCk), .int mFw, .int (nI mRd), .ref a_mbefore, .ref a_mfirst, .ref a_mturned])), (a_mwidth, .inl (cI, 14, .inl (nF mWd))), (a_mop, .inl (cI, 14, .inl mOp)), (a_mka, .inl (cI, 14, .inl mAa)), (a_mkb, .inl (cI, 14, .inl mAb)), (a_mkc, .inl (cI, 14, .inl mAc)), (a_mbit, .inl (cI, 224, .inl (nF mBi))), (a_mxx, .inl (cI, 2600, .inl (nF mX))), (a_myy, .inl (cI, 2600, .inl (nF mY))), (a_mdepth, .inl (cI, 2600, .inl (nF mDe)))] sz) := by
  refine Met.ofW (cc := b_Mod_node1) (maxL := 13) (ret := none) (by decide) rfl ?_
  intro p e s m args below meth c s₁ B hml hv
  obtain ⟨rfl, hsz, hP, hK, hD0, hE⟩ := hv
  have hx := B.exec
  have hb := B.bytes
  have hr := B.returns
  have hts := atoms_spec (ws := w_Mod_node1) B.pre
  have hown : s.vm.findClass R_Mod = some m.cls := findClass_of_methodNamed B.named
  have hlocks := B.notSynchronized
  subst hsz
  have hD := hD0.self (sz := s.heap.size)
  generalize hAe : va_A [(a_mod, .inr (6, [.ref a_mkind, .ref a_mwidth, .ref a_mreset, .ref a_mop, .ref a_mka, .ref a_mkb, .ref a_mkc, .ref a_mheld, .int (nI mN), .ref a_msort, .ref a_mof, .ref a_mfrom, .int (nI mMs), .ref a_mbit, .ref a_mdone, .ref a_mrests, .ref a_mxx, .ref a_myy, .ref a_mdepth, .ref a_mone, .int (nI mG), .int (nI mCk), .int mFw, .int (nI mRd), .ref a_mbefore, .ref a_mfirst, .ref a_mturned])), (a_mwidth, .inl (cI, 14, .inl (nF mWd))), (a_mop, .inl (cI, 14, .inl mOp)), (a_mka, .inl (cI, 14, .inl mAa)), (a_mkb, .inl (cI, 14, .inl mAb)), (a_mkc, .inl (cI, 14, .inl mAc)), (a_mbit, .inl (cI, 224, .inl (nF mBi))), (a_mxx, .inl (cI, 2600, .inl (nF mX))), (a_myy, .inl (cI, 2600, .inl (nF mY))), (a_mdepth, .inl (cI, 2600, .inl (nF mDe)))] s.heap.size = A at hD hE ⊢
  have hA : ∀ q : Nat, s.heap.size ≤ q → A q := fun q h => by rw [← hAe]; exact Or.inr h
  have hS : va_S A s.heap s.heap [] := va_S.rf
  have hP : va_P (dC, dI) classes [(a_mod, .inr (6, [.ref a_mkind, .ref a_mwidth, .ref a_mreset, .ref a_mop, .ref a_mka, .ref a_mkb, .ref a_mkc, .ref a_mheld, .int (nI mN), .ref a_msort, .ref a_mof, .ref a_mfrom, .int (nI mMs), .ref a_mbit, .ref a_mdone, .ref a_mrests, .ref a_mxx, .ref a_myy, .ref a_mdepth, .ref a_mone, .int (nI mG), .int (nI mCk), .int mFw, .int (nI mRd), .ref a_mbefore, .ref a_mfirst, .ref a_mturned])), (a_mwidth, .inl (cI, 14, .inl (nF mWd))), (a_mop, .inl (cI, 14, .inl mOp)), (a_mka, .inl (cI, 14, .inl mAa)), (a_mkb, .inl (cI, 14, .inl mAb)), (a_mkc, .inl (cI, 14, .inl mAc)), (a_mbit, .inl (cI, 224, .inl (nF mBi))), (a_mxx, .inl (cI, 2600, .inl (nF mX))), (a_myy, .inl (cI, 2600, .inl (nF mY))), (a_mdepth, .inl (cI, 2600, .inl (nF mDe)))] s.heap := hP
  have hl := lv_entry ([.ref a_mod, .int (nI S)]) (n := 13) (Nat.le_of_ble_eq_true rfl)
  rw [lg_entry_eq]
  generalize (lg_sl ([.ref a_mod, .int (nI S)]) ++ List.replicate (13 - (lg_sl ([.ref a_mod, .int (nI S)])).length) Slot.unset).toArray = ls at hl ⊢
  have hl : lv_has ls 13 [(0, .ref a_mod), (1, .int (nI S))] := hl
  have eX : ix (mAa S) = X := ix_of hax (by omega)
  have eY : ix (mAb S) = Y := ix_of hay (by have := b_mWd X; omega)
  have hWs := b_mWd S
  have hWx := b_mWd X
  have hWy := b_mWd Y
  have eL : ncL mWd CB 8 (mAa S) (mAb S) (mAc S) (mWd S) = catL (fun j => []) (mWd S) := rfl
  have eV : ∀ j, nc mWd CB 8 (mAa S) (mAb S) (mAc S) j = (if j < mWd Y then CB Y j else CB X (j - mWd Y)) := fun j => by show (if j < mWd (ix (mAb S)) then CB (ix (mAb S)) j else CB (ix (mAa S)) (j - mWd (ix (mAb S)))) = _; rw [eX, eY]
  refine lv_aload_n hx hb d_Mod_node1_0 rfl (lv_at hl 0 rfl) ?_
  refine va_get (D := (dC, dI)) (ci := 6) (v := .ref a_mop) (C := R_Mod) (T := F_Mod) (N := 27) hx hb hts (wi i_Mod) hown hK hP 0 rfl rfl 3 (by decide) (hts _ (mt 545 rfl rfl)) (fun _ h9 => h9) rfl d_Mod_node1_1 ?_
  refine lv_iload_n hx hb d_Mod_node1_4 rfl (lv_at hl 1 rfl) ?_
  refine k_rld hx hb hK hP 2 0 rfl rfl (by omega) (by decide) d_Mod_node1_5 ?_
  refine k_top (show mOp S = nI 8 from hop) ?_
  refine lv_istore_n (lv' := [(2, .int (nI 8)), (0, .ref a_mod), (1, .int (nI S))]) hx hb d_Mod_node1_6 rfl hl (by decide) rfl (fun ls hl => ?_)
  refine lv_aload_n hx hb d_Mod_node1_7 rfl (lv_at hl 1 rfl) ?_
  refine va_get (D := (dC, dI)) (ci := 6) (v := .ref a_mka) (C := R_Mod) (T := F_Mod) (N := 27) hx hb hts (wi i_Mod) hown hK hP 0 rfl rfl 4 (by decide) (hts _ (mt 546 rfl rfl)) (fun _ h9 => h9) rfl d_Mod_node1_8 ?_
  refine lv_iload_n hx hb d_Mod_node1_11 rfl (lv_at hl 2 rfl) ?_
  refine k_rld hx hb hK hP 3 0 rfl rfl (by omega) (by decide) d_Mod_node1_12 ?_
  refine k_top (show mAa S = nI X from hax) ?_
  refine lv_istore_n (lv' := [(3, .int (nI X)), (2, .int (nI 8)), (0, .ref a_mod), (1, .int (nI S))]) hx hb d_Mod_node1_13 rfl hl (by decide) rfl (fun ls hl => ?_)
  refine lv_aload_n hx hb d_Mod_node1_14 rfl (lv_at hl 2 rfl) ?_
  refine va_get (D := (dC, dI)) (ci := 6) (v := .ref a_mkb) (C := R_Mod) (T := F_Mod) (N := 27) hx hb hts (wi i_Mod) hown hK hP 0 rfl rfl 5 (by decide) (hts _ (mt 547 rfl rfl)) (fun _ h9 => h9) rfl d_Mod_node1_15 ?_
  refine lv_iload_n hx hb d_Mod_node1_18 rfl (lv_at hl 3 rfl) ?_
  refine k_rld hx hb hK hP 4 0 rfl rfl (by omega) (by decide) d_Mod_node1_19 ?_
  refine k_top (show mAb S = nI Y from hay) ?_
  refine lv_istore (lv' := [(4, .int (nI Y)), (3, .int (nI X)), (2, .int (nI 8)), (0, .ref a_mod), (1, .int (nI S))]) hx hb d_Mod_node1_20 hl (by decide) rfl (fun ls hl => ?_)
  refine lv_iload_n hx hb d_Mod_node1_22 rfl (lv_at hl 2 rfl) ?_
  refine lv_bipush (v := nI 6) hx hb d_Mod_node1_23 rfl ?_
  refine lv_icmp_eq (tgt := 34) hx hb d_Mod_node1_25 (by decide) (fun c25 => ?_) (fun c25 => ?_)
  · skip
    have c25 : 8 = 6 := (nI_eq (by omega) (by omega)).mp c25
    omega
  · skip
    have c25 : ¬ (8 = 6) := fun h => c25 ((nI_eq (by omega) (by omega)).mpr h)
    refine lv_iload_n hx hb d_Mod_node1_28 rfl (lv_at hl 2 rfl) ?_
    refine lv_bipush (v := nI 7) hx hb d_Mod_node1_29 rfl ?_
    refine lv_icmp_ne (tgt := 53) hx hb d_Mod_node1_31 (by decide) (fun c31 => ?_) (fun c31 => ?_)
    · skip
      have c31 : ¬ (8 = 7) := fun h => c31 ((nI_eq (by omega) (by omega)).mpr h)
      refine lv_aload_n hx hb d_Mod_node1_53 rfl (lv_at hl 3 rfl) ?_
      refine va_get (D := (dC, dI)) (ci := 6) (v := .ref a_mwidth) (C := R_Mod) (T := F_Mod) (N := 27) hx hb hts (wi i_Mod) hown hK hP 0 rfl rfl 1 (by decide) (hts _ (mt 543 rfl rfl)) (fun _ h9 => h9) rfl d_Mod_node1_54 ?_
      refine lv_iload_n hx hb d_Mod_node1_57 rfl (lv_at hl 4 rfl) ?_
      refine k_ild hx hb hK hP 1 0 rfl rfl (by omega) (by decide) d_Mod_node1_58 ?_
      have hb_1 := b_mWd S
      refine lv_istore (lv' := [(5, .int (nI (mWd S))), (4, .int (nI Y)), (3, .int (nI X)), (2, .int (nI 8)), (0, .ref a_mod), (1, .int (nI S))]) hx hb d_Mod_node1_59 hl (by decide) rfl (fun ls hl => ?_)
      refine lv_iload_n hx hb d_Mod_node1_61 rfl (lv_at hl 3 rfl) ?_
      refine lv_iconst (v := nI 5) hx hb d_Mod_node1_62 rfl ?_
      refine lv_icmp_eq (tgt := 72) hx hb d_Mod_node1_63 (by decide) (fun c63 => ?_) (fun c63 => ?_)
      · skip
        have c63 : 8 = 5 := (nI_eq (by omega) (by omega)).mp c63
        omega
      · skip
        have c63 : ¬ (8 = 5) := fun h => c63 ((nI_eq (by omega) (by omega)).mpr h)
        refine lv_iload_n hx hb d_Mod_node1_66 rfl (lv_at hl 3 rfl) ?_
        refine lv_bipush (v := nI 7) hx hb d_Mod_node1_67 rfl ?_
        refine lv_icmp_ne (tgt := 76) hx hb d_Mod_node1_69 (by decide) (fun c69 => ?_) (fun c69 => ?_)
        · skip
          have c69 : ¬ (8 = 7) := fun h => c69 ((nI_eq (by omega) (by omega)).mpr h)
          refine lv_iconst (v := nI 0) hx hb d_Mod_node1_76 rfl ?_
          refine lv_istore (lv' := [(6, .int (nI 0)), (5, .int (nI (mWd S))), (4, .int (nI Y)), (3, .int (nI X)), (2, .int (nI 8)), (0, .ref a_mod), (1, .int (nI S))]) hx hb d_Mod_node1_77 hl (by decide) rfl (fun ls hl => ?_)
          refine lv_iconst (v := nI 1) hx hb d_Mod_node1_79 rfl ?_
          refine lv_istore (lv' := [(7, .int (nI 1)), (6, .int (nI 0)), (5, .int (nI (mWd S))), (4, .int (nI Y)), (3, .int (nI X)), (2, .int (nI 8)), (0, .ref a_mod), (1, .int (nI S))]) hx hb d_Mod_node1_80 hl (by decide) rfl (fun ls hl => ?_)
          refine lv_iconst (v := nI 0) hx hb d_Mod_node1_82 rfl ?_
          refine lv_istore (lv' := [(8, .int (nI 0)), (7, .int (nI 1)), (6, .int (nI 0)), (5, .int (nI (mWd S))), (4, .int (nI Y)), (3, .int (nI X)), (2, .int (nI 8)), (0, .ref a_mod), (1, .int (nI S))]) hx hb d_Mod_node1_83 hl (by decide) rfl (fun ls hl => ?_)
          have hI_2 : (∀ j, mBi j < 2786) ∧ (Out mBi mBi S) ∧ (∀ j, j < 0 → OKc T mG (mBi (8 * S + j)) ((if j < mWd Y then CB Y j else CB X (j - mWd Y)))) ∧ (0 ≤ mWd S) := ⟨b_mBi, (Out_rf mBi S), (fun j h => absurd h (by omega)), (by omega)⟩
          refine k_loop (σ := Nat × (Nat → Nat)) (D := (dC, dI)) (cl := classes) (A := A) (H0 := s.heap) (fun x => [(a_mod, .inr (6, [.ref a_mkind, .ref a_mwidth, .ref a_mreset, .ref a_mop, .ref a_mka, .ref a_mkb, .ref a_mkc, .ref a_mheld, .int (nI mN), .ref a_msort, .ref a_mof, .ref a_mfrom, .int (nI mMs), .ref a_mbit, .ref a_mdone, .ref a_mrests, .ref a_mxx, .ref a_myy, .ref a_mdepth, .ref a_mone, .int (nI mG), .int (nI mCk), .int mFw, .int (nI mRd), .ref a_mbefore, .ref a_mfirst, .ref a_mturned])), (a_mwidth, .inl (cI, 14, .inl (nF mWd))), (a_mop, .inl (cI, 14, .inl mOp)), (a_mka, .inl (cI, 14, .inl mAa)), (a_mkb, .inl (cI, 14, .inl mAb)), (a_mkc, .inl (cI, 14, .inl mAc)), (a_mbit, .inl (cI, 224, .inl (nF x.2))), (a_mxx, .inl (cI, 2600, .inl (nF mX))), (a_myy, .inl (cI, 2600, .inl (nF mY))), (a_mdepth, .inl (cI, 2600, .inl (nF mDe)))]) (fun x => [(8, .int (nI x.1)), (7, .int (nI 1)), (6, .int (nI 0)), (5, .int (nI (mWd S))), (4, .int (nI Y)), (3, .int (nI X)), (2, .int (nI 8)), (0, .ref a_mod), (1, .int (nI S))]) (fun x => (∀ j, x.2 j < 2786) ∧ (Out mBi x.2 S) ∧ (∀ j, j < x.1 → OKc T mG (x.2 (8 * S + j)) ((if j < mWd Y then CB Y j else CB X (j - mWd Y)))) ∧ (x.1 ≤ mWd S)) (fun x => mWd S - x.1) ?_ (0, mBi) hI_2 hP hD hS (lv_sub hl [0, 1, 2, 3, 4, 5, 6, 7, 8] rfl)
          rintro ⟨b, B1⟩ hI ih_3 H locs ls hP hD hS hl
          obtain ⟨b_B1, hO1, hB1, hbw⟩ : (∀ j, B1 j < 2786) ∧ (Out mBi B1 S) ∧ (∀ j, j < b → OKc T mG (B1 (8 * S + j)) ((if j < mWd Y then CB Y j else CB X (j - mWd Y)))) ∧ (b ≤ mWd S) := hI
          have hP : va_P (dC, dI) classes [(a_mod, .inr (6, [.ref a_mkind, .ref a_mwidth, .ref a_mreset, .ref a_mop, .ref a_mka, .ref a_mkb, .ref a_mkc, .ref a_mheld, .int (nI mN), .ref a_msort, .ref a_mof, .ref a_mfrom, .int (nI mMs), .ref a_mbit, .ref a_mdone, .ref a_mrests, .ref a_mxx, .ref a_myy, .ref a_mdepth, .ref a_mone, .int (nI mG), .int (nI mCk), .int mFw, .int (nI mRd), .ref a_mbefore, .ref a_mfirst, .ref a_mturned])), (a_mwidth, .inl (cI, 14, .inl (nF mWd))), (a_mop, .inl (cI, 14, .inl mOp)), (a_mka, .inl (cI, 14, .inl mAa)), (a_mkb, .inl (cI, 14, .inl mAb)), (a_mkc, .inl (cI, 14, .inl mAc)), (a_mbit, .inl (cI, 224, .inl (nF B1))), (a_mxx, .inl (cI, 2600, .inl (nF mX))), (a_myy, .inl (cI, 2600, .inl (nF mY))), (a_mdepth, .inl (cI, 2600, .inl (nF mDe)))] H := hP
          have hD : va_D A [(a_mod, .inr (6, [.ref a_mkind, .ref a_mwidth, .ref a_mreset, .ref a_mop, .ref a_mka, .ref a_mkb, .ref a_mkc, .ref a_mheld, .int (nI mN), .ref a_msort, .ref a_mof, .ref a_mfrom, .int (nI mMs), .ref a_mbit, .ref a_mdone, .ref a_mrests, .ref a_mxx, .ref a_myy, .ref a_mdepth, .ref a_mone, .int (nI mG), .int (nI mCk), .int mFw, .int (nI mRd), .ref a_mbefore, .ref a_mfirst, .ref a_mturned])), (a_mwidth, .inl (cI, 14, .inl (nF mWd))), (a_mop, .inl (cI, 14, .inl mOp)), (a_mka, .inl (cI, 14, .inl mAa)), (a_mkb, .inl (cI, 14, .inl mAb)), (a_mkc, .inl (cI, 14, .inl mAc)), (a_mbit, .inl (cI, 224, .inl (nF B1))), (a_mxx, .inl (cI, 2600, .inl (nF mX))), (a_myy, .inl (cI, 2600, .inl (nF mY))), (a_mdepth, .inl (cI, 2600, .inl (nF mDe)))] := hD
          have hl : lv_has ls 13 [(8, .int (nI b)), (7, .int (nI 1)), (6, .int (nI 0)), (5, .int (nI (mWd S))), (4, .int (nI Y)), (3, .int (nI X)), (2, .int (nI 8)), (0, .ref a_mod), (1, .int (nI S))] := hl
          refine lv_iload hx hb d_Mod_node1_85 (lv_at hl 0 rfl) ?_
          refine lv_iload hx hb d_Mod_node1_87 (lv_at hl 3 rfl) ?_
          refine lv_icmp_ge (tgt := 498) hx hb d_Mod_node1_89 (by decide) (fun c89 => ?_) (fun c89 => ?_)
          · skip
            have c89 : (mWd S) ≤ b := (nI_leI (by omega) (by omega)).mp c89
            refine lv_iload_n hx hb d_Mod_node1_498 rfl (lv_at hl 6 rfl) ?_
            refine lv_bipush (v := nI 6) hx hb d_Mod_node1_499 rfl ?_
            refine lv_icmp_ne (tgt := 515) hx hb d_Mod_node1_501 (by decide) (fun c501 => ?_) (fun c501 => ?_)
            · skip
              have c501 : ¬ (8 = 6) := fun h => c501 ((nI_eq (by omega) (by omega)).mpr h)
              refine lv_iload_n hx hb d_Mod_node1_515 rfl (lv_at hl 6 rfl) ?_
              refine lv_bipush (v := nI 7) hx hb d_Mod_node1_516 rfl ?_
              refine lv_icmp_ne (tgt := 534) hx hb d_Mod_node1_518 (by decide) (fun c518 => ?_) (fun c518 => ?_)
              · skip
                have c518 : ¬ (8 = 7) := fun h => c518 ((nI_eq (by omega) (by omega)).mpr h)
                exact W.vret hx hb hr (fun t ht hW => ⟨⟨(mG, mX, mY, mDe, gd, P, Dp, Sl, T, B1), rfl, ⟨(show mG ≤ 1280 from by omega), b_mX, b_mY, b_mDe, b_B1, (show NJ mG gd P Dp Sl T from hN), (show MXY mG mX mY mDe P Dp from hXY), (show AL K T mG from hAL), (show ST T mG T mG (ncL mWd CB 8 (mAa S) (mAb S) (mAc S) (mWd S)) from ST_rf (by rw [eL]; exact catL_nil _)), (show Out mBi B1 S from hO1), (show ∀ j, j < mWd S → OKc T mG (B1 (8 * S + j)) (nc mWd CB 8 (mAa S) (mAb S) (mAc S) j) from fun j hj => by rw [eV]; exact hB1 j (by omega))⟩, by rw [ht]; exact hP, va_K.moved hW.alike hK, hD⟩, hS.F ht⟩) hS.2.2 d_Mod_node1_534
              · skip
                have c518 : 8 = 7 := (nI_eq (by omega) (by omega)).mp c518
                omega
            · skip
              have c501 : 8 = 6 := (nI_eq (by omega) (by omega)).mp c501
              omega
          · skip
            have c89 : ¬ ((mWd S) ≤ b) := fun h => c89 ((nI_leI (by omega) (by omega)).mpr h)
            refine lv_iload_n hx hb d_Mod_node1_92 rfl (lv_at hl 6 rfl) ?_
            refine lv_bipush (v := nI 11) hx hb d_Mod_node1_93 rfl ?_
            refine lv_icmp_ne (tgt := 107) hx hb d_Mod_node1_95 (by decide) (fun c95 => ?_) (fun c95 => ?_)
            · skip
              have c95 : ¬ (8 = 11) := fun h => c95 ((nI_eq (by omega) (by omega)).mpr h)
              refine lv_iconst (v := nI 0) hx hb d_Mod_node1_107 rfl ?_
              refine lv_istore (lv' := [(9, .int (nI 0)), (8, .int (nI b)), (7, .int (nI 1)), (6, .int (nI 0)), (5, .int (nI (mWd S))), (4, .int (nI Y)), (3, .int (nI X)), (2, .int (nI 8)), (0, .ref a_mod), (1, .int (nI S))]) hx hb d_Mod_node1_108 hl (by decide) rfl (fun ls hl => ?_)
              refine lv_iload_n hx hb d_Mod_node1_110 rfl (lv_at hl 7 rfl) ?_
              refine lv_if_ne (tgt := 130) hx hb d_Mod_node1_111 (by decide) (fun c111 => ?_) (fun c111 => ?_)
              · skip
                have c111 : ¬ (8 = 0) := fun h => c111 ((nI_eq0 (by omega)).mpr h)
                refine lv_iload_n hx hb d_Mod_node1_130 rfl (lv_at hl 7 rfl) ?_
                refine lv_iconst (v := nI 1) hx hb d_Mod_node1_131 rfl ?_
                refine lv_icmp_ne (tgt := 156) hx hb d_Mod_node1_132 (by decide) (fun c132 => ?_) (fun c132 => ?_)
                · skip
                  have c132 : ¬ (8 = 1) := fun h => c132 ((nI_eq (by omega) (by omega)).mpr h)
                  refine lv_iload_n hx hb d_Mod_node1_156 rfl (lv_at hl 7 rfl) ?_
                  refine lv_iconst (v := nI 2) hx hb d_Mod_node1_157 rfl ?_
                  refine lv_icmp_ne (tgt := 182) hx hb d_Mod_node1_158 (by decide) (fun c158 => ?_) (fun c158 => ?_)
                  · skip
                    have c158 : ¬ (8 = 2) := fun h => c158 ((nI_eq (by omega) (by omega)).mpr h)
                    refine lv_iload_n hx hb d_Mod_node1_182 rfl (lv_at hl 7 rfl) ?_
                    refine lv_iconst (v := nI 3) hx hb d_Mod_node1_183 rfl ?_
                    refine lv_icmp_ne (tgt := 208) hx hb d_Mod_node1_184 (by decide) (fun c184 => ?_) (fun c184 => ?_)
                    · skip
                      have c184 : ¬ (8 = 3) := fun h => c184 ((nI_eq (by omega) (by omega)).mpr h)
                      refine lv_iload_n hx hb d_Mod_node1_208 rfl (lv_at hl 7 rfl) ?_
                      refine lv_iconst (v := nI 4) hx hb d_Mod_node1_209 rfl ?_
                      refine lv_icmp_ne (tgt := 226) hx hb d_Mod_node1_210 (by decide) (fun c210 => ?_) (fun c210 => ?_)
                      · skip
                        have c210 : ¬ (8 = 4) := fun h => c210 ((nI_eq (by omega) (by omega)).mpr h)
                        refine lv_iload_n hx hb d_Mod_node1_226 rfl (lv_at hl 7 rfl) ?_
                        refine lv_iconst (v := nI 4) hx hb d_Mod_node1_227 rfl ?_
                        refine lv_icmp_ne (tgt := 240) hx hb d_Mod_node1_228 (by decide) (fun c228 => ?_) (fun c228 => ?_)
                        · skip
                          have c228 : ¬ (8 = 4) := fun h => c228 ((nI_eq (by omega) (by omega)).mpr h)
                          refine lv_iload_n hx hb d_Mod_node1_240 rfl (lv_at hl 7 rfl) ?_
                          refine lv_iconst (v := nI 5) hx hb d_Mod_node1_241 rfl ?_
                          refine lv_icmp_eq (tgt := 251) hx hb d_Mod_node1_242 (by decide) (fun c242 => ?_) (fun c242 => ?_)
                          · skip
                            have c242 : 8 = 5 := (nI_eq (by omega) (by omega)).mp c242
                            omega
                          · skip
                            have c242 : ¬ (8 = 5) := fun h => c242 ((nI_eq (by omega) (by omega)).mpr h)
                            refine lv_iload_n hx hb d_Mod_node1_245 rfl (lv_at hl 7 rfl) ?_
                            refine lv_bipush (v := nI 7) hx hb d_Mod_node1_246 rfl ?_
                            refine lv_icmp_ne (tgt := 323) hx hb d_Mod_node1_248 (by decide) (fun c248 => ?_) (fun c248 => ?_)
                            · skip
                              have c248 : ¬ (8 = 7) := fun h => c248 ((nI_eq (by omega) (by omega)).mpr h)
                              refine lv_iload_n hx hb d_Mod_node1_323 rfl (lv_at hl 7 rfl) ?_
                              refine lv_bipush (v := nI 6) hx hb d_Mod_node1_324 rfl ?_
                              refine lv_icmp_ne (tgt := 358) hx hb d_Mod_node1_326 (by decide) (fun c326 => ?_) (fun c326 => ?_)
                              · skip
                                have c326 : ¬ (8 = 6) := fun h => c326 ((nI_eq (by omega) (by omega)).mpr h)
                                refine lv_iload_n hx hb d_Mod_node1_358 rfl (lv_at hl 7 rfl) ?_
                                refine lv_bipush (v := nI 8) hx hb d_Mod_node1_359 rfl ?_
                                refine lv_icmp_ne (tgt := 414) hx hb d_Mod_node1_361 (by decide) (fun c361 => ?_) (fun c361 => ?_)
                                · skip
                                  have c361 : ¬ (8 = 8) := fun h => c361 ((nI_eq (by omega) (by omega)).mpr h)
                                  omega
                                · skip
                                  have c361 : 8 = 8 := (nI_eq (by omega) (by omega)).mp c361
                                  refine lv_iload hx hb d_Mod_node1_364 (lv_at hl 1 rfl) ?_
                                  refine lv_aload_n hx hb d_Mod_node1_366 rfl (lv_at hl 8 rfl) ?_
                                  refine va_get (D := (dC, dI)) (ci := 6) (v := .ref a_mwidth) (C := R_Mod) (T := F_Mod) (N := 27) hx hb hts (wi i_Mod) hown hK hP 0 rfl rfl 1 (by decide) (hts _ (mt 543 rfl rfl)) (fun _ h9 => h9) rfl d_Mod_node1_367 ?_
                                  refine lv_iload hx hb d_Mod_node1_370 (lv_at hl 5 rfl) ?_
                                  refine k_ild hx hb hK hP 1 0 rfl rfl (by omega) (by decide) d_Mod_node1_372 ?_
                                  have hb_4 := b_mWd Y
                                  refine lv_icmp_ge (tgt := 392) hx hb d_Mod_node1_373 (by decide) (fun c373 => ?_) (fun c373 => ?_)
                                  · skip
                                    have c373 : (mWd Y) ≤ b := (nI_leI (by omega) (by omega)).mp c373
                                    have h := hx1.2.2 (b - mWd Y)
                                    unfold lit at h
                                    rw [if_pos (show b - mWd Y < mWd X by omega), ← hO1 _ (by omega)] at h
                                    rw [show X * 8 + (b - mWd Y) = 8 * X + b - mWd Y by omega] at h
                                    have hl9b := h.1
                                    refine lv_aload_n hx hb d_Mod_node1_392 rfl (lv_at hl 8 rfl) ?_
                                    refine va_get (D := (dC, dI)) (ci := 6) (v := .ref a_mbit) (C := R_Mod) (T := F_Mod) (N := 27) hx hb hts (wi i_Mod) hown hK hP 0 rfl rfl 13 (by decide) (hts _ (mt 555 rfl rfl)) (fun _ h9 => h9) rfl d_Mod_node1_393 ?_
                                    refine lv_bipush (v := nI 8) hx hb d_Mod_node1_396 rfl ?_
                                    refine lv_iload_n hx hb d_Mod_node1_398 rfl (lv_at hl 6 rfl) ?_
                                    refine lv_imul hx hb d_Mod_node1_399 ?_
                                    refine k_top (pk_mul _ _) ?_
                                    refine lv_iload hx hb d_Mod_node1_400 (lv_at hl 1 rfl) ?_
                                    refine lv_iadd hx hb d_Mod_node1_402 ?_
                                    refine k_top (nI_add _ _) ?_
                                    refine lv_aload_n hx hb d_Mod_node1_403 rfl (lv_at hl 8 rfl) ?_
                                    refine va_get (D := (dC, dI)) (ci := 6) (v := .ref a_mwidth) (C := R_Mod) (T := F_Mod) (N := 27) hx hb hts (wi i_Mod) hown hK hP 0 rfl rfl 1 (by decide) (hts _ (mt 543 rfl rfl)) (fun _ h9 => h9) rfl d_Mod_node1_404 ?_
                                    refine lv_iload hx hb d_Mod_node1_407 (lv_at hl 5 rfl) ?_
                                    refine k_ild hx hb hK hP 1 0 rfl rfl (by omega) (by decide) d_Mod_node1_409 ?_
                                    have hb_5 := b_mWd Y
                                    refine lv_isub hx hb d_Mod_node1_410 ?_
                                    refine k_top (pk_sub (by omega)) ?_
                                    refine k_ild hx hb hK hP 6 0 rfl rfl (by omega) (by decide) d_Mod_node1_411 ?_
                                    have hb_6 := b_B1 (((8 * X) + b) - (mWd Y))
                                    have hl9 : OKc T mG (B1 (((8 * X) + b) - (mWd Y))) (if b < mWd Y then CB Y b else CB X (b - mWd Y)) := by first | (rw [if_pos (by omega)]; exact h) | (rw [if_neg (by omega)]; exact h)
                                    refine lv_istore (lv' := [(9, .int (nI (B1 (((8 * X) + b) - (mWd Y))))), (8, .int (nI b)), (7, .int (nI 1)), (6, .int (nI 0)), (5, .int (nI (mWd S))), (4, .int (nI Y)), (3, .int (nI X)), (2, .int (nI 8)), (0, .ref a_mod), (1, .int (nI S))]) hx hb d_Mod_node1_412 hl (by decide) rfl (fun ls hl => ?_)
                                    refine lv_iload_n hx hb d_Mod_node1_414 rfl (lv_at hl 7 rfl) ?_
                                    refine lv_bipush (v := nI 9) hx hb d_Mod_node1_415 rfl ?_
                                    refine lv_icmp_ne (tgt := 437) hx hb d_Mod_node1_417 (by decide) (fun c417 => ?_) (fun c417 => ?_)
                                    · skip
                                      have c417 : ¬ (8 = 9) := fun h => c417 ((nI_eq (by omega) (by omega)).mpr h)
                                      refine lv_iload_n hx hb d_Mod_node1_437 rfl (lv_at hl 7 rfl) ?_
                                      refine lv_bipush (v := nI 10) hx hb d_Mod_node1_438 rfl ?_
                                      refine lv_icmp_ne (tgt := 478) hx hb d_Mod_node1_440 (by decide) (fun c440 => ?_) (fun c440 => ?_)
                                      · skip
                                        have c440 : ¬ (8 = 10) := fun h => c440 ((nI_eq (by omega) (by omega)).mpr h)
                                        refine lv_aload_n hx hb d_Mod_node1_478 rfl (lv_at hl 8 rfl) ?_
                                        refine va_get (D := (dC, dI)) (ci := 6) (v := .ref a_mbit) (C := R_Mod) (T := F_Mod) (N := 27) hx hb hts (wi i_Mod) hown hK hP 0 rfl rfl 13 (by decide) (hts _ (mt 555 rfl rfl)) (fun _ h9 => h9) rfl d_Mod_node1_479 ?_
                                        refine lv_bipush (v := nI 8) hx hb d_Mod_node1_482 rfl ?_
                                        refine lv_iload_n hx hb d_Mod_node1_484 rfl (lv_at hl 9 rfl) ?_
                                        refine lv_imul hx hb d_Mod_node1_485 ?_
                                        refine k_top (pk_mul _ _) ?_
                                        refine lv_iload hx hb d_Mod_node1_486 (lv_at hl 1 rfl) ?_
                                        refine lv_iadd hx hb d_Mod_node1_488 ?_
                                        refine k_top (nI_add _ _) ?_
                                        refine lv_iload hx hb d_Mod_node1_489 (lv_at hl 0 rfl) ?_
                                        refine k_ist hx hb hK hP hD hS 6 0 rfl rfl (by omega) (by decide) d_Mod_node1_491 (fun H locs hP hD hS => ?_)
                                        have bb_7 : ∀ j, upN B1 ((8 * S) + b) (B1 (((8 * X) + b) - (mWd Y))) j < 2786 := upN_lt b_B1 (by omega)
                                        have hP : va_P (dC, dI) classes [(a_mod, .inr (6, [.ref a_mkind, .ref a_mwidth, .ref a_mreset, .ref a_mop, .ref a_mka, .ref a_mkb, .ref a_mkc, .ref a_mheld, .int (nI mN), .ref a_msort, .ref a_mof, .ref a_mfrom, .int (nI mMs), .ref a_mbit, .ref a_mdone, .ref a_mrests, .ref a_mxx, .ref a_myy, .ref a_mdepth, .ref a_mone, .int (nI mG), .int (nI mCk), .int mFw, .int (nI mRd), .ref a_mbefore, .ref a_mfirst, .ref a_mturned])), (a_mwidth, .inl (cI, 14, .inl (nF mWd))), (a_mop, .inl (cI, 14, .inl mOp)), (a_mka, .inl (cI, 14, .inl mAa)), (a_mkb, .inl (cI, 14, .inl mAb)), (a_mkc, .inl (cI, 14, .inl mAc)), (a_mbit, .inl (cI, 224, .inl (nF (upN B1 ((8 * S) + b) (B1 (((8 * X) + b) - (mWd Y))))))), (a_mxx, .inl (cI, 2600, .inl (nF mX))), (a_myy, .inl (cI, 2600, .inl (nF mY))), (a_mdepth, .inl (cI, 2600, .inl (nF mDe)))] H := hP
                                        have hD : va_D A [(a_mod, .inr (6, [.ref a_mkind, .ref a_mwidth, .ref a_mreset, .ref a_mop, .ref a_mka, .ref a_mkb, .ref a_mkc, .ref a_mheld, .int (nI mN), .ref a_msort, .ref a_mof, .ref a_mfrom, .int (nI mMs), .ref a_mbit, .ref a_mdone, .ref a_mrests, .ref a_mxx, .ref a_myy, .ref a_mdepth, .ref a_mone, .int (nI mG), .int (nI mCk), .int mFw, .int (nI mRd), .ref a_mbefore, .ref a_mfirst, .ref a_mturned])), (a_mwidth, .inl (cI, 14, .inl (nF mWd))), (a_mop, .inl (cI, 14, .inl mOp)), (a_mka, .inl (cI, 14, .inl mAa)), (a_mkb, .inl (cI, 14, .inl mAb)), (a_mkc, .inl (cI, 14, .inl mAc)), (a_mbit, .inl (cI, 224, .inl (nF (upN B1 ((8 * S) + b) (B1 (((8 * X) + b) - (mWd Y))))))), (a_mxx, .inl (cI, 2600, .inl (nF mX))), (a_myy, .inl (cI, 2600, .inl (nF mY))), (a_mdepth, .inl (cI, 2600, .inl (nF mDe)))] := hD
                                        refine lv_iinc (v := nI (b + 1)) (lv' := [(8, .int (nI (b + 1))), (9, .int (nI (B1 (((8 * X) + b) - (mWd Y))))), (7, .int (nI 1)), (6, .int (nI 0)), (5, .int (nI (mWd S))), (4, .int (nI Y)), (3, .int (nI X)), (2, .int (nI 8)), (0, .ref a_mod), (1, .int (nI S))]) hx hb d_Mod_node1_492 hl (k := 1) rfl (k_inc _ 1) (by decide) rfl (fun ls hl => ?_)
                                        refine lv_goto (tgt := 85) hx hb d_Mod_node1_495 (by decide) ?_
                                        have hI_8 : (∀ j, (upN B1 ((8 * S) + b) (B1 (((8 * X) + b) - (mWd Y)))) j < 2786) ∧ (Out mBi (upN B1 ((8 * S) + b) (B1 (((8 * X) + b) - (mWd Y)))) S) ∧ (∀ j, j < (b + 1) → OKc T mG ((upN B1 ((8 * S) + b) (B1 (((8 * X) + b) - (mWd Y)))) (8 * S + j)) ((if j < mWd Y then CB Y j else CB X (j - mWd Y)))) ∧ ((b + 1) ≤ mWd S) := ⟨bb_7, (Out_up8 hO1 (by omega)), (fun j hj => by
      by_cases e : j = b
      · rw [e, upN_self]; exact hl9
      · rw [upN_ne _ _ (by omega)]; exact hB1 j (by omega)), (by omega)⟩
                                        exact ih_3 (b + 1, upN B1 ((8 * S) + b) (B1 (((8 * X) + b) - (mWd Y)))) hI_8 (show mWd S - (b + 1) < mWd S - b from by omega) _ _ _ hP hD hS (lv_sub hl [0, 2, 3, 4, 5, 6, 7, 8, 9] rfl)
                                      · skip
                                        have c440 : 8 = 10 := (nI_eq (by omega) (by omega)).mp c440
                                        omega
                                    · skip
                                      have c417 : 8 = 9 := (nI_eq (by omega) (by omega)).mp c417
                                      omega
                                  · skip
                                    have c373 : ¬ ((mWd Y) ≤ b) := fun h => c373 ((nI_leI (by omega) (by omega)).mpr h)
                                    have h := hy1.2.2 (b)
                                    unfold lit at h
                                    rw [if_pos (show b < mWd Y by omega), ← hO1 _ (by omega)] at h
                                    rw [show Y * 8 + b = 8 * Y + b by omega] at h
                                    have hl9b := h.1
                                    refine lv_aload_n hx hb d_Mod_node1_376 rfl (lv_at hl 8 rfl) ?_
                                    refine va_get (D := (dC, dI)) (ci := 6) (v := .ref a_mbit) (C := R_Mod) (T := F_Mod) (N := 27) hx hb hts (wi i_Mod) hown hK hP 0 rfl rfl 13 (by decide) (hts _ (mt 555 rfl rfl)) (fun _ h9 => h9) rfl d_Mod_node1_377 ?_
                                    refine lv_bipush (v := nI 8) hx hb d_Mod_node1_380 rfl ?_
                                    refine lv_iload hx hb d_Mod_node1_382 (lv_at hl 5 rfl) ?_
                                    refine lv_imul hx hb d_Mod_node1_384 ?_
                                    refine k_top (pk_mul _ _) ?_
                                    refine lv_iload hx hb d_Mod_node1_385 (lv_at hl 1 rfl) ?_
                                    refine lv_iadd hx hb d_Mod_node1_387 ?_
                                    refine k_top (nI_add _ _) ?_
                                    refine k_ild hx hb hK hP 6 0 rfl rfl (by omega) (by decide) d_Mod_node1_388 ?_
                                    have hb_9 := b_B1 ((8 * Y) + b)
                                    refine lv_goto (tgt := 412) hx hb d_Mod_node1_389 (by decide) ?_
                                    have hl9 : OKc T mG (B1 ((8 * Y) + b)) (if b < mWd Y then CB Y b else CB X (b - mWd Y)) := by first | (rw [if_pos (by omega)]; exact h) | (rw [if_neg (by omega)]; exact h)
                                    refine lv_istore (lv' := [(9, .int (nI (B1 ((8 * Y) + b)))), (8, .int (nI b)), (7, .int (nI 1)), (6, .int (nI 0)), (5, .int (nI (mWd S))), (4, .int (nI Y)), (3, .int (nI X)), (2, .int (nI 8)), (0, .ref a_mod), (1, .int (nI S))]) hx hb d_Mod_node1_412 hl (by decide) rfl (fun ls hl => ?_)
                                    refine lv_iload_n hx hb d_Mod_node1_414 rfl (lv_at hl 7 rfl) ?_
                                    refine lv_bipush (v := nI 9) hx hb d_Mod_node1_415 rfl ?_
                                    refine lv_icmp_ne (tgt := 437) hx hb d_Mod_node1_417 (by decide) (fun c417 => ?_) (fun c417 => ?_)
                                    · skip
                                      have c417 : ¬ (8 = 9) := fun h => c417 ((nI_eq (by omega) (by omega)).mpr h)
                                      refine lv_iload_n hx hb d_Mod_node1_437 rfl (lv_at hl 7 rfl) ?_
                                      refine lv_bipush (v := nI 10) hx hb d_Mod_node1_438 rfl ?_
                                      refine lv_icmp_ne (tgt := 478) hx hb d_Mod_node1_440 (by decide) (fun c440 => ?_) (fun c440 => ?_)
                                      · skip
                                        have c440 : ¬ (8 = 10) := fun h => c440 ((nI_eq (by omega) (by omega)).mpr h)
                                        refine lv_aload_n hx hb d_Mod_node1_478 rfl (lv_at hl 8 rfl) ?_
                                        refine va_get (D := (dC, dI)) (ci := 6) (v := .ref a_mbit) (C := R_Mod) (T := F_Mod) (N := 27) hx hb hts (wi i_Mod) hown hK hP 0 rfl rfl 13 (by decide) (hts _ (mt 555 rfl rfl)) (fun _ h9 => h9) rfl d_Mod_node1_479 ?_
                                        refine lv_bipush (v := nI 8) hx hb d_Mod_node1_482 rfl ?_
                                        refine lv_iload_n hx hb d_Mod_node1_484 rfl (lv_at hl 9 rfl) ?_
                                        refine lv_imul hx hb d_Mod_node1_485 ?_
                                        refine k_top (pk_mul _ _) ?_
                                        refine lv_iload hx hb d_Mod_node1_486 (lv_at hl 1 rfl) ?_
                                        refine lv_iadd hx hb d_Mod_node1_488 ?_
                                        refine k_top (nI_add _ _) ?_
                                        refine lv_iload hx hb d_Mod_node1_489 (lv_at hl 0 rfl) ?_
                                        refine k_ist hx hb hK hP hD hS 6 0 rfl rfl (by omega) (by decide) d_Mod_node1_491 (fun H locs hP hD hS => ?_)
                                        have bb_10 : ∀ j, upN B1 ((8 * S) + b) (B1 ((8 * Y) + b)) j < 2786 := upN_lt b_B1 (by omega)
                                        have hP : va_P (dC, dI) classes [(a_mod, .inr (6, [.ref a_mkind, .ref a_mwidth, .ref a_mreset, .ref a_mop, .ref a_mka, .ref a_mkb, .ref a_mkc, .ref a_mheld, .int (nI mN), .ref a_msort, .ref a_mof, .ref a_mfrom, .int (nI mMs), .ref a_mbit, .ref a_mdone, .ref a_mrests, .ref a_mxx, .ref a_myy, .ref a_mdepth, .ref a_mone, .int (nI mG), .int (nI mCk), .int mFw, .int (nI mRd), .ref a_mbefore, .ref a_mfirst, .ref a_mturned])), (a_mwidth, .inl (cI, 14, .inl (nF mWd))), (a_mop, .inl (cI, 14, .inl mOp)), (a_mka, .inl (cI, 14, .inl mAa)), (a_mkb, .inl (cI, 14, .inl mAb)), (a_mkc, .inl (cI, 14, .inl mAc)), (a_mbit, .inl (cI, 224, .inl (nF (upN B1 ((8 * S) + b) (B1 ((8 * Y) + b)))))), (a_mxx, .inl (cI, 2600, .inl (nF mX))), (a_myy, .inl (cI, 2600, .inl (nF mY))), (a_mdepth, .inl (cI, 2600, .inl (nF mDe)))] H := hP
                                        have hD : va_D A [(a_mod, .inr (6, [.ref a_mkind, .ref a_mwidth, .ref a_mreset, .ref a_mop, .ref a_mka, .ref a_mkb, .ref a_mkc, .ref a_mheld, .int (nI mN), .ref a_msort, .ref a_mof, .ref a_mfrom, .int (nI mMs), .ref a_mbit, .ref a_mdone, .ref a_mrests, .ref a_mxx, .ref a_myy, .ref a_mdepth, .ref a_mone, .int (nI mG), .int (nI mCk), .int mFw, .int (nI mRd), .ref a_mbefore, .ref a_mfirst, .ref a_mturned])), (a_mwidth, .inl (cI, 14, .inl (nF mWd))), (a_mop, .inl (cI, 14, .inl mOp)), (a_mka, .inl (cI, 14, .inl mAa)), (a_mkb, .inl (cI, 14, .inl mAb)), (a_mkc, .inl (cI, 14, .inl mAc)), (a_mbit, .inl (cI, 224, .inl (nF (upN B1 ((8 * S) + b) (B1 ((8 * Y) + b)))))), (a_mxx, .inl (cI, 2600, .inl (nF mX))), (a_myy, .inl (cI, 2600, .inl (nF mY))), (a_mdepth, .inl (cI, 2600, .inl (nF mDe)))] := hD
                                        refine lv_iinc (v := nI (b + 1)) (lv' := [(8, .int (nI (b + 1))), (9, .int (nI (B1 ((8 * Y) + b)))), (7, .int (nI 1)), (6, .int (nI 0)), (5, .int (nI (mWd S))), (4, .int (nI Y)), (3, .int (nI X)), (2, .int (nI 8)), (0, .ref a_mod), (1, .int (nI S))]) hx hb d_Mod_node1_492 hl (k := 1) rfl (k_inc _ 1) (by decide) rfl (fun ls hl => ?_)
                                        refine lv_goto (tgt := 85) hx hb d_Mod_node1_495 (by decide) ?_
                                        have hI_11 : (∀ j, (upN B1 ((8 * S) + b) (B1 ((8 * Y) + b))) j < 2786) ∧ (Out mBi (upN B1 ((8 * S) + b) (B1 ((8 * Y) + b))) S) ∧ (∀ j, j < (b + 1) → OKc T mG ((upN B1 ((8 * S) + b) (B1 ((8 * Y) + b))) (8 * S + j)) ((if j < mWd Y then CB Y j else CB X (j - mWd Y)))) ∧ ((b + 1) ≤ mWd S) := ⟨bb_10, (Out_up8 hO1 (by omega)), (fun j hj => by
      by_cases e : j = b
      · rw [e, upN_self]; exact hl9
      · rw [upN_ne _ _ (by omega)]; exact hB1 j (by omega)), (by omega)⟩
                                        exact ih_3 (b + 1, upN B1 ((8 * S) + b) (B1 ((8 * Y) + b))) hI_11 (show mWd S - (b + 1) < mWd S - b from by omega) _ _ _ hP hD hS (lv_sub hl [0, 2, 3, 4, 5, 6, 7, 8, 9] rfl)
                                      · skip
                                        have c440 : 8 = 10 := (nI_eq (by omega) (by omega)).mp c440
                                        omega
                                    · skip
                                      have c417 : 8 = 9 := (nI_eq (by omega) (by omega)).mp c417
                                      omega
                              · skip
                                have c326 : 8 = 6 := (nI_eq (by omega) (by omega)).mp c326
                                omega
                            · skip
                              have c248 : 8 = 7 := (nI_eq (by omega) (by omega)).mp c248
                              omega
                        · skip
                          have c228 : 8 = 4 := (nI_eq (by omega) (by omega)).mp c228
                          omega
                      · skip
                        have c210 : 8 = 4 := (nI_eq (by omega) (by omega)).mp c210
                        omega
                    · skip
                      have c184 : 8 = 3 := (nI_eq (by omega) (by omega)).mp c184
                      omega
                  · skip
                    have c158 : 8 = 2 := (nI_eq (by omega) (by omega)).mp c158
                    omega
                · skip
                  have c132 : 8 = 1 := (nI_eq (by omega) (by omega)).mp c132
                  omega
              · skip
                have c111 : 8 = 0 := (nI_eq0 (by omega)).mp c111
                omega
            · skip
              have c95 : 8 = 11 := (nI_eq (by omega) (by omega)).mp c95
              omega
        · skip
          have c69 : 8 = 7 := (nI_eq (by omega) (by omega)).mp c69
          omega
    · skip
      have c31 : 8 = 7 := (nI_eq (by omega) (by omega)).mp c31
      omega
set_option maxHeartbeats 4000000 in
set_option maxRecDepth 100000 in
theorem c_Mod_node1o9 (l : Launch) (dC : Nat → ClassId) (dI : Nat → Nat → Nat) (cI cZ : ClassId) (a_mod a_mkind a_mwidth a_mreset a_mop a_mka a_mkb a_mkc a_mheld a_msort a_mof a_mfrom a_mbit a_mdone a_mrests a_mxx a_myy a_mdepth a_mone a_mbefore a_mfirst a_mturned : Nat) (tt sz : Nat) (mN : Nat) (mMs : Nat) (mG : Nat) (mCk : Nat) (mFw : Int32) (mRd : Nat) (mWd : Nat → Nat) (mOp : Nat → Int32) (mAa : Nat → Int32) (mAb : Nat → Int32) (mAc : Nat → Int32) (mBi : Nat → Nat) (mX : Nat → Nat) (mY : Nat → Nat) (mDe : Nat → Nat) (gd : Nat) (P : Nat → Nat) (Dp : Nat → Nat) (Sl : Nat → Nat) (T : Nat → Nat) (K : List Nat) (CB : Nat → Nat → Nat) (X : Nat) (Y : Nat) (S : Nat) (b_mN : mN ≤ 14) (b_mMs : mMs ≤ 20) (b_mG : mG ≤ 1280) (b_mRd : mRd ≤ 1) (b_mWd : ∀ j, mWd j < 9) (b_mBi : ∀ j, mBi j < 2786) (b_mX : ∀ j, mX j < 2786) (b_mY : ∀ j, mY j < 2786) (b_mDe : ∀ j, mDe j < 1400) (hN : NJ mG gd P Dp Sl T) (hXY : MXY mG mX mY mDe P Dp) (hAL : AL K T mG) (hS14 : S < 14) (hW1 : 1 ≤ mWd S) (hop : mOp S = nI 9) (hax : mAa S = nI X) (hx1 : X < 14 ∧ X ≠ S ∧ ∀ j, OKc T mG (lit mBi mWd X j) (CB X j)) (hay : mAb S = nI Y) (hy1 : Y + mWd S ≤ mWd X) (hgl : ∀ c, c ∈ ncL mWd CB 9 (mAa S) (mAb S) (mAc S) (mWd S) → c ∈ K) : Met l y_Mod_node1 w_Mod_node1 ({ frames := 6, cells := 0, slots := 0, locals := 200 }) (va_Pc [.ref a_mod, .int (nI S)] (PW (dC, dI) classes [(cI, .int), (cZ, .boolean)] tt [(a_mod, .inr (6, [.ref a_mkind, .ref a_mwidth, .ref a_mreset, .ref a_mop, .ref a_mka, .ref a_mkb, .ref a_mkc, .ref a_mheld, .int (nI mN), .ref a_msort, .ref a_mof, .ref a_mfrom, .int (nI mMs), .ref a_mbit, .ref a_mdone, .ref a_mrests, .ref a_mxx, .ref a_myy, .ref a_mdepth, .ref a_mone, .int (nI mG), .int (nI mCk), .int mFw, .int (nI mRd), .ref a_mbefore, .ref a_mfirst, .ref a_mturned])), (a_mwidth, .inl (cI, 14, .inl (nF mWd))), (a_mop, .inl (cI, 14, .inl mOp)), (a_mka, .inl (cI, 14, .inl mAa)), (a_mkb, .inl (cI, 14, .inl mAb)), (a_mkc, .inl (cI, 14, .inl mAc)), (a_mbit, .inl (cI, 224, .inl (nF mBi))), (a_mxx, .inl (cI, 2600, .inl (nF mX))), (a_myy, .inl (cI, 2600, .inl (nF mY))), (a_mdepth, .inl (cI, 2600, .inl (nF mDe)))] sz)) (va_Qv (fun (u : Nat × (Nat → Nat) × (Nat → Nat) × (Nat → Nat) × Nat × (Nat → Nat) × (Nat → Nat) × (Nat → Nat) × (Nat → Nat) × (Nat → Nat)) => (u.1 ≤ 1280) ∧ (∀ j, u.2.1 j < 2786) ∧ (∀ j, u.2.2.1 j < 2786) ∧ (∀ j, u.2.2.2.1 j < 1400) ∧ (∀ j, u.2.2.2.2.2.2.2.2.2 j < 2786) ∧ (NJ u.1 u.2.2.2.2.1 u.2.2.2.2.2.1 u.2.2.2.2.2.2.1 u.2.2.2.2.2.2.2.1 u.2.2.2.2.2.2.2.2.1) ∧ (MXY u.1 u.2.1 u.2.2.1 u.2.2.2.1 u.2.2.2.2.2.1 u.2.2.2.2.2.2.1) ∧ (AL K u.2.2.2.2.2.2.2.2.1 u.1) ∧ (ST T mG u.2.2.2.2.2.2.2.2.1 u.1 (ncL mWd CB 9 (mAa S) (mAb S) (mAc S) (mWd S))) ∧ (Out mBi u.2.2.2.2.2.2.2.2.2 S) ∧ (∀ j, j < mWd S → OKc u.2.2.2.2.2.2.2.2.1 u.1 (u.2.2.2.2.2.2.2.2.2 (8 * S + j)) (nc mWd CB 9 (mAa S) (mAb S) (mAc S) j))) (AT (dC, dI) classes [(cI, .int), (cZ, .boolean)] (va_A [(a_mod, .inr (6, [.ref a_mkind, .ref a_mwidth, .ref a_mreset, .ref a_mop, .ref a_mka, .ref a_mkb, .ref a_mkc, .ref a_mheld, .int (nI mN), .ref a_msort, .ref a_mof, .ref a_mfrom, .int (nI mMs), .ref a_mbit, .ref a_mdone, .ref a_mrests, .ref a_mxx, .ref a_myy, .ref a_mdepth, .ref a_mone, .int (nI mG), .int (nI mCk), .int mFw, .int (nI mRd), .ref a_mbefore, .ref a_mfirst, .ref a_mturned])), (a_mwidth, .inl (cI, 14, .inl (nF mWd))), (a_mop, .inl (cI, 14, .inl mOp)), (a_mka, .inl (cI, 14, .inl mAa)), (a_mkb, .inl (cI, 14, .inl mAb)), (a_mkc, .inl (cI, 14, .inl mAc)), (a_mbit, .inl (cI, 224, .inl (nF mBi))), (a_mxx, .inl (cI, 2600, .inl (nF mX))), (a_myy, .inl (cI, 2600, .inl (nF mY))), (a_mdepth, .inl (cI, 2600, .inl (nF mDe)))] sz) (fun (u : Nat × (Nat → Nat) × (Nat → Nat) × (Nat → Nat) × Nat × (Nat → Nat) × (Nat → Nat) × (Nat → Nat) × (Nat → Nat) × (Nat → Nat)) => [(a_mod, .inr (6, [.ref a_mkind, .ref a_mwidth, .ref a_mreset, .ref a_mop, .ref a_mka, .ref a_mkb, .ref a_mkc, .ref a_mheld, .int (nI mN), .ref a_msort, .ref a_mof, .ref a_mfrom, .int (nI mMs), .ref a_mbit, .ref a_mdone, .ref a_mrests, .ref a_mxx, .ref a_myy, .ref a_mdepth, .ref a_mone, .int (nI u.1), .int (nI mCk), .int mFw, .int (nI mRd), .ref a_mbefore, .ref a_mfirst, .ref a_mturned])), (a_mwidth, .inl (cI, 14, .inl (nF mWd))), (a_mop, .inl (cI, 14, .inl mOp)), (a_mka, .inl (cI, 14, .inl mAa)), (a_mkb, .inl (cI, 14, .inl mAb)), (a_mkc, .inl (cI, 14, .inl mAc)), (a_mbit, .inl (cI, 224, .inl (nF u.2.2.2.2.2.2.2.2.2))), (a_mxx, .inl (cI, 2600, .inl (nF u.2.1))), (a_myy, .inl (cI, 2600, .inl (nF u.2.2.1))), (a_mdepth, .inl (cI, 2600, .inl (nF u.2.2.2.1)))])) (va_A [(a_mod, .inr (6, [.ref a_mkind, .ref a_mwidth, .ref a_mreset, .ref a_mop, .ref a_mka, .ref a_mkb, .ref a_mkc, .ref a_mheld, .int (nI mN), .ref a_msort, .ref a_mof, .ref a_mfrom, .int (nI mMs), .ref a_mbit, .ref a_mdone, .ref a_mrests, .ref a_mxx, .ref a_myy, .ref a_mdepth, .ref a_mone, .int (nI mG), .int (nI mCk), .int mFw, .int (nI mRd), .ref a_mbefore, .ref a_mfirst, .ref a_mturned])), (a_mwidth, .inl (cI, 14, .inl (nF mWd))), (a_mop, .inl (cI, 14, .inl mOp)), (a_mka, .inl (cI, 14, .inl mAa)), (a_mkb, .inl (cI, 14, .inl mAb)), (a_mkc, .inl (cI, 14, .inl mAc)), (a_mbit, .inl (cI, 224, .inl (nF mBi))), (a_mxx, .inl (cI, 2600, .inl (nF mX))), (a_myy, .inl (cI, 2600, .inl (nF mY))), (a_mdepth, .inl (cI, 2600, .inl (nF mDe)))] sz)) 0 0 (va_A [(a_mod, .inr (6, [.ref a_mkind, .ref a_mwidth, .ref a_mreset, .ref a_mop, .ref a_mka, .ref a_mkb, .ref a_mkc, .ref a_mheld, .int (nI mN), .ref a_msort, .ref a_mof, .ref a_mfrom, .int (nI mMs), .ref a_mbit, .ref a_mdone, .ref a_mrests, .ref a_mxx, .ref a_myy, .ref a_mdepth, .ref a_mone, .int (nI mG), .int (nI mCk), .int mFw, .int (nI mRd), .ref a_mbefore, .ref a_mfirst, .ref a_mturned])), (a_mwidth, .inl (cI, 14, .inl (nF mWd))), (a_mop, .inl (cI, 14, .inl mOp)), (a_mka, .inl (cI, 14, .inl mAa)), (a_mkb, .inl (cI, 14, .inl mAb)), (a_mkc, .inl (cI, 14, .inl mAc)), (a_mbit, .inl (cI, 224, .inl (nF mBi))), (a_mxx, .inl (cI, 2600, .inl (nF mX))), (a_myy, .inl (cI, 2600, .inl (nF mY))), (a_mdepth, .inl (cI, 2600, .inl (nF mDe)))] sz) := by
  refine Met.ofW (cc := b_Mod_node1) (maxL := 13) (ret := none) (by decide) rfl ?_
  intro p e s m args below meth c s₁ B hml hv
  obtain ⟨rfl, hsz, hP, hK, hD0, hE⟩ := hv
  have hx := B.exec
  have hb := B.bytes
  have hr := B.returns
  have hts := atoms_spec (ws := w_Mod_node1) B.pre
  have hown : s.vm.findClass R_Mod = some m.cls := findClass_of_methodNamed B.named
  have hlocks := B.notSynchronized
  subst hsz
  have hD := hD0.self (sz := s.heap.size)
  generalize hAe : va_A [(a_mod, .inr (6, [.ref a_mkind, .ref a_mwidth, .ref a_mreset, .ref a_mop, .ref a_mka, .ref a_mkb, .ref a_mkc, .ref a_mheld, .int (nI mN), .ref a_msort, .ref a_mof, .ref a_mfrom, .int (nI mMs), .ref a_mbit, .ref a_mdone, .ref a_mrests, .ref a_mxx, .ref a_myy, .ref a_mdepth, .ref a_mone, .int (nI mG), .int (nI mCk), .int mFw, .int (nI mRd), .ref a_mbefore, .ref a_mfirst, .ref a_mturned])), (a_mwidth, .inl (cI, 14, .inl (nF mWd))), (a_mop, .inl (cI, 14, .inl mOp)), (a_mka, .inl (cI, 14, .inl mAa)), (a_mkb, .inl (cI, 14, .inl mAb)), (a_mkc, .inl (cI, 14, .inl mAc)), (a_mbit, .inl (cI, 224, .inl (nF mBi))), (a_mxx, .inl (cI, 2600, .inl (nF mX))), (a_myy, .inl (cI, 2600, .inl (nF mY))), (a_mdepth, .inl (cI, 2600, .inl (nF mDe)))] s.heap.size = A at hD hE ⊢
  have hA : ∀ q : Nat, s.heap.size ≤ q → A q := fun q h => by rw [← hAe]; exact Or.inr h
  have hS : va_S A s.heap s.heap [] := va_S.rf
  have hP : va_P (dC, dI) classes [(a_mod, .inr (6, [.ref a_mkind, .ref a_mwidth, .ref a_mreset, .ref a_mop, .ref a_mka, .ref a_mkb, .ref a_mkc, .ref a_mheld, .int (nI mN), .ref a_msort, .ref a_mof, .ref a_mfrom, .int (nI mMs), .ref a_mbit, .ref a_mdone, .ref a_mrests, .ref a_mxx, .ref a_myy, .ref a_mdepth, .ref a_mone, .int (nI mG), .int (nI mCk), .int mFw, .int (nI mRd), .ref a_mbefore, .ref a_mfirst, .ref a_mturned])), (a_mwidth, .inl (cI, 14, .inl (nF mWd))), (a_mop, .inl (cI, 14, .inl mOp)), (a_mka, .inl (cI, 14, .inl mAa)), (a_mkb, .inl (cI, 14, .inl mAb)), (a_mkc, .inl (cI, 14, .inl mAc)), (a_mbit, .inl (cI, 224, .inl (nF mBi))), (a_mxx, .inl (cI, 2600, .inl (nF mX))), (a_myy, .inl (cI, 2600, .inl (nF mY))), (a_mdepth, .inl (cI, 2600, .inl (nF mDe)))] s.heap := hP
  have hl := lv_entry ([.ref a_mod, .int (nI S)]) (n := 13) (Nat.le_of_ble_eq_true rfl)
  rw [lg_entry_eq]
  generalize (lg_sl ([.ref a_mod, .int (nI S)]) ++ List.replicate (13 - (lg_sl ([.ref a_mod, .int (nI S)])).length) Slot.unset).toArray = ls at hl ⊢
  have hl : lv_has ls 13 [(0, .ref a_mod), (1, .int (nI S))] := hl
  have eX : ix (mAa S) = X := ix_of hax (by omega)
  have eY : ix (mAb S) = Y := ix_of hay (by have := b_mWd X; omega)
  have hWs := b_mWd S
  have hWx := b_mWd X
  have eL : ncL mWd CB 9 (mAa S) (mAb S) (mAc S) (mWd S) = catL (fun j => []) (mWd S) := rfl
  have eV : ∀ j, nc mWd CB 9 (mAa S) (mAb S) (mAc S) j = CB X (Y + j) := fun j => by show CB (ix (mAa S)) ((ix (mAb S)) + j) = _; rw [eX, eY]
  refine lv_aload_n hx hb d_Mod_node1_0 rfl (lv_at hl 0 rfl) ?_
  refine va_get (D := (dC, dI)) (ci := 6) (v := .ref a_mop) (C := R_Mod) (T := F_Mod) (N := 27) hx hb hts (wi i_Mod) hown hK hP 0 rfl rfl 3 (by decide) (hts _ (mt 545 rfl rfl)) (fun _ h9 => h9) rfl d_Mod_node1_1 ?_
  refine lv_iload_n hx hb d_Mod_node1_4 rfl (lv_at hl 1 rfl) ?_
  refine k_rld hx hb hK hP 2 0 rfl rfl (by omega) (by decide) d_Mod_node1_5 ?_
  refine k_top (show mOp S = nI 9 from hop) ?_
  refine lv_istore_n (lv' := [(2, .int (nI 9)), (0, .ref a_mod), (1, .int (nI S))]) hx hb d_Mod_node1_6 rfl hl (by decide) rfl (fun ls hl => ?_)
  refine lv_aload_n hx hb d_Mod_node1_7 rfl (lv_at hl 1 rfl) ?_
  refine va_get (D := (dC, dI)) (ci := 6) (v := .ref a_mka) (C := R_Mod) (T := F_Mod) (N := 27) hx hb hts (wi i_Mod) hown hK hP 0 rfl rfl 4 (by decide) (hts _ (mt 546 rfl rfl)) (fun _ h9 => h9) rfl d_Mod_node1_8 ?_
  refine lv_iload_n hx hb d_Mod_node1_11 rfl (lv_at hl 2 rfl) ?_
  refine k_rld hx hb hK hP 3 0 rfl rfl (by omega) (by decide) d_Mod_node1_12 ?_
  refine k_top (show mAa S = nI X from hax) ?_
  refine lv_istore_n (lv' := [(3, .int (nI X)), (2, .int (nI 9)), (0, .ref a_mod), (1, .int (nI S))]) hx hb d_Mod_node1_13 rfl hl (by decide) rfl (fun ls hl => ?_)
  refine lv_aload_n hx hb d_Mod_node1_14 rfl (lv_at hl 2 rfl) ?_
  refine va_get (D := (dC, dI)) (ci := 6) (v := .ref a_mkb) (C := R_Mod) (T := F_Mod) (N := 27) hx hb hts (wi i_Mod) hown hK hP 0 rfl rfl 5 (by decide) (hts _ (mt 547 rfl rfl)) (fun _ h9 => h9) rfl d_Mod_node1_15 ?_
  refine lv_iload_n hx hb d_Mod_node1_18 rfl (lv_at hl 3 rfl) ?_
  refine k_rld hx hb hK hP 4 0 rfl rfl (by omega) (by decide) d_Mod_node1_19 ?_
  refine k_top (show mAb S = nI Y from hay) ?_
  refine lv_istore (lv' := [(4, .int (nI Y)), (3, .int (nI X)), (2, .int (nI 9)), (0, .ref a_mod), (1, .int (nI S))]) hx hb d_Mod_node1_20 hl (by decide) rfl (fun ls hl => ?_)
  refine lv_iload_n hx hb d_Mod_node1_22 rfl (lv_at hl 2 rfl) ?_
  refine lv_bipush (v := nI 6) hx hb d_Mod_node1_23 rfl ?_
  refine lv_icmp_eq (tgt := 34) hx hb d_Mod_node1_25 (by decide) (fun c25 => ?_) (fun c25 => ?_)
  · skip
    have c25 : 9 = 6 := (nI_eq (by omega) (by omega)).mp c25
    omega
  · skip
    have c25 : ¬ (9 = 6) := fun h => c25 ((nI_eq (by omega) (by omega)).mpr h)
    refine lv_iload_n hx hb d_Mod_node1_28 rfl (lv_at hl 2 rfl) ?_
    refine lv_bipush (v := nI 7) hx hb d_Mod_node1_29 rfl ?_
    refine lv_icmp_ne (tgt := 53) hx hb d_Mod_node1_31 (by decide) (fun c31 => ?_) (fun c31 => ?_)
    · skip
      have c31 : ¬ (9 = 7) := fun h => c31 ((nI_eq (by omega) (by omega)).mpr h)
      refine lv_aload_n hx hb d_Mod_node1_53 rfl (lv_at hl 3 rfl) ?_
      refine va_get (D := (dC, dI)) (ci := 6) (v := .ref a_mwidth) (C := R_Mod) (T := F_Mod) (N := 27) hx hb hts (wi i_Mod) hown hK hP 0 rfl rfl 1 (by decide) (hts _ (mt 543 rfl rfl)) (fun _ h9 => h9) rfl d_Mod_node1_54 ?_
      refine lv_iload_n hx hb d_Mod_node1_57 rfl (lv_at hl 4 rfl) ?_
      refine k_ild hx hb hK hP 1 0 rfl rfl (by omega) (by decide) d_Mod_node1_58 ?_
      have hb_1 := b_mWd S
      refine lv_istore (lv' := [(5, .int (nI (mWd S))), (4, .int (nI Y)), (3, .int (nI X)), (2, .int (nI 9)), (0, .ref a_mod), (1, .int (nI S))]) hx hb d_Mod_node1_59 hl (by decide) rfl (fun ls hl => ?_)
      refine lv_iload_n hx hb d_Mod_node1_61 rfl (lv_at hl 3 rfl) ?_
      refine lv_iconst (v := nI 5) hx hb d_Mod_node1_62 rfl ?_
      refine lv_icmp_eq (tgt := 72) hx hb d_Mod_node1_63 (by decide) (fun c63 => ?_) (fun c63 => ?_)
      · skip
        have c63 : 9 = 5 := (nI_eq (by omega) (by omega)).mp c63
        omega
      · skip
        have c63 : ¬ (9 = 5) := fun h => c63 ((nI_eq (by omega) (by omega)).mpr h)
        refine lv_iload_n hx hb d_Mod_node1_66 rfl (lv_at hl 3 rfl) ?_
        refine lv_bipush (v := nI 7) hx hb d_Mod_node1_67 rfl ?_
        refine lv_icmp_ne (tgt := 76) hx hb d_Mod_node1_69 (by decide) (fun c69 => ?_) (fun c69 => ?_)
        · skip
          have c69 : ¬ (9 = 7) := fun h => c69 ((nI_eq (by omega) (by omega)).mpr h)
          refine lv_iconst (v := nI 0) hx hb d_Mod_node1_76 rfl ?_
          refine lv_istore (lv' := [(6, .int (nI 0)), (5, .int (nI (mWd S))), (4, .int (nI Y)), (3, .int (nI X)), (2, .int (nI 9)), (0, .ref a_mod), (1, .int (nI S))]) hx hb d_Mod_node1_77 hl (by decide) rfl (fun ls hl => ?_)
          refine lv_iconst (v := nI 1) hx hb d_Mod_node1_79 rfl ?_
          refine lv_istore (lv' := [(7, .int (nI 1)), (6, .int (nI 0)), (5, .int (nI (mWd S))), (4, .int (nI Y)), (3, .int (nI X)), (2, .int (nI 9)), (0, .ref a_mod), (1, .int (nI S))]) hx hb d_Mod_node1_80 hl (by decide) rfl (fun ls hl => ?_)
          refine lv_iconst (v := nI 0) hx hb d_Mod_node1_82 rfl ?_
          refine lv_istore (lv' := [(8, .int (nI 0)), (7, .int (nI 1)), (6, .int (nI 0)), (5, .int (nI (mWd S))), (4, .int (nI Y)), (3, .int (nI X)), (2, .int (nI 9)), (0, .ref a_mod), (1, .int (nI S))]) hx hb d_Mod_node1_83 hl (by decide) rfl (fun ls hl => ?_)
          have hI_2 : (∀ j, mBi j < 2786) ∧ (Out mBi mBi S) ∧ (∀ j, j < 0 → OKc T mG (mBi (8 * S + j)) (CB X (Y + j))) ∧ (0 ≤ mWd S) := ⟨b_mBi, (Out_rf mBi S), (fun j h => absurd h (by omega)), (by omega)⟩
          refine k_loop (σ := Nat × (Nat → Nat)) (D := (dC, dI)) (cl := classes) (A := A) (H0 := s.heap) (fun x => [(a_mod, .inr (6, [.ref a_mkind, .ref a_mwidth, .ref a_mreset, .ref a_mop, .ref a_mka, .ref a_mkb, .ref a_mkc, .ref a_mheld, .int (nI mN), .ref a_msort, .ref a_mof, .ref a_mfrom, .int (nI mMs), .ref a_mbit, .ref a_mdone, .ref a_mrests, .ref a_mxx, .ref a_myy, .ref a_mdepth, .ref a_mone, .int (nI mG), .int (nI mCk), .int mFw, .int (nI mRd), .ref a_mbefore, .ref a_mfirst, .ref a_mturned])), (a_mwidth, .inl (cI, 14, .inl (nF mWd))), (a_mop, .inl (cI, 14, .inl mOp)), (a_mka, .inl (cI, 14, .inl mAa)), (a_mkb, .inl (cI, 14, .inl mAb)), (a_mkc, .inl (cI, 14, .inl mAc)), (a_mbit, .inl (cI, 224, .inl (nF x.2))), (a_mxx, .inl (cI, 2600, .inl (nF mX))), (a_myy, .inl (cI, 2600, .inl (nF mY))), (a_mdepth, .inl (cI, 2600, .inl (nF mDe)))]) (fun x => [(8, .int (nI x.1)), (7, .int (nI 1)), (6, .int (nI 0)), (5, .int (nI (mWd S))), (4, .int (nI Y)), (3, .int (nI X)), (2, .int (nI 9)), (0, .ref a_mod), (1, .int (nI S))]) (fun x => (∀ j, x.2 j < 2786) ∧ (Out mBi x.2 S) ∧ (∀ j, j < x.1 → OKc T mG (x.2 (8 * S + j)) (CB X (Y + j))) ∧ (x.1 ≤ mWd S)) (fun x => mWd S - x.1) ?_ (0, mBi) hI_2 hP hD hS (lv_sub hl [0, 1, 2, 3, 4, 5, 6, 7, 8] rfl)
          rintro ⟨b, B1⟩ hI ih_3 H locs ls hP hD hS hl
          obtain ⟨b_B1, hO1, hB1, hbw⟩ : (∀ j, B1 j < 2786) ∧ (Out mBi B1 S) ∧ (∀ j, j < b → OKc T mG (B1 (8 * S + j)) (CB X (Y + j))) ∧ (b ≤ mWd S) := hI
          have hP : va_P (dC, dI) classes [(a_mod, .inr (6, [.ref a_mkind, .ref a_mwidth, .ref a_mreset, .ref a_mop, .ref a_mka, .ref a_mkb, .ref a_mkc, .ref a_mheld, .int (nI mN), .ref a_msort, .ref a_mof, .ref a_mfrom, .int (nI mMs), .ref a_mbit, .ref a_mdone, .ref a_mrests, .ref a_mxx, .ref a_myy, .ref a_mdepth, .ref a_mone, .int (nI mG), .int (nI mCk), .int mFw, .int (nI mRd), .ref a_mbefore, .ref a_mfirst, .ref a_mturned])), (a_mwidth, .inl (cI, 14, .inl (nF mWd))), (a_mop, .inl (cI, 14, .inl mOp)), (a_mka, .inl (cI, 14, .inl mAa)), (a_mkb, .inl (cI, 14, .inl mAb)), (a_mkc, .inl (cI, 14, .inl mAc)), (a_mbit, .inl (cI, 224, .inl (nF B1))), (a_mxx, .inl (cI, 2600, .inl (nF mX))), (a_myy, .inl (cI, 2600, .inl (nF mY))), (a_mdepth, .inl (cI, 2600, .inl (nF mDe)))] H := hP
          have hD : va_D A [(a_mod, .inr (6, [.ref a_mkind, .ref a_mwidth, .ref a_mreset, .ref a_mop, .ref a_mka, .ref a_mkb, .ref a_mkc, .ref a_mheld, .int (nI mN), .ref a_msort, .ref a_mof, .ref a_mfrom, .int (nI mMs), .ref a_mbit, .ref a_mdone, .ref a_mrests, .ref a_mxx, .ref a_myy, .ref a_mdepth, .ref a_mone, .int (nI mG), .int (nI mCk), .int mFw, .int (nI mRd), .ref a_mbefore, .ref a_mfirst, .ref a_mturned])), (a_mwidth, .inl (cI, 14, .inl (nF mWd))), (a_mop, .inl (cI, 14, .inl mOp)), (a_mka, .inl (cI, 14, .inl mAa)), (a_mkb, .inl (cI, 14, .inl mAb)), (a_mkc, .inl (cI, 14, .inl mAc)), (a_mbit, .inl (cI, 224, .inl (nF B1))), (a_mxx, .inl (cI, 2600, .inl (nF mX))), (a_myy, .inl (cI, 2600, .inl (nF mY))), (a_mdepth, .inl (cI, 2600, .inl (nF mDe)))] := hD
          have hl : lv_has ls 13 [(8, .int (nI b)), (7, .int (nI 1)), (6, .int (nI 0)), (5, .int (nI (mWd S))), (4, .int (nI Y)), (3, .int (nI X)), (2, .int (nI 9)), (0, .ref a_mod), (1, .int (nI S))] := hl
          refine lv_iload hx hb d_Mod_node1_85 (lv_at hl 0 rfl) ?_
          refine lv_iload hx hb d_Mod_node1_87 (lv_at hl 3 rfl) ?_
          refine lv_icmp_ge (tgt := 498) hx hb d_Mod_node1_89 (by decide) (fun c89 => ?_) (fun c89 => ?_)
          · skip
            have c89 : (mWd S) ≤ b := (nI_leI (by omega) (by omega)).mp c89
            refine lv_iload_n hx hb d_Mod_node1_498 rfl (lv_at hl 6 rfl) ?_
            refine lv_bipush (v := nI 6) hx hb d_Mod_node1_499 rfl ?_
            refine lv_icmp_ne (tgt := 515) hx hb d_Mod_node1_501 (by decide) (fun c501 => ?_) (fun c501 => ?_)
            · skip
              have c501 : ¬ (9 = 6) := fun h => c501 ((nI_eq (by omega) (by omega)).mpr h)
              refine lv_iload_n hx hb d_Mod_node1_515 rfl (lv_at hl 6 rfl) ?_
              refine lv_bipush (v := nI 7) hx hb d_Mod_node1_516 rfl ?_
              refine lv_icmp_ne (tgt := 534) hx hb d_Mod_node1_518 (by decide) (fun c518 => ?_) (fun c518 => ?_)
              · skip
                have c518 : ¬ (9 = 7) := fun h => c518 ((nI_eq (by omega) (by omega)).mpr h)
                exact W.vret hx hb hr (fun t ht hW => ⟨⟨(mG, mX, mY, mDe, gd, P, Dp, Sl, T, B1), rfl, ⟨(show mG ≤ 1280 from by omega), b_mX, b_mY, b_mDe, b_B1, (show NJ mG gd P Dp Sl T from hN), (show MXY mG mX mY mDe P Dp from hXY), (show AL K T mG from hAL), (show ST T mG T mG (ncL mWd CB 9 (mAa S) (mAb S) (mAc S) (mWd S)) from ST_rf (by rw [eL]; exact catL_nil _)), (show Out mBi B1 S from hO1), (show ∀ j, j < mWd S → OKc T mG (B1 (8 * S + j)) (nc mWd CB 9 (mAa S) (mAb S) (mAc S) j) from fun j hj => by rw [eV]; exact hB1 j (by omega))⟩, by rw [ht]; exact hP, va_K.moved hW.alike hK, hD⟩, hS.F ht⟩) hS.2.2 d_Mod_node1_534
              · skip
                have c518 : 9 = 7 := (nI_eq (by omega) (by omega)).mp c518
                omega
            · skip
              have c501 : 9 = 6 := (nI_eq (by omega) (by omega)).mp c501
              omega
          · skip
            have c89 : ¬ ((mWd S) ≤ b) := fun h => c89 ((nI_leI (by omega) (by omega)).mpr h)
            refine lv_iload_n hx hb d_Mod_node1_92 rfl (lv_at hl 6 rfl) ?_
            refine lv_bipush (v := nI 11) hx hb d_Mod_node1_93 rfl ?_
            refine lv_icmp_ne (tgt := 107) hx hb d_Mod_node1_95 (by decide) (fun c95 => ?_) (fun c95 => ?_)
            · skip
              have c95 : ¬ (9 = 11) := fun h => c95 ((nI_eq (by omega) (by omega)).mpr h)
              refine lv_iconst (v := nI 0) hx hb d_Mod_node1_107 rfl ?_
              refine lv_istore (lv' := [(9, .int (nI 0)), (8, .int (nI b)), (7, .int (nI 1)), (6, .int (nI 0)), (5, .int (nI (mWd S))), (4, .int (nI Y)), (3, .int (nI X)), (2, .int (nI 9)), (0, .ref a_mod), (1, .int (nI S))]) hx hb d_Mod_node1_108 hl (by decide) rfl (fun ls hl => ?_)
              refine lv_iload_n hx hb d_Mod_node1_110 rfl (lv_at hl 7 rfl) ?_
              refine lv_if_ne (tgt := 130) hx hb d_Mod_node1_111 (by decide) (fun c111 => ?_) (fun c111 => ?_)
              · skip
                have c111 : ¬ (9 = 0) := fun h => c111 ((nI_eq0 (by omega)).mpr h)
                refine lv_iload_n hx hb d_Mod_node1_130 rfl (lv_at hl 7 rfl) ?_
                refine lv_iconst (v := nI 1) hx hb d_Mod_node1_131 rfl ?_
                refine lv_icmp_ne (tgt := 156) hx hb d_Mod_node1_132 (by decide) (fun c132 => ?_) (fun c132 => ?_)
                · skip
                  have c132 : ¬ (9 = 1) := fun h => c132 ((nI_eq (by omega) (by omega)).mpr h)
                  refine lv_iload_n hx hb d_Mod_node1_156 rfl (lv_at hl 7 rfl) ?_
                  refine lv_iconst (v := nI 2) hx hb d_Mod_node1_157 rfl ?_
                  refine lv_icmp_ne (tgt := 182) hx hb d_Mod_node1_158 (by decide) (fun c158 => ?_) (fun c158 => ?_)
                  · skip
                    have c158 : ¬ (9 = 2) := fun h => c158 ((nI_eq (by omega) (by omega)).mpr h)
                    refine lv_iload_n hx hb d_Mod_node1_182 rfl (lv_at hl 7 rfl) ?_
                    refine lv_iconst (v := nI 3) hx hb d_Mod_node1_183 rfl ?_
                    refine lv_icmp_ne (tgt := 208) hx hb d_Mod_node1_184 (by decide) (fun c184 => ?_) (fun c184 => ?_)
                    · skip
                      have c184 : ¬ (9 = 3) := fun h => c184 ((nI_eq (by omega) (by omega)).mpr h)
                      refine lv_iload_n hx hb d_Mod_node1_208 rfl (lv_at hl 7 rfl) ?_
                      refine lv_iconst (v := nI 4) hx hb d_Mod_node1_209 rfl ?_
                      refine lv_icmp_ne (tgt := 226) hx hb d_Mod_node1_210 (by decide) (fun c210 => ?_) (fun c210 => ?_)
                      · skip
                        have c210 : ¬ (9 = 4) := fun h => c210 ((nI_eq (by omega) (by omega)).mpr h)
                        refine lv_iload_n hx hb d_Mod_node1_226 rfl (lv_at hl 7 rfl) ?_
                        refine lv_iconst (v := nI 4) hx hb d_Mod_node1_227 rfl ?_
                        refine lv_icmp_ne (tgt := 240) hx hb d_Mod_node1_228 (by decide) (fun c228 => ?_) (fun c228 => ?_)
                        · skip
                          have c228 : ¬ (9 = 4) := fun h => c228 ((nI_eq (by omega) (by omega)).mpr h)
                          refine lv_iload_n hx hb d_Mod_node1_240 rfl (lv_at hl 7 rfl) ?_
                          refine lv_iconst (v := nI 5) hx hb d_Mod_node1_241 rfl ?_
                          refine lv_icmp_eq (tgt := 251) hx hb d_Mod_node1_242 (by decide) (fun c242 => ?_) (fun c242 => ?_)
                          · skip
                            have c242 : 9 = 5 := (nI_eq (by omega) (by omega)).mp c242
                            omega
                          · skip
                            have c242 : ¬ (9 = 5) := fun h => c242 ((nI_eq (by omega) (by omega)).mpr h)
                            refine lv_iload_n hx hb d_Mod_node1_245 rfl (lv_at hl 7 rfl) ?_
                            refine lv_bipush (v := nI 7) hx hb d_Mod_node1_246 rfl ?_
                            refine lv_icmp_ne (tgt := 323) hx hb d_Mod_node1_248 (by decide) (fun c248 => ?_) (fun c248 => ?_)
                            · skip
                              have c248 : ¬ (9 = 7) := fun h => c248 ((nI_eq (by omega) (by omega)).mpr h)
                              refine lv_iload_n hx hb d_Mod_node1_323 rfl (lv_at hl 7 rfl) ?_
                              refine lv_bipush (v := nI 6) hx hb d_Mod_node1_324 rfl ?_
                              refine lv_icmp_ne (tgt := 358) hx hb d_Mod_node1_326 (by decide) (fun c326 => ?_) (fun c326 => ?_)
                              · skip
                                have c326 : ¬ (9 = 6) := fun h => c326 ((nI_eq (by omega) (by omega)).mpr h)
                                refine lv_iload_n hx hb d_Mod_node1_358 rfl (lv_at hl 7 rfl) ?_
                                refine lv_bipush (v := nI 8) hx hb d_Mod_node1_359 rfl ?_
                                refine lv_icmp_ne (tgt := 414) hx hb d_Mod_node1_361 (by decide) (fun c361 => ?_) (fun c361 => ?_)
                                · skip
                                  have c361 : ¬ (9 = 8) := fun h => c361 ((nI_eq (by omega) (by omega)).mpr h)
                                  refine lv_iload_n hx hb d_Mod_node1_414 rfl (lv_at hl 7 rfl) ?_
                                  refine lv_bipush (v := nI 9) hx hb d_Mod_node1_415 rfl ?_
                                  refine lv_icmp_ne (tgt := 437) hx hb d_Mod_node1_417 (by decide) (fun c417 => ?_) (fun c417 => ?_)
                                  · skip
                                    have c417 : ¬ (9 = 9) := fun h => c417 ((nI_eq (by omega) (by omega)).mpr h)
                                    omega
                                  · skip
                                    have c417 : 9 = 9 := (nI_eq (by omega) (by omega)).mp c417
                                    have h := hx1.2.2 (Y + b)
                                    unfold lit at h
                                    rw [if_pos (show Y + b < mWd X by omega), ← hO1 _ (by omega)] at h
                                    rw [show X * 8 + (Y + b) = 8 * X + Y + b by omega] at h
                                    have hl9 := h
                                    refine lv_aload_n hx hb d_Mod_node1_420 rfl (lv_at hl 8 rfl) ?_
                                    refine va_get (D := (dC, dI)) (ci := 6) (v := .ref a_mbit) (C := R_Mod) (T := F_Mod) (N := 27) hx hb hts (wi i_Mod) hown hK hP 0 rfl rfl 13 (by decide) (hts _ (mt 555 rfl rfl)) (fun _ h9 => h9) rfl d_Mod_node1_421 ?_
                                    refine lv_bipush (v := nI 8) hx hb d_Mod_node1_424 rfl ?_
                                    refine lv_iload_n hx hb d_Mod_node1_426 rfl (lv_at hl 6 rfl) ?_
                                    refine lv_imul hx hb d_Mod_node1_427 ?_
                                    refine k_top (pk_mul _ _) ?_
                                    refine lv_iload hx hb d_Mod_node1_428 (lv_at hl 5 rfl) ?_
                                    refine lv_iadd hx hb d_Mod_node1_430 ?_
                                    refine k_top (nI_add _ _) ?_
                                    refine lv_iload hx hb d_Mod_node1_431 (lv_at hl 1 rfl) ?_
                                    refine lv_iadd hx hb d_Mod_node1_433 ?_
                                    refine k_top (nI_add _ _) ?_
                                    refine k_ild hx hb hK hP 6 0 rfl rfl (by omega) (by decide) d_Mod_node1_434 ?_
                                    have hb_4 := b_B1 (((8 * X) + Y) + b)
                                    refine lv_istore (lv' := [(9, .int (nI (B1 (((8 * X) + Y) + b)))), (8, .int (nI b)), (7, .int (nI 1)), (6, .int (nI 0)), (5, .int (nI (mWd S))), (4, .int (nI Y)), (3, .int (nI X)), (2, .int (nI 9)), (0, .ref a_mod), (1, .int (nI S))]) hx hb d_Mod_node1_435 hl (by decide) rfl (fun ls hl => ?_)
                                    refine lv_iload_n hx hb d_Mod_node1_437 rfl (lv_at hl 7 rfl) ?_
                                    refine lv_bipush (v := nI 10) hx hb d_Mod_node1_438 rfl ?_
                                    refine lv_icmp_ne (tgt := 478) hx hb d_Mod_node1_440 (by decide) (fun c440 => ?_) (fun c440 => ?_)
                                    · skip
                                      have c440 : ¬ (9 = 10) := fun h => c440 ((nI_eq (by omega) (by omega)).mpr h)
                                      refine lv_aload_n hx hb d_Mod_node1_478 rfl (lv_at hl 8 rfl) ?_
                                      refine va_get (D := (dC, dI)) (ci := 6) (v := .ref a_mbit) (C := R_Mod) (T := F_Mod) (N := 27) hx hb hts (wi i_Mod) hown hK hP 0 rfl rfl 13 (by decide) (hts _ (mt 555 rfl rfl)) (fun _ h9 => h9) rfl d_Mod_node1_479 ?_
                                      refine lv_bipush (v := nI 8) hx hb d_Mod_node1_482 rfl ?_
                                      refine lv_iload_n hx hb d_Mod_node1_484 rfl (lv_at hl 9 rfl) ?_
                                      refine lv_imul hx hb d_Mod_node1_485 ?_
                                      refine k_top (pk_mul _ _) ?_
                                      refine lv_iload hx hb d_Mod_node1_486 (lv_at hl 1 rfl) ?_
                                      refine lv_iadd hx hb d_Mod_node1_488 ?_
                                      refine k_top (nI_add _ _) ?_
                                      refine lv_iload hx hb d_Mod_node1_489 (lv_at hl 0 rfl) ?_
                                      refine k_ist hx hb hK hP hD hS 6 0 rfl rfl (by omega) (by decide) d_Mod_node1_491 (fun H locs hP hD hS => ?_)
                                      have bb_5 : ∀ j, upN B1 ((8 * S) + b) (B1 (((8 * X) + Y) + b)) j < 2786 := upN_lt b_B1 (by omega)
                                      have hP : va_P (dC, dI) classes [(a_mod, .inr (6, [.ref a_mkind, .ref a_mwidth, .ref a_mreset, .ref a_mop, .ref a_mka, .ref a_mkb, .ref a_mkc, .ref a_mheld, .int (nI mN), .ref a_msort, .ref a_mof, .ref a_mfrom, .int (nI mMs), .ref a_mbit, .ref a_mdone, .ref a_mrests, .ref a_mxx, .ref a_myy, .ref a_mdepth, .ref a_mone, .int (nI mG), .int (nI mCk), .int mFw, .int (nI mRd), .ref a_mbefore, .ref a_mfirst, .ref a_mturned])), (a_mwidth, .inl (cI, 14, .inl (nF mWd))), (a_mop, .inl (cI, 14, .inl mOp)), (a_mka, .inl (cI, 14, .inl mAa)), (a_mkb, .inl (cI, 14, .inl mAb)), (a_mkc, .inl (cI, 14, .inl mAc)), (a_mbit, .inl (cI, 224, .inl (nF (upN B1 ((8 * S) + b) (B1 (((8 * X) + Y) + b)))))), (a_mxx, .inl (cI, 2600, .inl (nF mX))), (a_myy, .inl (cI, 2600, .inl (nF mY))), (a_mdepth, .inl (cI, 2600, .inl (nF mDe)))] H := hP
                                      have hD : va_D A [(a_mod, .inr (6, [.ref a_mkind, .ref a_mwidth, .ref a_mreset, .ref a_mop, .ref a_mka, .ref a_mkb, .ref a_mkc, .ref a_mheld, .int (nI mN), .ref a_msort, .ref a_mof, .ref a_mfrom, .int (nI mMs), .ref a_mbit, .ref a_mdone, .ref a_mrests, .ref a_mxx, .ref a_myy, .ref a_mdepth, .ref a_mone, .int (nI mG), .int (nI mCk), .int mFw, .int (nI mRd), .ref a_mbefore, .ref a_mfirst, .ref a_mturned])), (a_mwidth, .inl (cI, 14, .inl (nF mWd))), (a_mop, .inl (cI, 14, .inl mOp)), (a_mka, .inl (cI, 14, .inl mAa)), (a_mkb, .inl (cI, 14, .inl mAb)), (a_mkc, .inl (cI, 14, .inl mAc)), (a_mbit, .inl (cI, 224, .inl (nF (upN B1 ((8 * S) + b) (B1 (((8 * X) + Y) + b)))))), (a_mxx, .inl (cI, 2600, .inl (nF mX))), (a_myy, .inl (cI, 2600, .inl (nF mY))), (a_mdepth, .inl (cI, 2600, .inl (nF mDe)))] := hD
                                      refine lv_iinc (v := nI (b + 1)) (lv' := [(8, .int (nI (b + 1))), (9, .int (nI (B1 (((8 * X) + Y) + b)))), (7, .int (nI 1)), (6, .int (nI 0)), (5, .int (nI (mWd S))), (4, .int (nI Y)), (3, .int (nI X)), (2, .int (nI 9)), (0, .ref a_mod), (1, .int (nI S))]) hx hb d_Mod_node1_492 hl (k := 1) rfl (k_inc _ 1) (by decide) rfl (fun ls hl => ?_)
                                      refine lv_goto (tgt := 85) hx hb d_Mod_node1_495 (by decide) ?_
                                      have hI_6 : (∀ j, (upN B1 ((8 * S) + b) (B1 (((8 * X) + Y) + b))) j < 2786) ∧ (Out mBi (upN B1 ((8 * S) + b) (B1 (((8 * X) + Y) + b))) S) ∧ (∀ j, j < (b + 1) → OKc T mG ((upN B1 ((8 * S) + b) (B1 (((8 * X) + Y) + b))) (8 * S + j)) (CB X (Y + j))) ∧ ((b + 1) ≤ mWd S) := ⟨bb_5, (Out_up8 hO1 (by omega)), (fun j hj => by
      by_cases e : j = b
      · rw [e, upN_self]; exact hl9
      · rw [upN_ne _ _ (by omega)]; exact hB1 j (by omega)), (by omega)⟩
                                      exact ih_3 (b + 1, upN B1 ((8 * S) + b) (B1 (((8 * X) + Y) + b))) hI_6 (show mWd S - (b + 1) < mWd S - b from by omega) _ _ _ hP hD hS (lv_sub hl [0, 2, 3, 4, 5, 6, 7, 8, 9] rfl)
                                    · skip
                                      have c440 : 9 = 10 := (nI_eq (by omega) (by omega)).mp c440
                                      omega
                                · skip
                                  have c361 : 9 = 8 := (nI_eq (by omega) (by omega)).mp c361
                                  omega
                              · skip
                                have c326 : 9 = 6 := (nI_eq (by omega) (by omega)).mp c326
                                omega
                            · skip
                              have c248 : 9 = 7 := (nI_eq (by omega) (by omega)).mp c248
                              omega
                        · skip
                          have c228 : 9 = 4 := (nI_eq (by omega) (by omega)).mp c228
                          omega
                      · skip
                        have c210 : 9 = 4 := (nI_eq (by omega) (by omega)).mp c210
                        omega
                    · skip
                      have c184 : 9 = 3 := (nI_eq (by omega) (by omega)).mp c184
                      omega
                  · skip
                    have c158 : 9 = 2 := (nI_eq (by omega) (by omega)).mp c158
                    omega
                · skip
                  have c132 : 9 = 1 := (nI_eq (by omega) (by omega)).mp c132
                  omega
              · skip
                have c111 : 9 = 0 := (nI_eq0 (by omega)).mp c111
                omega
            · skip
              have c95 : 9 = 11 := (nI_eq (by omega) (by omega)).mp c95
              omega
        · skip
          have c69 : 9 = 7 := (nI_eq (by omega) (by omega)).mp c69
          omega
    · skip
      have c31 : 9 = 7 := (nI_eq (by omega) (by omega)).mp c31
      omega
set_option maxHeartbeats 4000000 in
set_option maxRecDepth 100000 in
theorem c_Mod_node1o10 (l : Launch) (dC : Nat → ClassId) (dI : Nat → Nat → Nat) (cI cZ : ClassId) (a_mod a_mkind a_mwidth a_mreset a_mop a_mka a_mkb a_mkc a_mheld a_msort a_mof a_mfrom a_mbit a_mdone a_mrests a_mxx a_myy a_mdepth a_mone a_mbefore a_mfirst a_mturned : Nat) (tt sz : Nat) (mN : Nat) (mMs : Nat) (mG : Nat) (mCk : Nat) (mFw : Int32) (mRd : Nat) (mWd : Nat → Nat) (mOp : Nat → Int32) (mAa : Nat → Int32) (mAb : Nat → Int32) (mAc : Nat → Int32) (mBi : Nat → Nat) (mX : Nat → Nat) (mY : Nat → Nat) (mDe : Nat → Nat) (gd : Nat) (P : Nat → Nat) (Dp : Nat → Nat) (Sl : Nat → Nat) (T : Nat → Nat) (K : List Nat) (CB : Nat → Nat → Nat) (X : Nat) (Y : Nat) (Z : Nat) (S : Nat) (b_mN : mN ≤ 14) (b_mMs : mMs ≤ 20) (b_mG : mG ≤ 1280) (b_mRd : mRd ≤ 1) (b_mWd : ∀ j, mWd j < 9) (b_mBi : ∀ j, mBi j < 2786) (b_mX : ∀ j, mX j < 2786) (b_mY : ∀ j, mY j < 2786) (b_mDe : ∀ j, mDe j < 1400) (hN : NJ mG gd P Dp Sl T) (hXY : MXY mG mX mY mDe P Dp) (hAL : AL K T mG) (hS14 : S < 14) (hW1 : 1 ≤ mWd S) (hop : mOp S = nI 10) (hax : mAa S = nI X) (hx1 : X < 14 ∧ X ≠ S ∧ ∀ j, OKc T mG (lit mBi mWd X j) (CB X j)) (hay : mAb S = nI Y) (hy1 : Y < 14 ∧ Y ≠ S ∧ ∀ j, OKc T mG (lit mBi mWd Y j) (CB Y j)) (haz : mAc S = nI Z) (hz1 : Z < 14 ∧ Z ≠ S ∧ ∀ j, OKc T mG (lit mBi mWd Z j) (CB Z j)) (hwx1 : 1 ≤ mWd X) (hgl : ∀ c, c ∈ ncL mWd CB 10 (mAa S) (mAb S) (mAc S) (mWd S) → c ∈ K) : Met l y_Mod_node1 w_Mod_node1 ({ frames := 6, cells := 0, slots := 0, locals := 200 }) (va_Pc [.ref a_mod, .int (nI S)] (PW (dC, dI) classes [(cI, .int), (cZ, .boolean)] tt [(a_mod, .inr (6, [.ref a_mkind, .ref a_mwidth, .ref a_mreset, .ref a_mop, .ref a_mka, .ref a_mkb, .ref a_mkc, .ref a_mheld, .int (nI mN), .ref a_msort, .ref a_mof, .ref a_mfrom, .int (nI mMs), .ref a_mbit, .ref a_mdone, .ref a_mrests, .ref a_mxx, .ref a_myy, .ref a_mdepth, .ref a_mone, .int (nI mG), .int (nI mCk), .int mFw, .int (nI mRd), .ref a_mbefore, .ref a_mfirst, .ref a_mturned])), (a_mwidth, .inl (cI, 14, .inl (nF mWd))), (a_mop, .inl (cI, 14, .inl mOp)), (a_mka, .inl (cI, 14, .inl mAa)), (a_mkb, .inl (cI, 14, .inl mAb)), (a_mkc, .inl (cI, 14, .inl mAc)), (a_mbit, .inl (cI, 224, .inl (nF mBi))), (a_mxx, .inl (cI, 2600, .inl (nF mX))), (a_myy, .inl (cI, 2600, .inl (nF mY))), (a_mdepth, .inl (cI, 2600, .inl (nF mDe)))] sz)) (va_Qv (fun (u : Nat × (Nat → Nat) × (Nat → Nat) × (Nat → Nat) × Nat × (Nat → Nat) × (Nat → Nat) × (Nat → Nat) × (Nat → Nat) × (Nat → Nat)) => (u.1 ≤ 1280) ∧ (∀ j, u.2.1 j < 2786) ∧ (∀ j, u.2.2.1 j < 2786) ∧ (∀ j, u.2.2.2.1 j < 1400) ∧ (∀ j, u.2.2.2.2.2.2.2.2.2 j < 2786) ∧ (NJ u.1 u.2.2.2.2.1 u.2.2.2.2.2.1 u.2.2.2.2.2.2.1 u.2.2.2.2.2.2.2.1 u.2.2.2.2.2.2.2.2.1) ∧ (MXY u.1 u.2.1 u.2.2.1 u.2.2.2.1 u.2.2.2.2.2.1 u.2.2.2.2.2.2.1) ∧ (AL K u.2.2.2.2.2.2.2.2.1 u.1) ∧ (ST T mG u.2.2.2.2.2.2.2.2.1 u.1 (ncL mWd CB 10 (mAa S) (mAb S) (mAc S) (mWd S))) ∧ (Out mBi u.2.2.2.2.2.2.2.2.2 S) ∧ (∀ j, j < mWd S → OKc u.2.2.2.2.2.2.2.2.1 u.1 (u.2.2.2.2.2.2.2.2.2 (8 * S + j)) (nc mWd CB 10 (mAa S) (mAb S) (mAc S) j))) (AT (dC, dI) classes [(cI, .int), (cZ, .boolean)] (va_A [(a_mod, .inr (6, [.ref a_mkind, .ref a_mwidth, .ref a_mreset, .ref a_mop, .ref a_mka, .ref a_mkb, .ref a_mkc, .ref a_mheld, .int (nI mN), .ref a_msort, .ref a_mof, .ref a_mfrom, .int (nI mMs), .ref a_mbit, .ref a_mdone, .ref a_mrests, .ref a_mxx, .ref a_myy, .ref a_mdepth, .ref a_mone, .int (nI mG), .int (nI mCk), .int mFw, .int (nI mRd), .ref a_mbefore, .ref a_mfirst, .ref a_mturned])), (a_mwidth, .inl (cI, 14, .inl (nF mWd))), (a_mop, .inl (cI, 14, .inl mOp)), (a_mka, .inl (cI, 14, .inl mAa)), (a_mkb, .inl (cI, 14, .inl mAb)), (a_mkc, .inl (cI, 14, .inl mAc)), (a_mbit, .inl (cI, 224, .inl (nF mBi))), (a_mxx, .inl (cI, 2600, .inl (nF mX))), (a_myy, .inl (cI, 2600, .inl (nF mY))), (a_mdepth, .inl (cI, 2600, .inl (nF mDe)))] sz) (fun (u : Nat × (Nat → Nat) × (Nat → Nat) × (Nat → Nat) × Nat × (Nat → Nat) × (Nat → Nat) × (Nat → Nat) × (Nat → Nat) × (Nat → Nat)) => [(a_mod, .inr (6, [.ref a_mkind, .ref a_mwidth, .ref a_mreset, .ref a_mop, .ref a_mka, .ref a_mkb, .ref a_mkc, .ref a_mheld, .int (nI mN), .ref a_msort, .ref a_mof, .ref a_mfrom, .int (nI mMs), .ref a_mbit, .ref a_mdone, .ref a_mrests, .ref a_mxx, .ref a_myy, .ref a_mdepth, .ref a_mone, .int (nI u.1), .int (nI mCk), .int mFw, .int (nI mRd), .ref a_mbefore, .ref a_mfirst, .ref a_mturned])), (a_mwidth, .inl (cI, 14, .inl (nF mWd))), (a_mop, .inl (cI, 14, .inl mOp)), (a_mka, .inl (cI, 14, .inl mAa)), (a_mkb, .inl (cI, 14, .inl mAb)), (a_mkc, .inl (cI, 14, .inl mAc)), (a_mbit, .inl (cI, 224, .inl (nF u.2.2.2.2.2.2.2.2.2))), (a_mxx, .inl (cI, 2600, .inl (nF u.2.1))), (a_myy, .inl (cI, 2600, .inl (nF u.2.2.1))), (a_mdepth, .inl (cI, 2600, .inl (nF u.2.2.2.1)))])) (va_A [(a_mod, .inr (6, [.ref a_mkind, .ref a_mwidth, .ref a_mreset, .ref a_mop, .ref a_mka, .ref a_mkb, .ref a_mkc, .ref a_mheld, .int (nI mN), .ref a_msort, .ref a_mof, .ref a_mfrom, .int (nI mMs), .ref a_mbit, .ref a_mdone, .ref a_mrests, .ref a_mxx, .ref a_myy, .ref a_mdepth, .ref a_mone, .int (nI mG), .int (nI mCk), .int mFw, .int (nI mRd), .ref a_mbefore, .ref a_mfirst, .ref a_mturned])), (a_mwidth, .inl (cI, 14, .inl (nF mWd))), (a_mop, .inl (cI, 14, .inl mOp)), (a_mka, .inl (cI, 14, .inl mAa)), (a_mkb, .inl (cI, 14, .inl mAb)), (a_mkc, .inl (cI, 14, .inl mAc)), (a_mbit, .inl (cI, 224, .inl (nF mBi))), (a_mxx, .inl (cI, 2600, .inl (nF mX))), (a_myy, .inl (cI, 2600, .inl (nF mY))), (a_mdepth, .inl (cI, 2600, .inl (nF mDe)))] sz)) 0 0 (va_A [(a_mod, .inr (6, [.ref a_mkind, .ref a_mwidth, .ref a_mreset, .ref a_mop, .ref a_mka, .ref a_mkb, .ref a_mkc, .ref a_mheld, .int (nI mN), .ref a_msort, .ref a_mof, .ref a_mfrom, .int (nI mMs), .ref a_mbit, .ref a_mdone, .ref a_mrests, .ref a_mxx, .ref a_myy, .ref a_mdepth, .ref a_mone, .int (nI mG), .int (nI mCk), .int mFw, .int (nI mRd), .ref a_mbefore, .ref a_mfirst, .ref a_mturned])), (a_mwidth, .inl (cI, 14, .inl (nF mWd))), (a_mop, .inl (cI, 14, .inl mOp)), (a_mka, .inl (cI, 14, .inl mAa)), (a_mkb, .inl (cI, 14, .inl mAb)), (a_mkc, .inl (cI, 14, .inl mAc)), (a_mbit, .inl (cI, 224, .inl (nF mBi))), (a_mxx, .inl (cI, 2600, .inl (nF mX))), (a_myy, .inl (cI, 2600, .inl (nF mY))), (a_mdepth, .inl (cI, 2600, .inl (nF mDe)))] sz) := by
  refine Met.ofW (cc := b_Mod_node1) (maxL := 13) (ret := none) (by decide) rfl ?_
  intro p e s m args below meth c s₁ B hml hv
  obtain ⟨rfl, hsz, hP, hK, hD0, hE⟩ := hv
  have hx := B.exec
  have hb := B.bytes
  have hr := B.returns
  have hts := atoms_spec (ws := w_Mod_node1) B.pre
  have hown : s.vm.findClass R_Mod = some m.cls := findClass_of_methodNamed B.named
  have hlocks := B.notSynchronized
  subst hsz
  have hD := hD0.self (sz := s.heap.size)
  generalize hAe : va_A [(a_mod, .inr (6, [.ref a_mkind, .ref a_mwidth, .ref a_mreset, .ref a_mop, .ref a_mka, .ref a_mkb, .ref a_mkc, .ref a_mheld, .int (nI mN), .ref a_msort, .ref a_mof, .ref a_mfrom, .int (nI mMs), .ref a_mbit, .ref a_mdone, .ref a_mrests, .ref a_mxx, .ref a_myy, .ref a_mdepth, .ref a_mone, .int (nI mG), .int (nI mCk), .int mFw, .int (nI mRd), .ref a_mbefore, .ref a_mfirst, .ref a_mturned])), (a_mwidth, .inl (cI, 14, .inl (nF mWd))), (a_mop, .inl (cI, 14, .inl mOp)), (a_mka, .inl (cI, 14, .inl mAa)), (a_mkb, .inl (cI, 14, .inl mAb)), (a_mkc, .inl (cI, 14, .inl mAc)), (a_mbit, .inl (cI, 224, .inl (nF mBi))), (a_mxx, .inl (cI, 2600, .inl (nF mX))), (a_myy, .inl (cI, 2600, .inl (nF mY))), (a_mdepth, .inl (cI, 2600, .inl (nF mDe)))] s.heap.size = A at hD hE ⊢
  have hA : ∀ q : Nat, s.heap.size ≤ q → A q := fun q h => by rw [← hAe]; exact Or.inr h
  have hS : va_S A s.heap s.heap [] := va_S.rf
  have hP : va_P (dC, dI) classes [(a_mod, .inr (6, [.ref a_mkind, .ref a_mwidth, .ref a_mreset, .ref a_mop, .ref a_mka, .ref a_mkb, .ref a_mkc, .ref a_mheld, .int (nI mN), .ref a_msort, .ref a_mof, .ref a_mfrom, .int (nI mMs), .ref a_mbit, .ref a_mdone, .ref a_mrests, .ref a_mxx, .ref a_myy, .ref a_mdepth, .ref a_mone, .int (nI mG), .int (nI mCk), .int mFw, .int (nI mRd), .ref a_mbefore, .ref a_mfirst, .ref a_mturned])), (a_mwidth, .inl (cI, 14, .inl (nF mWd))), (a_mop, .inl (cI, 14, .inl mOp)), (a_mka, .inl (cI, 14, .inl mAa)), (a_mkb, .inl (cI, 14, .inl mAb)), (a_mkc, .inl (cI, 14, .inl mAc)), (a_mbit, .inl (cI, 224, .inl (nF mBi))), (a_mxx, .inl (cI, 2600, .inl (nF mX))), (a_myy, .inl (cI, 2600, .inl (nF mY))), (a_mdepth, .inl (cI, 2600, .inl (nF mDe)))] s.heap := hP
  have hl := lv_entry ([.ref a_mod, .int (nI S)]) (n := 13) (Nat.le_of_ble_eq_true rfl)
  rw [lg_entry_eq]
  generalize (lg_sl ([.ref a_mod, .int (nI S)]) ++ List.replicate (13 - (lg_sl ([.ref a_mod, .int (nI S)])).length) Slot.unset).toArray = ls at hl ⊢
  have hl : lv_has ls 13 [(0, .ref a_mod), (1, .int (nI S))] := hl
  have eX : ix (mAa S) = X := ix_of hax (by omega)
  have eY : ix (mAb S) = Y := ix_of hay (by have := b_mWd X; omega)
  have eZ : ix (mAc S) = Z := ix_of haz (by omega)
  have hWs := b_mWd S
  have hWx := b_mWd X
  have hWy := b_mWd Y
  have eL : ncL mWd CB 10 (mAa S) (mAb S) (mAc S) (mWd S) = catL (fun j => pkl (CB X 0) (CB Y j) (CB Z j)) (mWd S) := by show catL (fun j => pkl (CB (ix (mAa S)) 0) (CB (ix (mAb S)) j) (CB (ix (mAc S)) j)) (mWd S) = _; rw [eX, eY, eZ]
  have eV : ∀ j, nc mWd CB 10 (mAa S) (mAb S) (mAc S) j = pk (CB X 0) (CB Y j) (CB Z j) := fun j => by show pk (CB (ix (mAa S)) 0) (CB (ix (mAb S)) j) (CB (ix (mAc S)) j) = _; rw [eX, eY, eZ]
  refine lv_aload_n hx hb d_Mod_node1_0 rfl (lv_at hl 0 rfl) ?_
  refine va_get (D := (dC, dI)) (ci := 6) (v := .ref a_mop) (C := R_Mod) (T := F_Mod) (N := 27) hx hb hts (wi i_Mod) hown hK hP 0 rfl rfl 3 (by decide) (hts _ (mt 545 rfl rfl)) (fun _ h9 => h9) rfl d_Mod_node1_1 ?_
  refine lv_iload_n hx hb d_Mod_node1_4 rfl (lv_at hl 1 rfl) ?_
  refine k_rld hx hb hK hP 2 0 rfl rfl (by omega) (by decide) d_Mod_node1_5 ?_
  refine k_top (show mOp S = nI 10 from hop) ?_
  refine lv_istore_n (lv' := [(2, .int (nI 10)), (0, .ref a_mod), (1, .int (nI S))]) hx hb d_Mod_node1_6 rfl hl (by decide) rfl (fun ls hl => ?_)
  refine lv_aload_n hx hb d_Mod_node1_7 rfl (lv_at hl 1 rfl) ?_
  refine va_get (D := (dC, dI)) (ci := 6) (v := .ref a_mka) (C := R_Mod) (T := F_Mod) (N := 27) hx hb hts (wi i_Mod) hown hK hP 0 rfl rfl 4 (by decide) (hts _ (mt 546 rfl rfl)) (fun _ h9 => h9) rfl d_Mod_node1_8 ?_
  refine lv_iload_n hx hb d_Mod_node1_11 rfl (lv_at hl 2 rfl) ?_
  refine k_rld hx hb hK hP 3 0 rfl rfl (by omega) (by decide) d_Mod_node1_12 ?_
  refine k_top (show mAa S = nI X from hax) ?_
  refine lv_istore_n (lv' := [(3, .int (nI X)), (2, .int (nI 10)), (0, .ref a_mod), (1, .int (nI S))]) hx hb d_Mod_node1_13 rfl hl (by decide) rfl (fun ls hl => ?_)
  refine lv_aload_n hx hb d_Mod_node1_14 rfl (lv_at hl 2 rfl) ?_
  refine va_get (D := (dC, dI)) (ci := 6) (v := .ref a_mkb) (C := R_Mod) (T := F_Mod) (N := 27) hx hb hts (wi i_Mod) hown hK hP 0 rfl rfl 5 (by decide) (hts _ (mt 547 rfl rfl)) (fun _ h9 => h9) rfl d_Mod_node1_15 ?_
  refine lv_iload_n hx hb d_Mod_node1_18 rfl (lv_at hl 3 rfl) ?_
  refine k_rld hx hb hK hP 4 0 rfl rfl (by omega) (by decide) d_Mod_node1_19 ?_
  refine k_top (show mAb S = nI Y from hay) ?_
  refine lv_istore (lv' := [(4, .int (nI Y)), (3, .int (nI X)), (2, .int (nI 10)), (0, .ref a_mod), (1, .int (nI S))]) hx hb d_Mod_node1_20 hl (by decide) rfl (fun ls hl => ?_)
  refine lv_iload_n hx hb d_Mod_node1_22 rfl (lv_at hl 2 rfl) ?_
  refine lv_bipush (v := nI 6) hx hb d_Mod_node1_23 rfl ?_
  refine lv_icmp_eq (tgt := 34) hx hb d_Mod_node1_25 (by decide) (fun c25 => ?_) (fun c25 => ?_)
  · skip
    have c25 : 10 = 6 := (nI_eq (by omega) (by omega)).mp c25
    omega
  · skip
    have c25 : ¬ (10 = 6) := fun h => c25 ((nI_eq (by omega) (by omega)).mpr h)
    refine lv_iload_n hx hb d_Mod_node1_28 rfl (lv_at hl 2 rfl) ?_
    refine lv_bipush (v := nI 7) hx hb d_Mod_node1_29 rfl ?_
    refine lv_icmp_ne (tgt := 53) hx hb d_Mod_node1_31 (by decide) (fun c31 => ?_) (fun c31 => ?_)
    · skip
      have c31 : ¬ (10 = 7) := fun h => c31 ((nI_eq (by omega) (by omega)).mpr h)
      refine lv_aload_n hx hb d_Mod_node1_53 rfl (lv_at hl 3 rfl) ?_
      refine va_get (D := (dC, dI)) (ci := 6) (v := .ref a_mwidth) (C := R_Mod) (T := F_Mod) (N := 27) hx hb hts (wi i_Mod) hown hK hP 0 rfl rfl 1 (by decide) (hts _ (mt 543 rfl rfl)) (fun _ h9 => h9) rfl d_Mod_node1_54 ?_
      refine lv_iload_n hx hb d_Mod_node1_57 rfl (lv_at hl 4 rfl) ?_
      refine k_ild hx hb hK hP 1 0 rfl rfl (by omega) (by decide) d_Mod_node1_58 ?_
      have hb_1 := b_mWd S
      refine lv_istore (lv' := [(5, .int (nI (mWd S))), (4, .int (nI Y)), (3, .int (nI X)), (2, .int (nI 10)), (0, .ref a_mod), (1, .int (nI S))]) hx hb d_Mod_node1_59 hl (by decide) rfl (fun ls hl => ?_)
      refine lv_iload_n hx hb d_Mod_node1_61 rfl (lv_at hl 3 rfl) ?_
      refine lv_iconst (v := nI 5) hx hb d_Mod_node1_62 rfl ?_
      refine lv_icmp_eq (tgt := 72) hx hb d_Mod_node1_63 (by decide) (fun c63 => ?_) (fun c63 => ?_)
      · skip
        have c63 : 10 = 5 := (nI_eq (by omega) (by omega)).mp c63
        omega
      · skip
        have c63 : ¬ (10 = 5) := fun h => c63 ((nI_eq (by omega) (by omega)).mpr h)
        refine lv_iload_n hx hb d_Mod_node1_66 rfl (lv_at hl 3 rfl) ?_
        refine lv_bipush (v := nI 7) hx hb d_Mod_node1_67 rfl ?_
        refine lv_icmp_ne (tgt := 76) hx hb d_Mod_node1_69 (by decide) (fun c69 => ?_) (fun c69 => ?_)
        · skip
          have c69 : ¬ (10 = 7) := fun h => c69 ((nI_eq (by omega) (by omega)).mpr h)
          refine lv_iconst (v := nI 0) hx hb d_Mod_node1_76 rfl ?_
          refine lv_istore (lv' := [(6, .int (nI 0)), (5, .int (nI (mWd S))), (4, .int (nI Y)), (3, .int (nI X)), (2, .int (nI 10)), (0, .ref a_mod), (1, .int (nI S))]) hx hb d_Mod_node1_77 hl (by decide) rfl (fun ls hl => ?_)
          refine lv_iconst (v := nI 1) hx hb d_Mod_node1_79 rfl ?_
          refine lv_istore (lv' := [(7, .int (nI 1)), (6, .int (nI 0)), (5, .int (nI (mWd S))), (4, .int (nI Y)), (3, .int (nI X)), (2, .int (nI 10)), (0, .ref a_mod), (1, .int (nI S))]) hx hb d_Mod_node1_80 hl (by decide) rfl (fun ls hl => ?_)
          refine lv_iconst (v := nI 0) hx hb d_Mod_node1_82 rfl ?_
          refine lv_istore (lv' := [(8, .int (nI 0)), (7, .int (nI 1)), (6, .int (nI 0)), (5, .int (nI (mWd S))), (4, .int (nI Y)), (3, .int (nI X)), (2, .int (nI 10)), (0, .ref a_mod), (1, .int (nI S))]) hx hb d_Mod_node1_83 hl (by decide) rfl (fun ls hl => ?_)
          have hI_2 : (mG ≤ 1280) ∧ (∀ j, mX j < 2786) ∧ (∀ j, mY j < 2786) ∧ (∀ j, mDe j < 1400) ∧ (∀ j, mBi j < 2786) ∧ (NJ mG gd P Dp Sl T) ∧ (MXY mG mX mY mDe P Dp) ∧ (AL K T mG) ∧ (ST T mG T mG (catL (fun j => pkl (CB X 0) (CB Y j) (CB Z j)) 0)) ∧ (Out mBi mBi S) ∧ (∀ j, j < 0 → OKc T mG (mBi (8 * S + j)) (pk (CB X 0) (CB Y j) (CB Z j))) ∧ (0 ≤ mWd S) := ⟨(by omega), b_mX, b_mY, b_mDe, b_mBi, hN, hXY, hAL, (ST_rf rfl), (Out_rf mBi S), (fun j h => absurd h (by omega)), (by omega)⟩
          refine k_loop (σ := Nat × Nat × (Nat → Nat) × (Nat → Nat) × (Nat → Nat) × Nat × (Nat → Nat) × (Nat → Nat) × (Nat → Nat) × (Nat → Nat) × (Nat → Nat)) (D := (dC, dI)) (cl := classes) (A := A) (H0 := s.heap) (fun x => [(a_mod, .inr (6, [.ref a_mkind, .ref a_mwidth, .ref a_mreset, .ref a_mop, .ref a_mka, .ref a_mkb, .ref a_mkc, .ref a_mheld, .int (nI mN), .ref a_msort, .ref a_mof, .ref a_mfrom, .int (nI mMs), .ref a_mbit, .ref a_mdone, .ref a_mrests, .ref a_mxx, .ref a_myy, .ref a_mdepth, .ref a_mone, .int (nI x.2.1), .int (nI mCk), .int mFw, .int (nI mRd), .ref a_mbefore, .ref a_mfirst, .ref a_mturned])), (a_mwidth, .inl (cI, 14, .inl (nF mWd))), (a_mop, .inl (cI, 14, .inl mOp)), (a_mka, .inl (cI, 14, .inl mAa)), (a_mkb, .inl (cI, 14, .inl mAb)), (a_mkc, .inl (cI, 14, .inl mAc)), (a_mbit, .inl (cI, 224, .inl (nF x.2.2.2.2.2.2.2.2.2.2))), (a_mxx, .inl (cI, 2600, .inl (nF x.2.2.1))), (a_myy, .inl (cI, 2600, .inl (nF x.2.2.2.1))), (a_mdepth, .inl (cI, 2600, .inl (nF x.2.2.2.2.1)))]) (fun x => [(8, .int (nI x.1)), (7, .int (nI 1)), (6, .int (nI 0)), (5, .int (nI (mWd S))), (4, .int (nI Y)), (3, .int (nI X)), (2, .int (nI 10)), (0, .ref a_mod), (1, .int (nI S))]) (fun x => (x.2.1 ≤ 1280) ∧ (∀ j, x.2.2.1 j < 2786) ∧ (∀ j, x.2.2.2.1 j < 2786) ∧ (∀ j, x.2.2.2.2.1 j < 1400) ∧ (∀ j, x.2.2.2.2.2.2.2.2.2.2 j < 2786) ∧ (NJ x.2.1 x.2.2.2.2.2.1 x.2.2.2.2.2.2.1 x.2.2.2.2.2.2.2.1 x.2.2.2.2.2.2.2.2.1 x.2.2.2.2.2.2.2.2.2.1) ∧ (MXY x.2.1 x.2.2.1 x.2.2.2.1 x.2.2.2.2.1 x.2.2.2.2.2.2.1 x.2.2.2.2.2.2.2.1) ∧ (AL K x.2.2.2.2.2.2.2.2.2.1 x.2.1) ∧ (ST T mG x.2.2.2.2.2.2.2.2.2.1 x.2.1 (catL (fun j => pkl (CB X 0) (CB Y j) (CB Z j)) x.1)) ∧ (Out mBi x.2.2.2.2.2.2.2.2.2.2 S) ∧ (∀ j, j < x.1 → OKc x.2.2.2.2.2.2.2.2.2.1 x.2.1 (x.2.2.2.2.2.2.2.2.2.2 (8 * S + j)) (pk (CB X 0) (CB Y j) (CB Z j))) ∧ (x.1 ≤ mWd S)) (fun x => mWd S - x.1) ?_ (0, mG, mX, mY, mDe, gd, P, Dp, Sl, T, mBi) hI_2 hP hD hS (lv_sub hl [0, 1, 2, 3, 4, 5, 6, 7, 8] rfl)
          rintro ⟨b, mG1, mX1, mY1, mDe1, gd1, P1, Dp1, Sl1, T1, B1⟩ hI ih_3 H locs ls hP hD hS hl
          obtain ⟨b_mG1, b_mX1, b_mY1, b_mDe1, b_B1, hN1, hXY1, hAL1, hst1, hO1, hB1, hbw⟩ : (mG1 ≤ 1280) ∧ (∀ j, mX1 j < 2786) ∧ (∀ j, mY1 j < 2786) ∧ (∀ j, mDe1 j < 1400) ∧ (∀ j, B1 j < 2786) ∧ (NJ mG1 gd1 P1 Dp1 Sl1 T1) ∧ (MXY mG1 mX1 mY1 mDe1 P1 Dp1) ∧ (AL K T1 mG1) ∧ (ST T mG T1 mG1 (catL (fun j => pkl (CB X 0) (CB Y j) (CB Z j)) b)) ∧ (Out mBi B1 S) ∧ (∀ j, j < b → OKc T1 mG1 (B1 (8 * S + j)) (pk (CB X 0) (CB Y j) (CB Z j))) ∧ (b ≤ mWd S) := hI
          have hP : va_P (dC, dI) classes [(a_mod, .inr (6, [.ref a_mkind, .ref a_mwidth, .ref a_mreset, .ref a_mop, .ref a_mka, .ref a_mkb, .ref a_mkc, .ref a_mheld, .int (nI mN), .ref a_msort, .ref a_mof, .ref a_mfrom, .int (nI mMs), .ref a_mbit, .ref a_mdone, .ref a_mrests, .ref a_mxx, .ref a_myy, .ref a_mdepth, .ref a_mone, .int (nI mG1), .int (nI mCk), .int mFw, .int (nI mRd), .ref a_mbefore, .ref a_mfirst, .ref a_mturned])), (a_mwidth, .inl (cI, 14, .inl (nF mWd))), (a_mop, .inl (cI, 14, .inl mOp)), (a_mka, .inl (cI, 14, .inl mAa)), (a_mkb, .inl (cI, 14, .inl mAb)), (a_mkc, .inl (cI, 14, .inl mAc)), (a_mbit, .inl (cI, 224, .inl (nF B1))), (a_mxx, .inl (cI, 2600, .inl (nF mX1))), (a_myy, .inl (cI, 2600, .inl (nF mY1))), (a_mdepth, .inl (cI, 2600, .inl (nF mDe1)))] H := hP
          have hD : va_D A [(a_mod, .inr (6, [.ref a_mkind, .ref a_mwidth, .ref a_mreset, .ref a_mop, .ref a_mka, .ref a_mkb, .ref a_mkc, .ref a_mheld, .int (nI mN), .ref a_msort, .ref a_mof, .ref a_mfrom, .int (nI mMs), .ref a_mbit, .ref a_mdone, .ref a_mrests, .ref a_mxx, .ref a_myy, .ref a_mdepth, .ref a_mone, .int (nI mG1), .int (nI mCk), .int mFw, .int (nI mRd), .ref a_mbefore, .ref a_mfirst, .ref a_mturned])), (a_mwidth, .inl (cI, 14, .inl (nF mWd))), (a_mop, .inl (cI, 14, .inl mOp)), (a_mka, .inl (cI, 14, .inl mAa)), (a_mkb, .inl (cI, 14, .inl mAb)), (a_mkc, .inl (cI, 14, .inl mAc)), (a_mbit, .inl (cI, 224, .inl (nF B1))), (a_mxx, .inl (cI, 2600, .inl (nF mX1))), (a_myy, .inl (cI, 2600, .inl (nF mY1))), (a_mdepth, .inl (cI, 2600, .inl (nF mDe1)))] := hD
          have hl : lv_has ls 13 [(8, .int (nI b)), (7, .int (nI 1)), (6, .int (nI 0)), (5, .int (nI (mWd S))), (4, .int (nI Y)), (3, .int (nI X)), (2, .int (nI 10)), (0, .ref a_mod), (1, .int (nI S))] := hl
          refine lv_iload hx hb d_Mod_node1_85 (lv_at hl 0 rfl) ?_
          refine lv_iload hx hb d_Mod_node1_87 (lv_at hl 3 rfl) ?_
          refine lv_icmp_ge (tgt := 498) hx hb d_Mod_node1_89 (by decide) (fun c89 => ?_) (fun c89 => ?_)
          · skip
            have c89 : (mWd S) ≤ b := (nI_leI (by omega) (by omega)).mp c89
            refine lv_iload_n hx hb d_Mod_node1_498 rfl (lv_at hl 6 rfl) ?_
            refine lv_bipush (v := nI 6) hx hb d_Mod_node1_499 rfl ?_
            refine lv_icmp_ne (tgt := 515) hx hb d_Mod_node1_501 (by decide) (fun c501 => ?_) (fun c501 => ?_)
            · skip
              have c501 : ¬ (10 = 6) := fun h => c501 ((nI_eq (by omega) (by omega)).mpr h)
              refine lv_iload_n hx hb d_Mod_node1_515 rfl (lv_at hl 6 rfl) ?_
              refine lv_bipush (v := nI 7) hx hb d_Mod_node1_516 rfl ?_
              refine lv_icmp_ne (tgt := 534) hx hb d_Mod_node1_518 (by decide) (fun c518 => ?_) (fun c518 => ?_)
              · skip
                have c518 : ¬ (10 = 7) := fun h => c518 ((nI_eq (by omega) (by omega)).mpr h)
                exact W.vret hx hb hr (fun t ht hW => ⟨⟨(mG1, mX1, mY1, mDe1, gd1, P1, Dp1, Sl1, T1, B1), rfl, ⟨(show mG1 ≤ 1280 from by omega), b_mX1, b_mY1, b_mDe1, b_B1, (show NJ mG1 gd1 P1 Dp1 Sl1 T1 from hN1), (show MXY mG1 mX1 mY1 mDe1 P1 Dp1 from hXY1), (show AL K T1 mG1 from hAL1), (show ST T mG T1 mG1 (ncL mWd CB 10 (mAa S) (mAb S) (mAc S) (mWd S)) from by rw [eL, show mWd S = b by omega]; exact hst1), (show Out mBi B1 S from hO1), (show ∀ j, j < mWd S → OKc T1 mG1 (B1 (8 * S + j)) (nc mWd CB 10 (mAa S) (mAb S) (mAc S) j) from fun j hj => by rw [eV]; exact hB1 j (by omega))⟩, by rw [ht]; exact hP, va_K.moved hW.alike hK, hD⟩, hS.F ht⟩) hS.2.2 d_Mod_node1_534
              · skip
                have c518 : 10 = 7 := (nI_eq (by omega) (by omega)).mp c518
                omega
            · skip
              have c501 : 10 = 6 := (nI_eq (by omega) (by omega)).mp c501
              omega
          · skip
            have c89 : ¬ ((mWd S) ≤ b) := fun h => c89 ((nI_leI (by omega) (by omega)).mpr h)
            refine lv_iload_n hx hb d_Mod_node1_92 rfl (lv_at hl 6 rfl) ?_
            refine lv_bipush (v := nI 11) hx hb d_Mod_node1_93 rfl ?_
            refine lv_icmp_ne (tgt := 107) hx hb d_Mod_node1_95 (by decide) (fun c95 => ?_) (fun c95 => ?_)
            · skip
              have c95 : ¬ (10 = 11) := fun h => c95 ((nI_eq (by omega) (by omega)).mpr h)
              refine lv_iconst (v := nI 0) hx hb d_Mod_node1_107 rfl ?_
              refine lv_istore (lv' := [(9, .int (nI 0)), (8, .int (nI b)), (7, .int (nI 1)), (6, .int (nI 0)), (5, .int (nI (mWd S))), (4, .int (nI Y)), (3, .int (nI X)), (2, .int (nI 10)), (0, .ref a_mod), (1, .int (nI S))]) hx hb d_Mod_node1_108 hl (by decide) rfl (fun ls hl => ?_)
              refine lv_iload_n hx hb d_Mod_node1_110 rfl (lv_at hl 7 rfl) ?_
              refine lv_if_ne (tgt := 130) hx hb d_Mod_node1_111 (by decide) (fun c111 => ?_) (fun c111 => ?_)
              · skip
                have c111 : ¬ (10 = 0) := fun h => c111 ((nI_eq0 (by omega)).mpr h)
                refine lv_iload_n hx hb d_Mod_node1_130 rfl (lv_at hl 7 rfl) ?_
                refine lv_iconst (v := nI 1) hx hb d_Mod_node1_131 rfl ?_
                refine lv_icmp_ne (tgt := 156) hx hb d_Mod_node1_132 (by decide) (fun c132 => ?_) (fun c132 => ?_)
                · skip
                  have c132 : ¬ (10 = 1) := fun h => c132 ((nI_eq (by omega) (by omega)).mpr h)
                  refine lv_iload_n hx hb d_Mod_node1_156 rfl (lv_at hl 7 rfl) ?_
                  refine lv_iconst (v := nI 2) hx hb d_Mod_node1_157 rfl ?_
                  refine lv_icmp_ne (tgt := 182) hx hb d_Mod_node1_158 (by decide) (fun c158 => ?_) (fun c158 => ?_)
                  · skip
                    have c158 : ¬ (10 = 2) := fun h => c158 ((nI_eq (by omega) (by omega)).mpr h)
                    refine lv_iload_n hx hb d_Mod_node1_182 rfl (lv_at hl 7 rfl) ?_
                    refine lv_iconst (v := nI 3) hx hb d_Mod_node1_183 rfl ?_
                    refine lv_icmp_ne (tgt := 208) hx hb d_Mod_node1_184 (by decide) (fun c184 => ?_) (fun c184 => ?_)
                    · skip
                      have c184 : ¬ (10 = 3) := fun h => c184 ((nI_eq (by omega) (by omega)).mpr h)
                      refine lv_iload_n hx hb d_Mod_node1_208 rfl (lv_at hl 7 rfl) ?_
                      refine lv_iconst (v := nI 4) hx hb d_Mod_node1_209 rfl ?_
                      refine lv_icmp_ne (tgt := 226) hx hb d_Mod_node1_210 (by decide) (fun c210 => ?_) (fun c210 => ?_)
                      · skip
                        have c210 : ¬ (10 = 4) := fun h => c210 ((nI_eq (by omega) (by omega)).mpr h)
                        refine lv_iload_n hx hb d_Mod_node1_226 rfl (lv_at hl 7 rfl) ?_
                        refine lv_iconst (v := nI 4) hx hb d_Mod_node1_227 rfl ?_
                        refine lv_icmp_ne (tgt := 240) hx hb d_Mod_node1_228 (by decide) (fun c228 => ?_) (fun c228 => ?_)
                        · skip
                          have c228 : ¬ (10 = 4) := fun h => c228 ((nI_eq (by omega) (by omega)).mpr h)
                          refine lv_iload_n hx hb d_Mod_node1_240 rfl (lv_at hl 7 rfl) ?_
                          refine lv_iconst (v := nI 5) hx hb d_Mod_node1_241 rfl ?_
                          refine lv_icmp_eq (tgt := 251) hx hb d_Mod_node1_242 (by decide) (fun c242 => ?_) (fun c242 => ?_)
                          · skip
                            have c242 : 10 = 5 := (nI_eq (by omega) (by omega)).mp c242
                            omega
                          · skip
                            have c242 : ¬ (10 = 5) := fun h => c242 ((nI_eq (by omega) (by omega)).mpr h)
                            refine lv_iload_n hx hb d_Mod_node1_245 rfl (lv_at hl 7 rfl) ?_
                            refine lv_bipush (v := nI 7) hx hb d_Mod_node1_246 rfl ?_
                            refine lv_icmp_ne (tgt := 323) hx hb d_Mod_node1_248 (by decide) (fun c248 => ?_) (fun c248 => ?_)
                            · skip
                              have c248 : ¬ (10 = 7) := fun h => c248 ((nI_eq (by omega) (by omega)).mpr h)
                              refine lv_iload_n hx hb d_Mod_node1_323 rfl (lv_at hl 7 rfl) ?_
                              refine lv_bipush (v := nI 6) hx hb d_Mod_node1_324 rfl ?_
                              refine lv_icmp_ne (tgt := 358) hx hb d_Mod_node1_326 (by decide) (fun c326 => ?_) (fun c326 => ?_)
                              · skip
                                have c326 : ¬ (10 = 6) := fun h => c326 ((nI_eq (by omega) (by omega)).mpr h)
                                refine lv_iload_n hx hb d_Mod_node1_358 rfl (lv_at hl 7 rfl) ?_
                                refine lv_bipush (v := nI 8) hx hb d_Mod_node1_359 rfl ?_
                                refine lv_icmp_ne (tgt := 414) hx hb d_Mod_node1_361 (by decide) (fun c361 => ?_) (fun c361 => ?_)
                                · skip
                                  have c361 : ¬ (10 = 8) := fun h => c361 ((nI_eq (by omega) (by omega)).mpr h)
                                  refine lv_iload_n hx hb d_Mod_node1_414 rfl (lv_at hl 7 rfl) ?_
                                  refine lv_bipush (v := nI 9) hx hb d_Mod_node1_415 rfl ?_
                                  refine lv_icmp_ne (tgt := 437) hx hb d_Mod_node1_417 (by decide) (fun c417 => ?_) (fun c417 => ?_)
                                  · skip
                                    have c417 : ¬ (10 = 9) := fun h => c417 ((nI_eq (by omega) (by omega)).mpr h)
                                    refine lv_iload_n hx hb d_Mod_node1_437 rfl (lv_at hl 7 rfl) ?_
                                    refine lv_bipush (v := nI 10) hx hb d_Mod_node1_438 rfl ?_
                                    refine lv_icmp_ne (tgt := 478) hx hb d_Mod_node1_440 (by decide) (fun c440 => ?_) (fun c440 => ?_)
                                    · skip
                                      have c440 : ¬ (10 = 10) := fun h => c440 ((nI_eq (by omega) (by omega)).mpr h)
                                      omega
                                    · skip
                                      have c440 : 10 = 10 := (nI_eq (by omega) (by omega)).mp c440
                                      have hy8 := OK_out (hy1.2.2 b) hst1 hO1 b_mWd hy1.2.1
                                      have hy8b := hy8.1
                                      have hz9 := OK_out (hz1.2.2 b) hst1 hO1 b_mWd hz1.2.1
                                      have hz9b := hz9.1
                                      have hx7 : OKc T1 mG1 (B1 (8 * X)) (CB X 0) := by
                                        have h := OK_out (hx1.2.2 0) hst1 hO1 b_mWd hx1.2.1
                                        unfold lit at h
                                        rw [if_pos (by omega), show X * 8 + 0 = 8 * X by omega] at h
                                        exact h
                                      have hx7b := hx7.1
                                      refine lv_aload_n hx hb d_Mod_node1_443 rfl (lv_at hl 8 rfl) ?_
                                      refine lv_aload_n hx hb d_Mod_node1_444 rfl (lv_at hl 8 rfl) ?_
                                      refine va_get (D := (dC, dI)) (ci := 6) (v := .ref a_mbit) (C := R_Mod) (T := F_Mod) (N := 27) hx hb hts (wi i_Mod) hown hK hP 0 rfl rfl 13 (by decide) (hts _ (mt 555 rfl rfl)) (fun _ h9 => h9) rfl d_Mod_node1_445 ?_
                                      refine lv_bipush (v := nI 8) hx hb d_Mod_node1_448 rfl ?_
                                      refine lv_iload_n hx hb d_Mod_node1_450 rfl (lv_at hl 6 rfl) ?_
                                      refine lv_imul hx hb d_Mod_node1_451 ?_
                                      refine k_top (pk_mul _ _) ?_
                                      refine k_ild hx hb hK hP 6 0 rfl rfl (by omega) (by decide) d_Mod_node1_452 ?_
                                      have hb_4 := b_B1 (8 * X)
                                      refine lv_aload_n hx hb d_Mod_node1_453 rfl (lv_at hl 8 rfl) ?_
                                      refine lv_iload hx hb d_Mod_node1_454 (lv_at hl 5 rfl) ?_
                                      refine lv_iload hx hb d_Mod_node1_456 (lv_at hl 1 rfl) ?_
                                      refine k_i (wr := [(a_mop, .inl (cI, 14, .inl mOp)), (a_mka, .inl (cI, 14, .inl mAa)), (a_mkb, .inl (cI, 14, .inl mAb)), (a_mkc, .inl (cI, 14, .inl mAc)), (a_mxx, .inl (cI, 2600, .inl (nF mX1))), (a_myy, .inl (cI, 2600, .inl (nF mY1))), (a_mdepth, .inl (cI, 2600, .inl (nF mDe1)))]) (w2 := fun (u : Unit) => [(a_mod, .inr (6, [.ref a_mkind, .ref a_mwidth, .ref a_mreset, .ref a_mop, .ref a_mka, .ref a_mkb, .ref a_mkc, .ref a_mheld, .int (nI mN), .ref a_msort, .ref a_mof, .ref a_mfrom, .int (nI mMs), .ref a_mbit, .ref a_mdone, .ref a_mrests, .ref a_mxx, .ref a_myy, .ref a_mdepth, .ref a_mone, .int (nI mG1), .int (nI mCk), .int mFw, .int (nI mRd), .ref a_mbefore, .ref a_mfirst, .ref a_mturned])), (a_mwidth, .inl (cI, 14, .inl (nF mWd))), (a_mop, .inl (cI, 14, .inl mOp)), (a_mka, .inl (cI, 14, .inl mAa)), (a_mkb, .inl (cI, 14, .inl mAb)), (a_mkc, .inl (cI, 14, .inl mAc)), (a_mbit, .inl (cI, 224, .inl (nF B1))), (a_mxx, .inl (cI, 2600, .inl (nF mX1))), (a_myy, .inl (cI, 2600, .inl (nF mY1))), (a_mdepth, .inl (cI, 2600, .inl (nF mDe1)))]) (va_runV (As := [.int (nI Y), .int (nI b)]) (rest := [.int (nI (B1 (8 * X))), .ref a_mod]) ⟨hx, hb, hml, hown, hts⟩ (c_Mod_bitOf l dC dI cI cZ a_mod a_mkind a_mwidth a_mreset a_mop a_mka a_mkb a_mkc a_mheld a_msort a_mof a_mfrom a_mbit a_mdone a_mrests a_mxx a_myy a_mdepth a_mone a_mbefore a_mfirst a_mturned tt H.size mN mMs mG1 mCk mFw mRd mWd B1 Y b (by omega) (by omega) (by omega) (by omega) b_mWd b_B1 (by omega) (by omega)) (cwV 2 hts (gd_V in_tl (mw 690 rfl rfl) (mw 692 rfl rfl) (mw 29 rfl rfl) (mw 47 rfl rfl) (mw 693 rfl rfl)) rfl rfl rfl (by decide +kernel) ⟨Nat.le_of_ble_eq_true rfl, Nat.le_of_ble_eq_true rfl⟩) (k_preV hK hP hD hS hA hE [0, 1, 6] (by decide) rfl 6 0 rfl rfl) rfl rfl hl.1 rfl (lv_room (Nat.le_of_ble_eq_true rfl)) d_Mod_node1_458 ⟨Nat.zero_le _, Nat.zero_le _⟩) hP hD hS hA [0, 1, 6] [2, 3, 4, 5, 7, 8, 9] [7, 8, 0, 1, 2, 3, 9, 4, 5, 6] rfl rfl (by decide) (by decide) (by decide) (fun _ => rfl) (fun r_5 u H locs hw hP hD hS => ?_)
                                      obtain rfl : (r_5 = nI (lit B1 mWd Y b)) := hw
                                      have hP : va_P (dC, dI) classes [(a_mod, .inr (6, [.ref a_mkind, .ref a_mwidth, .ref a_mreset, .ref a_mop, .ref a_mka, .ref a_mkb, .ref a_mkc, .ref a_mheld, .int (nI mN), .ref a_msort, .ref a_mof, .ref a_mfrom, .int (nI mMs), .ref a_mbit, .ref a_mdone, .ref a_mrests, .ref a_mxx, .ref a_myy, .ref a_mdepth, .ref a_mone, .int (nI mG1), .int (nI mCk), .int mFw, .int (nI mRd), .ref a_mbefore, .ref a_mfirst, .ref a_mturned])), (a_mwidth, .inl (cI, 14, .inl (nF mWd))), (a_mop, .inl (cI, 14, .inl mOp)), (a_mka, .inl (cI, 14, .inl mAa)), (a_mkb, .inl (cI, 14, .inl mAb)), (a_mkc, .inl (cI, 14, .inl mAc)), (a_mbit, .inl (cI, 224, .inl (nF B1))), (a_mxx, .inl (cI, 2600, .inl (nF mX1))), (a_myy, .inl (cI, 2600, .inl (nF mY1))), (a_mdepth, .inl (cI, 2600, .inl (nF mDe1)))] H := hP
                                      have hD : va_D A [(a_mod, .inr (6, [.ref a_mkind, .ref a_mwidth, .ref a_mreset, .ref a_mop, .ref a_mka, .ref a_mkb, .ref a_mkc, .ref a_mheld, .int (nI mN), .ref a_msort, .ref a_mof, .ref a_mfrom, .int (nI mMs), .ref a_mbit, .ref a_mdone, .ref a_mrests, .ref a_mxx, .ref a_myy, .ref a_mdepth, .ref a_mone, .int (nI mG1), .int (nI mCk), .int mFw, .int (nI mRd), .ref a_mbefore, .ref a_mfirst, .ref a_mturned])), (a_mwidth, .inl (cI, 14, .inl (nF mWd))), (a_mop, .inl (cI, 14, .inl mOp)), (a_mka, .inl (cI, 14, .inl mAa)), (a_mkb, .inl (cI, 14, .inl mAb)), (a_mkc, .inl (cI, 14, .inl mAc)), (a_mbit, .inl (cI, 224, .inl (nF B1))), (a_mxx, .inl (cI, 2600, .inl (nF mX1))), (a_myy, .inl (cI, 2600, .inl (nF mY1))), (a_mdepth, .inl (cI, 2600, .inl (nF mDe1)))] := hD
                                      refine lv_aload_n hx hb d_Mod_node1_461 rfl (lv_at hl 8 rfl) ?_
                                      refine lv_aload_n hx hb d_Mod_node1_462 rfl (lv_at hl 8 rfl) ?_
                                      refine va_get (D := (dC, dI)) (ci := 6) (v := .ref a_mkc) (C := R_Mod) (T := F_Mod) (N := 27) hx hb hts (wi i_Mod) hown hK hP 0 rfl rfl 6 (by decide) (hts _ (mt 548 rfl rfl)) (fun _ h9 => h9) rfl d_Mod_node1_463 ?_
                                      refine lv_iload_n hx hb d_Mod_node1_466 rfl (lv_at hl 9 rfl) ?_
                                      refine k_rld hx hb hK hP 5 0 rfl rfl (by omega) (by decide) d_Mod_node1_467 ?_
                                      refine k_top (show mAc S = nI Z from haz) ?_
                                      refine lv_iload hx hb d_Mod_node1_468 (lv_at hl 1 rfl) ?_
                                      refine k_i (wr := [(a_mop, .inl (cI, 14, .inl mOp)), (a_mka, .inl (cI, 14, .inl mAa)), (a_mkb, .inl (cI, 14, .inl mAb)), (a_mkc, .inl (cI, 14, .inl mAc)), (a_mxx, .inl (cI, 2600, .inl (nF mX1))), (a_myy, .inl (cI, 2600, .inl (nF mY1))), (a_mdepth, .inl (cI, 2600, .inl (nF mDe1)))]) (w2 := fun (u : Unit) => [(a_mod, .inr (6, [.ref a_mkind, .ref a_mwidth, .ref a_mreset, .ref a_mop, .ref a_mka, .ref a_mkb, .ref a_mkc, .ref a_mheld, .int (nI mN), .ref a_msort, .ref a_mof, .ref a_mfrom, .int (nI mMs), .ref a_mbit, .ref a_mdone, .ref a_mrests, .ref a_mxx, .ref a_myy, .ref a_mdepth, .ref a_mone, .int (nI mG1), .int (nI mCk), .int mFw, .int (nI mRd), .ref a_mbefore, .ref a_mfirst, .ref a_mturned])), (a_mwidth, .inl (cI, 14, .inl (nF mWd))), (a_mop, .inl (cI, 14, .inl mOp)), (a_mka, .inl (cI, 14, .inl mAa)), (a_mkb, .inl (cI, 14, .inl mAb)), (a_mkc, .inl (cI, 14, .inl mAc)), (a_mbit, .inl (cI, 224, .inl (nF B1))), (a_mxx, .inl (cI, 2600, .inl (nF mX1))), (a_myy, .inl (cI, 2600, .inl (nF mY1))), (a_mdepth, .inl (cI, 2600, .inl (nF mDe1)))]) (va_runV (As := [.int (nI Z), .int (nI b)]) (rest := [.int (nI (lit B1 mWd Y b)), .int (nI (B1 (8 * X))), .ref a_mod]) ⟨hx, hb, hml, hown, hts⟩ (c_Mod_bitOf l dC dI cI cZ a_mod a_mkind a_mwidth a_mreset a_mop a_mka a_mkb a_mkc a_mheld a_msort a_mof a_mfrom a_mbit a_mdone a_mrests a_mxx a_myy a_mdepth a_mone a_mbefore a_mfirst a_mturned tt H.size mN mMs mG1 mCk mFw mRd mWd B1 Z b (by omega) (by omega) (by omega) (by omega) b_mWd b_B1 (by omega) (by omega)) (cwV 2 hts (gd_V in_tl (mw 690 rfl rfl) (mw 692 rfl rfl) (mw 29 rfl rfl) (mw 47 rfl rfl) (mw 693 rfl rfl)) rfl rfl rfl (by decide +kernel) ⟨Nat.le_of_ble_eq_true rfl, Nat.le_of_ble_eq_true rfl⟩) (k_preV hK hP hD hS hA hE [0, 1, 6] (by decide) rfl 6 0 rfl rfl) rfl rfl hl.1 rfl (lv_room (Nat.le_of_ble_eq_true rfl)) d_Mod_node1_470 ⟨Nat.zero_le _, Nat.zero_le _⟩) hP hD hS hA [0, 1, 6] [2, 3, 4, 5, 7, 8, 9] [7, 8, 0, 1, 2, 3, 9, 4, 5, 6] rfl rfl (by decide) (by decide) (by decide) (fun _ => rfl) (fun r_6 u H locs hw hP hD hS => ?_)
                                      obtain rfl : (r_6 = nI (lit B1 mWd Z b)) := hw
                                      have hP : va_P (dC, dI) classes [(a_mod, .inr (6, [.ref a_mkind, .ref a_mwidth, .ref a_mreset, .ref a_mop, .ref a_mka, .ref a_mkb, .ref a_mkc, .ref a_mheld, .int (nI mN), .ref a_msort, .ref a_mof, .ref a_mfrom, .int (nI mMs), .ref a_mbit, .ref a_mdone, .ref a_mrests, .ref a_mxx, .ref a_myy, .ref a_mdepth, .ref a_mone, .int (nI mG1), .int (nI mCk), .int mFw, .int (nI mRd), .ref a_mbefore, .ref a_mfirst, .ref a_mturned])), (a_mwidth, .inl (cI, 14, .inl (nF mWd))), (a_mop, .inl (cI, 14, .inl mOp)), (a_mka, .inl (cI, 14, .inl mAa)), (a_mkb, .inl (cI, 14, .inl mAb)), (a_mkc, .inl (cI, 14, .inl mAc)), (a_mbit, .inl (cI, 224, .inl (nF B1))), (a_mxx, .inl (cI, 2600, .inl (nF mX1))), (a_myy, .inl (cI, 2600, .inl (nF mY1))), (a_mdepth, .inl (cI, 2600, .inl (nF mDe1)))] H := hP
                                      have hD : va_D A [(a_mod, .inr (6, [.ref a_mkind, .ref a_mwidth, .ref a_mreset, .ref a_mop, .ref a_mka, .ref a_mkb, .ref a_mkc, .ref a_mheld, .int (nI mN), .ref a_msort, .ref a_mof, .ref a_mfrom, .int (nI mMs), .ref a_mbit, .ref a_mdone, .ref a_mrests, .ref a_mxx, .ref a_myy, .ref a_mdepth, .ref a_mone, .int (nI mG1), .int (nI mCk), .int mFw, .int (nI mRd), .ref a_mbefore, .ref a_mfirst, .ref a_mturned])), (a_mwidth, .inl (cI, 14, .inl (nF mWd))), (a_mop, .inl (cI, 14, .inl mOp)), (a_mka, .inl (cI, 14, .inl mAa)), (a_mkb, .inl (cI, 14, .inl mAb)), (a_mkc, .inl (cI, 14, .inl mAc)), (a_mbit, .inl (cI, 224, .inl (nF B1))), (a_mxx, .inl (cI, 2600, .inl (nF mX1))), (a_myy, .inl (cI, 2600, .inl (nF mY1))), (a_mdepth, .inl (cI, 2600, .inl (nF mDe1)))] := hD
                                      refine k_i (wr := [(a_mwidth, .inl (cI, 14, .inl (nF mWd))), (a_mop, .inl (cI, 14, .inl mOp)), (a_mka, .inl (cI, 14, .inl mAa)), (a_mkb, .inl (cI, 14, .inl mAb)), (a_mkc, .inl (cI, 14, .inl mAc)), (a_mbit, .inl (cI, 224, .inl (nF B1)))]) (w2 := fun (u : Nat × (Nat → Nat) × (Nat → Nat) × (Nat → Nat) × Nat × (Nat → Nat) × (Nat → Nat) × (Nat → Nat) × (Nat → Nat)) => [(a_mod, .inr (6, [.ref a_mkind, .ref a_mwidth, .ref a_mreset, .ref a_mop, .ref a_mka, .ref a_mkb, .ref a_mkc, .ref a_mheld, .int (nI mN), .ref a_msort, .ref a_mof, .ref a_mfrom, .int (nI mMs), .ref a_mbit, .ref a_mdone, .ref a_mrests, .ref a_mxx, .ref a_myy, .ref a_mdepth, .ref a_mone, .int (nI u.1), .int (nI mCk), .int mFw, .int (nI mRd), .ref a_mbefore, .ref a_mfirst, .ref a_mturned])), (a_mwidth, .inl (cI, 14, .inl (nF mWd))), (a_mop, .inl (cI, 14, .inl mOp)), (a_mka, .inl (cI, 14, .inl mAa)), (a_mkb, .inl (cI, 14, .inl mAb)), (a_mkc, .inl (cI, 14, .inl mAc)), (a_mbit, .inl (cI, 224, .inl (nF B1))), (a_mxx, .inl (cI, 2600, .inl (nF u.2.1))), (a_myy, .inl (cI, 2600, .inl (nF u.2.2.1))), (a_mdepth, .inl (cI, 2600, .inl (nF u.2.2.2.1)))]) (va_runV (As := [.int (nI (B1 (8 * X))), .int (nI (lit B1 mWd Y b)), .int (nI (lit B1 mWd Z b))]) (rest := []) ⟨hx, hb, hml, hown, hts⟩ (c_Mod_pick l dC dI cI cZ a_mod a_mkind a_mwidth a_mreset a_mop a_mka a_mkb a_mkc a_mheld a_msort a_mof a_mfrom a_mbit a_mdone a_mrests a_mxx a_myy a_mdepth a_mone a_mbefore a_mfirst a_mturned tt H.size mN mMs mG1 mCk mFw mRd mX1 mY1 mDe1 gd1 P1 Dp1 Sl1 T1 K (B1 (8 * X)) (lit B1 mWd Y b) (lit B1 mWd Z b) (by omega) (by omega) (by omega) (by omega) b_mX1 b_mY1 b_mDe1 hN1 hXY1 hAL1 (fun _ => hx7.1) (by omega) hy8.1 hz9.1 (by rw [hx7.2, hy8.2, hz9.2]; intro c h; apply hgl; rw [eL]; exact catL_in _ (by omega) h)) (cwV 3 hts (gd_V in_tl (mw 698 rfl rfl) (mw 700 rfl rfl) (mw 31 rfl rfl) (mw 47 rfl rfl) (mw 701 rfl rfl)) rfl rfl rfl (by decide +kernel) ⟨Nat.le_of_ble_eq_true rfl, Nat.le_of_ble_eq_true rfl⟩) (k_preV hK hP hD hS hA hE [0, 7, 8, 9] (by decide) rfl 6 0 rfl rfl) rfl rfl hl.1 rfl (lv_room (Nat.le_of_ble_eq_true rfl)) d_Mod_node1_473 ⟨Nat.zero_le _, Nat.zero_le _⟩) hP hD hS hA [0, 7, 8, 9] [1, 2, 3, 4, 5, 6] [6, 0, 1, 2, 3, 4, 5, 7, 8, 9] rfl rfl (by decide) (by decide) (by decide) (fun _ => rfl) (fun r_16 u H locs hw hP hD hS => ?_)
                                      obtain ⟨mGv_7, mXv_8, mYv_9, mDev_10, gdv_11, Pv_12, Dpv_13, Slv_14, Tv_15⟩ := u
                                      obtain ⟨v_17, rfl, b_mGv_7, b_mXv_8, b_mYv_9, b_mDev_10, hN_473, hXY_473, hst_473, hrl_473, hc_473, hAL_473⟩ : ∃ rv : Nat, r_16 = nI rv ∧ (mGv_7 ≤ 1280) ∧ (∀ j, mXv_8 j < 2786) ∧ (∀ j, mYv_9 j < 2786) ∧ (∀ j, mDev_10 j < 1400) ∧ (NJ mGv_7 gdv_11 Pv_12 Dpv_13 Slv_14 Tv_15) ∧ (MXY mGv_7 mXv_8 mYv_9 mDev_10 Pv_12 Dpv_13) ∧ (ST T1 mG1 Tv_15 mGv_7 (pkl (LT T1 (B1 (8 * X))) (LT T1 (lit B1 mWd Y b)) (LT T1 (lit B1 mWd Z b)))) ∧ (rv < 2 * (113 + mGv_7)) ∧ (LT Tv_15 rv = pk (LT T1 (B1 (8 * X))) (LT T1 (lit B1 mWd Y b)) (LT T1 (lit B1 mWd Z b))) ∧ (AL K Tv_15 mGv_7) := hw
                                      have hP : va_P (dC, dI) classes [(a_mod, .inr (6, [.ref a_mkind, .ref a_mwidth, .ref a_mreset, .ref a_mop, .ref a_mka, .ref a_mkb, .ref a_mkc, .ref a_mheld, .int (nI mN), .ref a_msort, .ref a_mof, .ref a_mfrom, .int (nI mMs), .ref a_mbit, .ref a_mdone, .ref a_mrests, .ref a_mxx, .ref a_myy, .ref a_mdepth, .ref a_mone, .int (nI mGv_7), .int (nI mCk), .int mFw, .int (nI mRd), .ref a_mbefore, .ref a_mfirst, .ref a_mturned])), (a_mwidth, .inl (cI, 14, .inl (nF mWd))), (a_mop, .inl (cI, 14, .inl mOp)), (a_mka, .inl (cI, 14, .inl mAa)), (a_mkb, .inl (cI, 14, .inl mAb)), (a_mkc, .inl (cI, 14, .inl mAc)), (a_mbit, .inl (cI, 224, .inl (nF B1))), (a_mxx, .inl (cI, 2600, .inl (nF mXv_8))), (a_myy, .inl (cI, 2600, .inl (nF mYv_9))), (a_mdepth, .inl (cI, 2600, .inl (nF mDev_10)))] H := hP
                                      have hD : va_D A [(a_mod, .inr (6, [.ref a_mkind, .ref a_mwidth, .ref a_mreset, .ref a_mop, .ref a_mka, .ref a_mkb, .ref a_mkc, .ref a_mheld, .int (nI mN), .ref a_msort, .ref a_mof, .ref a_mfrom, .int (nI mMs), .ref a_mbit, .ref a_mdone, .ref a_mrests, .ref a_mxx, .ref a_myy, .ref a_mdepth, .ref a_mone, .int (nI mGv_7), .int (nI mCk), .int mFw, .int (nI mRd), .ref a_mbefore, .ref a_mfirst, .ref a_mturned])), (a_mwidth, .inl (cI, 14, .inl (nF mWd))), (a_mop, .inl (cI, 14, .inl mOp)), (a_mka, .inl (cI, 14, .inl mAa)), (a_mkb, .inl (cI, 14, .inl mAb)), (a_mkc, .inl (cI, 14, .inl mAc)), (a_mbit, .inl (cI, 224, .inl (nF B1))), (a_mxx, .inl (cI, 2600, .inl (nF mXv_8))), (a_myy, .inl (cI, 2600, .inl (nF mYv_9))), (a_mdepth, .inl (cI, 2600, .inl (nF mDev_10)))] := hD
                                      rw [hx7.2, hy8.2, hz9.2] at hst_473 hc_473
                                      have hl9 := And.intro hrl_473 hc_473
                                      refine lv_istore (lv' := [(9, .int (nI v_17)), (8, .int (nI b)), (7, .int (nI 1)), (6, .int (nI 0)), (5, .int (nI (mWd S))), (4, .int (nI Y)), (3, .int (nI X)), (2, .int (nI 10)), (0, .ref a_mod), (1, .int (nI S))]) hx hb d_Mod_node1_476 hl (by decide) rfl (fun ls hl => ?_)
                                      refine lv_aload_n hx hb d_Mod_node1_478 rfl (lv_at hl 8 rfl) ?_
                                      refine va_get (D := (dC, dI)) (ci := 6) (v := .ref a_mbit) (C := R_Mod) (T := F_Mod) (N := 27) hx hb hts (wi i_Mod) hown hK hP 0 rfl rfl 13 (by decide) (hts _ (mt 555 rfl rfl)) (fun _ h9 => h9) rfl d_Mod_node1_479 ?_
                                      refine lv_bipush (v := nI 8) hx hb d_Mod_node1_482 rfl ?_
                                      refine lv_iload_n hx hb d_Mod_node1_484 rfl (lv_at hl 9 rfl) ?_
                                      refine lv_imul hx hb d_Mod_node1_485 ?_
                                      refine k_top (pk_mul _ _) ?_
                                      refine lv_iload hx hb d_Mod_node1_486 (lv_at hl 1 rfl) ?_
                                      refine lv_iadd hx hb d_Mod_node1_488 ?_
                                      refine k_top (nI_add _ _) ?_
                                      refine lv_iload hx hb d_Mod_node1_489 (lv_at hl 0 rfl) ?_
                                      refine k_ist hx hb hK hP hD hS 6 0 rfl rfl (by omega) (by decide) d_Mod_node1_491 (fun H locs hP hD hS => ?_)
                                      have bb_18 : ∀ j, upN B1 ((8 * S) + b) v_17 j < 2786 := upN_lt b_B1 (by have := hl9.1; omega)
                                      have hP : va_P (dC, dI) classes [(a_mod, .inr (6, [.ref a_mkind, .ref a_mwidth, .ref a_mreset, .ref a_mop, .ref a_mka, .ref a_mkb, .ref a_mkc, .ref a_mheld, .int (nI mN), .ref a_msort, .ref a_mof, .ref a_mfrom, .int (nI mMs), .ref a_mbit, .ref a_mdone, .ref a_mrests, .ref a_mxx, .ref a_myy, .ref a_mdepth, .ref a_mone, .int (nI mGv_7), .int (nI mCk), .int mFw, .int (nI mRd), .ref a_mbefore, .ref a_mfirst, .ref a_mturned])), (a_mwidth, .inl (cI, 14, .inl (nF mWd))), (a_mop, .inl (cI, 14, .inl mOp)), (a_mka, .inl (cI, 14, .inl mAa)), (a_mkb, .inl (cI, 14, .inl mAb)), (a_mkc, .inl (cI, 14, .inl mAc)), (a_mbit, .inl (cI, 224, .inl (nF (upN B1 ((8 * S) + b) v_17)))), (a_mxx, .inl (cI, 2600, .inl (nF mXv_8))), (a_myy, .inl (cI, 2600, .inl (nF mYv_9))), (a_mdepth, .inl (cI, 2600, .inl (nF mDev_10)))] H := hP
                                      have hD : va_D A [(a_mod, .inr (6, [.ref a_mkind, .ref a_mwidth, .ref a_mreset, .ref a_mop, .ref a_mka, .ref a_mkb, .ref a_mkc, .ref a_mheld, .int (nI mN), .ref a_msort, .ref a_mof, .ref a_mfrom, .int (nI mMs), .ref a_mbit, .ref a_mdone, .ref a_mrests, .ref a_mxx, .ref a_myy, .ref a_mdepth, .ref a_mone, .int (nI mGv_7), .int (nI mCk), .int mFw, .int (nI mRd), .ref a_mbefore, .ref a_mfirst, .ref a_mturned])), (a_mwidth, .inl (cI, 14, .inl (nF mWd))), (a_mop, .inl (cI, 14, .inl mOp)), (a_mka, .inl (cI, 14, .inl mAa)), (a_mkb, .inl (cI, 14, .inl mAb)), (a_mkc, .inl (cI, 14, .inl mAc)), (a_mbit, .inl (cI, 224, .inl (nF (upN B1 ((8 * S) + b) v_17)))), (a_mxx, .inl (cI, 2600, .inl (nF mXv_8))), (a_myy, .inl (cI, 2600, .inl (nF mYv_9))), (a_mdepth, .inl (cI, 2600, .inl (nF mDev_10)))] := hD
                                      refine lv_iinc (v := nI (b + 1)) (lv' := [(8, .int (nI (b + 1))), (9, .int (nI v_17)), (7, .int (nI 1)), (6, .int (nI 0)), (5, .int (nI (mWd S))), (4, .int (nI Y)), (3, .int (nI X)), (2, .int (nI 10)), (0, .ref a_mod), (1, .int (nI S))]) hx hb d_Mod_node1_492 hl (k := 1) rfl (k_inc _ 1) (by decide) rfl (fun ls hl => ?_)
                                      refine lv_goto (tgt := 85) hx hb d_Mod_node1_495 (by decide) ?_
                                      have hI_19 : (mGv_7 ≤ 1280) ∧ (∀ j, mXv_8 j < 2786) ∧ (∀ j, mYv_9 j < 2786) ∧ (∀ j, mDev_10 j < 1400) ∧ (∀ j, (upN B1 ((8 * S) + b) v_17) j < 2786) ∧ (NJ mGv_7 gdv_11 Pv_12 Dpv_13 Slv_14 Tv_15) ∧ (MXY mGv_7 mXv_8 mYv_9 mDev_10 Pv_12 Dpv_13) ∧ (AL K Tv_15 mGv_7) ∧ (ST T mG Tv_15 mGv_7 (catL (fun j => pkl (CB X 0) (CB Y j) (CB Z j)) (b + 1))) ∧ (Out mBi (upN B1 ((8 * S) + b) v_17) S) ∧ (∀ j, j < (b + 1) → OKc Tv_15 mGv_7 ((upN B1 ((8 * S) + b) v_17) (8 * S + j)) (pk (CB X 0) (CB Y j) (CB Z j))) ∧ ((b + 1) ≤ mWd S) := ⟨(by omega), b_mXv_8, b_mYv_9, b_mDev_10, bb_18, hN_473, hXY_473, hAL_473, (ST_tr hst1 hst_473), (Out_up8 hO1 (by omega)), (fun j hj => by
      by_cases e : j = b
      · rw [e, upN_self]; exact hl9
      · rw [upN_ne _ _ (by omega)]; exact OKc_st (hB1 j (by omega)) hst_473), (by omega)⟩
                                      exact ih_3 (b + 1, mGv_7, mXv_8, mYv_9, mDev_10, gdv_11, Pv_12, Dpv_13, Slv_14, Tv_15, upN B1 ((8 * S) + b) v_17) hI_19 (show mWd S - (b + 1) < mWd S - b from by omega) _ _ _ hP hD hS (lv_sub hl [0, 2, 3, 4, 5, 6, 7, 8, 9] rfl)
                                  · skip
                                    have c417 : 10 = 9 := (nI_eq (by omega) (by omega)).mp c417
                                    omega
                                · skip
                                  have c361 : 10 = 8 := (nI_eq (by omega) (by omega)).mp c361
                                  omega
                              · skip
                                have c326 : 10 = 6 := (nI_eq (by omega) (by omega)).mp c326
                                omega
                            · skip
                              have c248 : 10 = 7 := (nI_eq (by omega) (by omega)).mp c248
                              omega
                        · skip
                          have c228 : 10 = 4 := (nI_eq (by omega) (by omega)).mp c228
                          omega
                      · skip
                        have c210 : 10 = 4 := (nI_eq (by omega) (by omega)).mp c210
                        omega
                    · skip
                      have c184 : 10 = 3 := (nI_eq (by omega) (by omega)).mp c184
                      omega
                  · skip
                    have c158 : 10 = 2 := (nI_eq (by omega) (by omega)).mp c158
                    omega
                · skip
                  have c132 : 10 = 1 := (nI_eq (by omega) (by omega)).mp c132
                  omega
              · skip
                have c111 : 10 = 0 := (nI_eq0 (by omega)).mp c111
                omega
            · skip
              have c95 : 10 = 11 := (nI_eq (by omega) (by omega)).mp c95
              omega
        · skip
          have c69 : 10 = 7 := (nI_eq (by omega) (by omega)).mp c69
          omega
    · skip
      have c31 : 10 = 7 := (nI_eq (by omega) (by omega)).mp c31
      omega
set_option maxHeartbeats 4000000 in
set_option maxRecDepth 100000 in
theorem c_Mod_node1o11 (l : Launch) (dC : Nat → ClassId) (dI : Nat → Nat → Nat) (cI cZ : ClassId) (a_mod a_mkind a_mwidth a_mreset a_mop a_mka a_mkb a_mkc a_mheld a_msort a_mof a_mfrom a_mbit a_mdone a_mrests a_mxx a_myy a_mdepth a_mone a_mbefore a_mfirst a_mturned : Nat) (tt sz : Nat) (mN : Nat) (mMs : Nat) (mG : Nat) (mCk : Nat) (mFw : Int32) (mRd : Nat) (mWd : Nat → Nat) (mOp : Nat → Int32) (mAa : Nat → Int32) (mAb : Nat → Int32) (mAc : Nat → Int32) (mBi : Nat → Nat) (mX : Nat → Nat) (mY : Nat → Nat) (mDe : Nat → Nat) (gd : Nat) (P : Nat → Nat) (Dp : Nat → Nat) (Sl : Nat → Nat) (T : Nat → Nat) (K : List Nat) (CB : Nat → Nat → Nat) (X : Nat) (S : Nat) (b_mN : mN ≤ 14) (b_mMs : mMs ≤ 20) (b_mG : mG ≤ 1280) (b_mRd : mRd ≤ 1) (b_mWd : ∀ j, mWd j < 9) (b_mBi : ∀ j, mBi j < 2786) (b_mX : ∀ j, mX j < 2786) (b_mY : ∀ j, mY j < 2786) (b_mDe : ∀ j, mDe j < 1400) (hN : NJ mG gd P Dp Sl T) (hXY : MXY mG mX mY mDe P Dp) (hAL : AL K T mG) (hS14 : S < 14) (hW1 : 1 ≤ mWd S) (hop : mOp S = nI 11) (hax : mAa S = nI X) (hx1 : X < 256) (hgl : ∀ c, c ∈ ncL mWd CB 11 (mAa S) (mAb S) (mAc S) (mWd S) → c ∈ K) : Met l y_Mod_node1 w_Mod_node1 ({ frames := 6, cells := 0, slots := 0, locals := 200 }) (va_Pc [.ref a_mod, .int (nI S)] (PW (dC, dI) classes [(cI, .int), (cZ, .boolean)] tt [(a_mod, .inr (6, [.ref a_mkind, .ref a_mwidth, .ref a_mreset, .ref a_mop, .ref a_mka, .ref a_mkb, .ref a_mkc, .ref a_mheld, .int (nI mN), .ref a_msort, .ref a_mof, .ref a_mfrom, .int (nI mMs), .ref a_mbit, .ref a_mdone, .ref a_mrests, .ref a_mxx, .ref a_myy, .ref a_mdepth, .ref a_mone, .int (nI mG), .int (nI mCk), .int mFw, .int (nI mRd), .ref a_mbefore, .ref a_mfirst, .ref a_mturned])), (a_mwidth, .inl (cI, 14, .inl (nF mWd))), (a_mop, .inl (cI, 14, .inl mOp)), (a_mka, .inl (cI, 14, .inl mAa)), (a_mkb, .inl (cI, 14, .inl mAb)), (a_mkc, .inl (cI, 14, .inl mAc)), (a_mbit, .inl (cI, 224, .inl (nF mBi))), (a_mxx, .inl (cI, 2600, .inl (nF mX))), (a_myy, .inl (cI, 2600, .inl (nF mY))), (a_mdepth, .inl (cI, 2600, .inl (nF mDe)))] sz)) (va_Qv (fun (u : Nat × (Nat → Nat) × (Nat → Nat) × (Nat → Nat) × Nat × (Nat → Nat) × (Nat → Nat) × (Nat → Nat) × (Nat → Nat) × (Nat → Nat)) => (u.1 ≤ 1280) ∧ (∀ j, u.2.1 j < 2786) ∧ (∀ j, u.2.2.1 j < 2786) ∧ (∀ j, u.2.2.2.1 j < 1400) ∧ (∀ j, u.2.2.2.2.2.2.2.2.2 j < 2786) ∧ (NJ u.1 u.2.2.2.2.1 u.2.2.2.2.2.1 u.2.2.2.2.2.2.1 u.2.2.2.2.2.2.2.1 u.2.2.2.2.2.2.2.2.1) ∧ (MXY u.1 u.2.1 u.2.2.1 u.2.2.2.1 u.2.2.2.2.2.1 u.2.2.2.2.2.2.1) ∧ (AL K u.2.2.2.2.2.2.2.2.1 u.1) ∧ (ST T mG u.2.2.2.2.2.2.2.2.1 u.1 (ncL mWd CB 11 (mAa S) (mAb S) (mAc S) (mWd S))) ∧ (Out mBi u.2.2.2.2.2.2.2.2.2 S) ∧ (∀ j, j < mWd S → OKc u.2.2.2.2.2.2.2.2.1 u.1 (u.2.2.2.2.2.2.2.2.2 (8 * S + j)) (nc mWd CB 11 (mAa S) (mAb S) (mAc S) j))) (AT (dC, dI) classes [(cI, .int), (cZ, .boolean)] (va_A [(a_mod, .inr (6, [.ref a_mkind, .ref a_mwidth, .ref a_mreset, .ref a_mop, .ref a_mka, .ref a_mkb, .ref a_mkc, .ref a_mheld, .int (nI mN), .ref a_msort, .ref a_mof, .ref a_mfrom, .int (nI mMs), .ref a_mbit, .ref a_mdone, .ref a_mrests, .ref a_mxx, .ref a_myy, .ref a_mdepth, .ref a_mone, .int (nI mG), .int (nI mCk), .int mFw, .int (nI mRd), .ref a_mbefore, .ref a_mfirst, .ref a_mturned])), (a_mwidth, .inl (cI, 14, .inl (nF mWd))), (a_mop, .inl (cI, 14, .inl mOp)), (a_mka, .inl (cI, 14, .inl mAa)), (a_mkb, .inl (cI, 14, .inl mAb)), (a_mkc, .inl (cI, 14, .inl mAc)), (a_mbit, .inl (cI, 224, .inl (nF mBi))), (a_mxx, .inl (cI, 2600, .inl (nF mX))), (a_myy, .inl (cI, 2600, .inl (nF mY))), (a_mdepth, .inl (cI, 2600, .inl (nF mDe)))] sz) (fun (u : Nat × (Nat → Nat) × (Nat → Nat) × (Nat → Nat) × Nat × (Nat → Nat) × (Nat → Nat) × (Nat → Nat) × (Nat → Nat) × (Nat → Nat)) => [(a_mod, .inr (6, [.ref a_mkind, .ref a_mwidth, .ref a_mreset, .ref a_mop, .ref a_mka, .ref a_mkb, .ref a_mkc, .ref a_mheld, .int (nI mN), .ref a_msort, .ref a_mof, .ref a_mfrom, .int (nI mMs), .ref a_mbit, .ref a_mdone, .ref a_mrests, .ref a_mxx, .ref a_myy, .ref a_mdepth, .ref a_mone, .int (nI u.1), .int (nI mCk), .int mFw, .int (nI mRd), .ref a_mbefore, .ref a_mfirst, .ref a_mturned])), (a_mwidth, .inl (cI, 14, .inl (nF mWd))), (a_mop, .inl (cI, 14, .inl mOp)), (a_mka, .inl (cI, 14, .inl mAa)), (a_mkb, .inl (cI, 14, .inl mAb)), (a_mkc, .inl (cI, 14, .inl mAc)), (a_mbit, .inl (cI, 224, .inl (nF u.2.2.2.2.2.2.2.2.2))), (a_mxx, .inl (cI, 2600, .inl (nF u.2.1))), (a_myy, .inl (cI, 2600, .inl (nF u.2.2.1))), (a_mdepth, .inl (cI, 2600, .inl (nF u.2.2.2.1)))])) (va_A [(a_mod, .inr (6, [.ref a_mkind, .ref a_mwidth, .ref a_mreset, .ref a_mop, .ref a_mka, .ref a_mkb, .ref a_mkc, .ref a_mheld, .int (nI mN), .ref a_msort, .ref a_mof, .ref a_mfrom, .int (nI mMs), .ref a_mbit, .ref a_mdone, .ref a_mrests, .ref a_mxx, .ref a_myy, .ref a_mdepth, .ref a_mone, .int (nI mG), .int (nI mCk), .int mFw, .int (nI mRd), .ref a_mbefore, .ref a_mfirst, .ref a_mturned])), (a_mwidth, .inl (cI, 14, .inl (nF mWd))), (a_mop, .inl (cI, 14, .inl mOp)), (a_mka, .inl (cI, 14, .inl mAa)), (a_mkb, .inl (cI, 14, .inl mAb)), (a_mkc, .inl (cI, 14, .inl mAc)), (a_mbit, .inl (cI, 224, .inl (nF mBi))), (a_mxx, .inl (cI, 2600, .inl (nF mX))), (a_myy, .inl (cI, 2600, .inl (nF mY))), (a_mdepth, .inl (cI, 2600, .inl (nF mDe)))] sz)) 0 0 (va_A [(a_mod, .inr (6, [.ref a_mkind, .ref a_mwidth, .ref a_mreset, .ref a_mop, .ref a_mka, .ref a_mkb, .ref a_mkc, .ref a_mheld, .int (nI mN), .ref a_msort, .ref a_mof, .ref a_mfrom, .int (nI mMs), .ref a_mbit, .ref a_mdone, .ref a_mrests, .ref a_mxx, .ref a_myy, .ref a_mdepth, .ref a_mone, .int (nI mG), .int (nI mCk), .int mFw, .int (nI mRd), .ref a_mbefore, .ref a_mfirst, .ref a_mturned])), (a_mwidth, .inl (cI, 14, .inl (nF mWd))), (a_mop, .inl (cI, 14, .inl mOp)), (a_mka, .inl (cI, 14, .inl mAa)), (a_mkb, .inl (cI, 14, .inl mAb)), (a_mkc, .inl (cI, 14, .inl mAc)), (a_mbit, .inl (cI, 224, .inl (nF mBi))), (a_mxx, .inl (cI, 2600, .inl (nF mX))), (a_myy, .inl (cI, 2600, .inl (nF mY))), (a_mdepth, .inl (cI, 2600, .inl (nF mDe)))] sz) := by
  refine Met.ofW (cc := b_Mod_node1) (maxL := 13) (ret := none) (by decide) rfl ?_
  intro p e s m args below meth c s₁ B hml hv
  obtain ⟨rfl, hsz, hP, hK, hD0, hE⟩ := hv
  have hx := B.exec
  have hb := B.bytes
  have hr := B.returns
  have hts := atoms_spec (ws := w_Mod_node1) B.pre
  have hown : s.vm.findClass R_Mod = some m.cls := findClass_of_methodNamed B.named
  have hlocks := B.notSynchronized
  subst hsz
  have hD := hD0.self (sz := s.heap.size)
  generalize hAe : va_A [(a_mod, .inr (6, [.ref a_mkind, .ref a_mwidth, .ref a_mreset, .ref a_mop, .ref a_mka, .ref a_mkb, .ref a_mkc, .ref a_mheld, .int (nI mN), .ref a_msort, .ref a_mof, .ref a_mfrom, .int (nI mMs), .ref a_mbit, .ref a_mdone, .ref a_mrests, .ref a_mxx, .ref a_myy, .ref a_mdepth, .ref a_mone, .int (nI mG), .int (nI mCk), .int mFw, .int (nI mRd), .ref a_mbefore, .ref a_mfirst, .ref a_mturned])), (a_mwidth, .inl (cI, 14, .inl (nF mWd))), (a_mop, .inl (cI, 14, .inl mOp)), (a_mka, .inl (cI, 14, .inl mAa)), (a_mkb, .inl (cI, 14, .inl mAb)), (a_mkc, .inl (cI, 14, .inl mAc)), (a_mbit, .inl (cI, 224, .inl (nF mBi))), (a_mxx, .inl (cI, 2600, .inl (nF mX))), (a_myy, .inl (cI, 2600, .inl (nF mY))), (a_mdepth, .inl (cI, 2600, .inl (nF mDe)))] s.heap.size = A at hD hE ⊢
  have hA : ∀ q : Nat, s.heap.size ≤ q → A q := fun q h => by rw [← hAe]; exact Or.inr h
  have hS : va_S A s.heap s.heap [] := va_S.rf
  have hP : va_P (dC, dI) classes [(a_mod, .inr (6, [.ref a_mkind, .ref a_mwidth, .ref a_mreset, .ref a_mop, .ref a_mka, .ref a_mkb, .ref a_mkc, .ref a_mheld, .int (nI mN), .ref a_msort, .ref a_mof, .ref a_mfrom, .int (nI mMs), .ref a_mbit, .ref a_mdone, .ref a_mrests, .ref a_mxx, .ref a_myy, .ref a_mdepth, .ref a_mone, .int (nI mG), .int (nI mCk), .int mFw, .int (nI mRd), .ref a_mbefore, .ref a_mfirst, .ref a_mturned])), (a_mwidth, .inl (cI, 14, .inl (nF mWd))), (a_mop, .inl (cI, 14, .inl mOp)), (a_mka, .inl (cI, 14, .inl mAa)), (a_mkb, .inl (cI, 14, .inl mAb)), (a_mkc, .inl (cI, 14, .inl mAc)), (a_mbit, .inl (cI, 224, .inl (nF mBi))), (a_mxx, .inl (cI, 2600, .inl (nF mX))), (a_myy, .inl (cI, 2600, .inl (nF mY))), (a_mdepth, .inl (cI, 2600, .inl (nF mDe)))] s.heap := hP
  have hl := lv_entry ([.ref a_mod, .int (nI S)]) (n := 13) (Nat.le_of_ble_eq_true rfl)
  rw [lg_entry_eq]
  generalize (lg_sl ([.ref a_mod, .int (nI S)]) ++ List.replicate (13 - (lg_sl ([.ref a_mod, .int (nI S)])).length) Slot.unset).toArray = ls at hl ⊢
  have hl : lv_has ls 13 [(0, .ref a_mod), (1, .int (nI S))] := hl
  have eX : ix (mAa S) = X := ix_of hax (by omega)
  have hWs := b_mWd S
  have eL : ncL mWd CB 11 (mAa S) (mAb S) (mAc S) (mWd S) = catL (fun j => []) (mWd S) := rfl
  have eV : ∀ j, nc mWd CB 11 (mAa S) (mAb S) (mAc S) j = X / 2 ^ j % 2 := fun j => by show (ix (mAa S)) / 2 ^ j % 2 = _; rw [eX]
  refine lv_aload_n hx hb d_Mod_node1_0 rfl (lv_at hl 0 rfl) ?_
  refine va_get (D := (dC, dI)) (ci := 6) (v := .ref a_mop) (C := R_Mod) (T := F_Mod) (N := 27) hx hb hts (wi i_Mod) hown hK hP 0 rfl rfl 3 (by decide) (hts _ (mt 545 rfl rfl)) (fun _ h9 => h9) rfl d_Mod_node1_1 ?_
  refine lv_iload_n hx hb d_Mod_node1_4 rfl (lv_at hl 1 rfl) ?_
  refine k_rld hx hb hK hP 2 0 rfl rfl (by omega) (by decide) d_Mod_node1_5 ?_
  refine k_top (show mOp S = nI 11 from hop) ?_
  refine lv_istore_n (lv' := [(2, .int (nI 11)), (0, .ref a_mod), (1, .int (nI S))]) hx hb d_Mod_node1_6 rfl hl (by decide) rfl (fun ls hl => ?_)
  refine lv_aload_n hx hb d_Mod_node1_7 rfl (lv_at hl 1 rfl) ?_
  refine va_get (D := (dC, dI)) (ci := 6) (v := .ref a_mka) (C := R_Mod) (T := F_Mod) (N := 27) hx hb hts (wi i_Mod) hown hK hP 0 rfl rfl 4 (by decide) (hts _ (mt 546 rfl rfl)) (fun _ h9 => h9) rfl d_Mod_node1_8 ?_
  refine lv_iload_n hx hb d_Mod_node1_11 rfl (lv_at hl 2 rfl) ?_
  refine k_rld hx hb hK hP 3 0 rfl rfl (by omega) (by decide) d_Mod_node1_12 ?_
  refine k_top (show mAa S = nI X from hax) ?_
  refine lv_istore_n (lv' := [(3, .int (nI X)), (2, .int (nI 11)), (0, .ref a_mod), (1, .int (nI S))]) hx hb d_Mod_node1_13 rfl hl (by decide) rfl (fun ls hl => ?_)
  refine lv_aload_n hx hb d_Mod_node1_14 rfl (lv_at hl 2 rfl) ?_
  refine va_get (D := (dC, dI)) (ci := 6) (v := .ref a_mkb) (C := R_Mod) (T := F_Mod) (N := 27) hx hb hts (wi i_Mod) hown hK hP 0 rfl rfl 5 (by decide) (hts _ (mt 547 rfl rfl)) (fun _ h9 => h9) rfl d_Mod_node1_15 ?_
  refine lv_iload_n hx hb d_Mod_node1_18 rfl (lv_at hl 3 rfl) ?_
  refine k_rld hx hb hK hP 4 0 rfl rfl (by omega) (by decide) d_Mod_node1_19 ?_
  refine lv_istore (lv' := [(4, .int (mAb S)), (3, .int (nI X)), (2, .int (nI 11)), (0, .ref a_mod), (1, .int (nI S))]) hx hb d_Mod_node1_20 hl (by decide) rfl (fun ls hl => ?_)
  refine lv_iload_n hx hb d_Mod_node1_22 rfl (lv_at hl 2 rfl) ?_
  refine lv_bipush (v := nI 6) hx hb d_Mod_node1_23 rfl ?_
  refine lv_icmp_eq (tgt := 34) hx hb d_Mod_node1_25 (by decide) (fun c25 => ?_) (fun c25 => ?_)
  · skip
    have c25 : 11 = 6 := (nI_eq (by omega) (by omega)).mp c25
    omega
  · skip
    have c25 : ¬ (11 = 6) := fun h => c25 ((nI_eq (by omega) (by omega)).mpr h)
    refine lv_iload_n hx hb d_Mod_node1_28 rfl (lv_at hl 2 rfl) ?_
    refine lv_bipush (v := nI 7) hx hb d_Mod_node1_29 rfl ?_
    refine lv_icmp_ne (tgt := 53) hx hb d_Mod_node1_31 (by decide) (fun c31 => ?_) (fun c31 => ?_)
    · skip
      have c31 : ¬ (11 = 7) := fun h => c31 ((nI_eq (by omega) (by omega)).mpr h)
      refine lv_aload_n hx hb d_Mod_node1_53 rfl (lv_at hl 3 rfl) ?_
      refine va_get (D := (dC, dI)) (ci := 6) (v := .ref a_mwidth) (C := R_Mod) (T := F_Mod) (N := 27) hx hb hts (wi i_Mod) hown hK hP 0 rfl rfl 1 (by decide) (hts _ (mt 543 rfl rfl)) (fun _ h9 => h9) rfl d_Mod_node1_54 ?_
      refine lv_iload_n hx hb d_Mod_node1_57 rfl (lv_at hl 4 rfl) ?_
      refine k_ild hx hb hK hP 1 0 rfl rfl (by omega) (by decide) d_Mod_node1_58 ?_
      have hb_1 := b_mWd S
      refine lv_istore (lv' := [(5, .int (nI (mWd S))), (4, .int (mAb S)), (3, .int (nI X)), (2, .int (nI 11)), (0, .ref a_mod), (1, .int (nI S))]) hx hb d_Mod_node1_59 hl (by decide) rfl (fun ls hl => ?_)
      refine lv_iload_n hx hb d_Mod_node1_61 rfl (lv_at hl 3 rfl) ?_
      refine lv_iconst (v := nI 5) hx hb d_Mod_node1_62 rfl ?_
      refine lv_icmp_eq (tgt := 72) hx hb d_Mod_node1_63 (by decide) (fun c63 => ?_) (fun c63 => ?_)
      · skip
        have c63 : 11 = 5 := (nI_eq (by omega) (by omega)).mp c63
        omega
      · skip
        have c63 : ¬ (11 = 5) := fun h => c63 ((nI_eq (by omega) (by omega)).mpr h)
        refine lv_iload_n hx hb d_Mod_node1_66 rfl (lv_at hl 3 rfl) ?_
        refine lv_bipush (v := nI 7) hx hb d_Mod_node1_67 rfl ?_
        refine lv_icmp_ne (tgt := 76) hx hb d_Mod_node1_69 (by decide) (fun c69 => ?_) (fun c69 => ?_)
        · skip
          have c69 : ¬ (11 = 7) := fun h => c69 ((nI_eq (by omega) (by omega)).mpr h)
          refine lv_iconst (v := nI 0) hx hb d_Mod_node1_76 rfl ?_
          refine lv_istore (lv' := [(6, .int (nI 0)), (5, .int (nI (mWd S))), (4, .int (mAb S)), (3, .int (nI X)), (2, .int (nI 11)), (0, .ref a_mod), (1, .int (nI S))]) hx hb d_Mod_node1_77 hl (by decide) rfl (fun ls hl => ?_)
          refine lv_iconst (v := nI 1) hx hb d_Mod_node1_79 rfl ?_
          refine lv_istore (lv' := [(7, .int (nI 1)), (6, .int (nI 0)), (5, .int (nI (mWd S))), (4, .int (mAb S)), (3, .int (nI X)), (2, .int (nI 11)), (0, .ref a_mod), (1, .int (nI S))]) hx hb d_Mod_node1_80 hl (by decide) rfl (fun ls hl => ?_)
          refine lv_iconst (v := nI 0) hx hb d_Mod_node1_82 rfl ?_
          refine lv_istore (lv' := [(8, .int (nI 0)), (7, .int (nI 1)), (6, .int (nI 0)), (5, .int (nI (mWd S))), (4, .int (mAb S)), (3, .int (nI X)), (2, .int (nI 11)), (0, .ref a_mod), (1, .int (nI S))]) hx hb d_Mod_node1_83 hl (by decide) rfl (fun ls hl => ?_)
          have hI_2 : (∀ j, mBi j < 2786) ∧ (Out mBi mBi S) ∧ (∀ j, j < 0 → OKc T mG (mBi (8 * S + j)) (X / 2 ^ j % 2)) ∧ (0 ≤ mWd S) := ⟨b_mBi, (Out_rf mBi S), (fun j h => absurd h (by omega)), (by omega)⟩
          refine k_loop (σ := Nat × (Nat → Nat)) (D := (dC, dI)) (cl := classes) (A := A) (H0 := s.heap) (fun x => [(a_mod, .inr (6, [.ref a_mkind, .ref a_mwidth, .ref a_mreset, .ref a_mop, .ref a_mka, .ref a_mkb, .ref a_mkc, .ref a_mheld, .int (nI mN), .ref a_msort, .ref a_mof, .ref a_mfrom, .int (nI mMs), .ref a_mbit, .ref a_mdone, .ref a_mrests, .ref a_mxx, .ref a_myy, .ref a_mdepth, .ref a_mone, .int (nI mG), .int (nI mCk), .int mFw, .int (nI mRd), .ref a_mbefore, .ref a_mfirst, .ref a_mturned])), (a_mwidth, .inl (cI, 14, .inl (nF mWd))), (a_mop, .inl (cI, 14, .inl mOp)), (a_mka, .inl (cI, 14, .inl mAa)), (a_mkb, .inl (cI, 14, .inl mAb)), (a_mkc, .inl (cI, 14, .inl mAc)), (a_mbit, .inl (cI, 224, .inl (nF x.2))), (a_mxx, .inl (cI, 2600, .inl (nF mX))), (a_myy, .inl (cI, 2600, .inl (nF mY))), (a_mdepth, .inl (cI, 2600, .inl (nF mDe)))]) (fun x => [(8, .int (nI x.1)), (7, .int (nI 1)), (6, .int (nI 0)), (5, .int (nI (mWd S))), (4, .int (mAb S)), (3, .int (nI X)), (2, .int (nI 11)), (0, .ref a_mod), (1, .int (nI S))]) (fun x => (∀ j, x.2 j < 2786) ∧ (Out mBi x.2 S) ∧ (∀ j, j < x.1 → OKc T mG (x.2 (8 * S + j)) (X / 2 ^ j % 2)) ∧ (x.1 ≤ mWd S)) (fun x => mWd S - x.1) ?_ (0, mBi) hI_2 hP hD hS (lv_sub hl [0, 1, 2, 3, 4, 5, 6, 7, 8] rfl)
          rintro ⟨b, B1⟩ hI ih_3 H locs ls hP hD hS hl
          obtain ⟨b_B1, hO1, hB1, hbw⟩ : (∀ j, B1 j < 2786) ∧ (Out mBi B1 S) ∧ (∀ j, j < b → OKc T mG (B1 (8 * S + j)) (X / 2 ^ j % 2)) ∧ (b ≤ mWd S) := hI
          have hP : va_P (dC, dI) classes [(a_mod, .inr (6, [.ref a_mkind, .ref a_mwidth, .ref a_mreset, .ref a_mop, .ref a_mka, .ref a_mkb, .ref a_mkc, .ref a_mheld, .int (nI mN), .ref a_msort, .ref a_mof, .ref a_mfrom, .int (nI mMs), .ref a_mbit, .ref a_mdone, .ref a_mrests, .ref a_mxx, .ref a_myy, .ref a_mdepth, .ref a_mone, .int (nI mG), .int (nI mCk), .int mFw, .int (nI mRd), .ref a_mbefore, .ref a_mfirst, .ref a_mturned])), (a_mwidth, .inl (cI, 14, .inl (nF mWd))), (a_mop, .inl (cI, 14, .inl mOp)), (a_mka, .inl (cI, 14, .inl mAa)), (a_mkb, .inl (cI, 14, .inl mAb)), (a_mkc, .inl (cI, 14, .inl mAc)), (a_mbit, .inl (cI, 224, .inl (nF B1))), (a_mxx, .inl (cI, 2600, .inl (nF mX))), (a_myy, .inl (cI, 2600, .inl (nF mY))), (a_mdepth, .inl (cI, 2600, .inl (nF mDe)))] H := hP
          have hD : va_D A [(a_mod, .inr (6, [.ref a_mkind, .ref a_mwidth, .ref a_mreset, .ref a_mop, .ref a_mka, .ref a_mkb, .ref a_mkc, .ref a_mheld, .int (nI mN), .ref a_msort, .ref a_mof, .ref a_mfrom, .int (nI mMs), .ref a_mbit, .ref a_mdone, .ref a_mrests, .ref a_mxx, .ref a_myy, .ref a_mdepth, .ref a_mone, .int (nI mG), .int (nI mCk), .int mFw, .int (nI mRd), .ref a_mbefore, .ref a_mfirst, .ref a_mturned])), (a_mwidth, .inl (cI, 14, .inl (nF mWd))), (a_mop, .inl (cI, 14, .inl mOp)), (a_mka, .inl (cI, 14, .inl mAa)), (a_mkb, .inl (cI, 14, .inl mAb)), (a_mkc, .inl (cI, 14, .inl mAc)), (a_mbit, .inl (cI, 224, .inl (nF B1))), (a_mxx, .inl (cI, 2600, .inl (nF mX))), (a_myy, .inl (cI, 2600, .inl (nF mY))), (a_mdepth, .inl (cI, 2600, .inl (nF mDe)))] := hD
          have hl : lv_has ls 13 [(8, .int (nI b)), (7, .int (nI 1)), (6, .int (nI 0)), (5, .int (nI (mWd S))), (4, .int (mAb S)), (3, .int (nI X)), (2, .int (nI 11)), (0, .ref a_mod), (1, .int (nI S))] := hl
          refine lv_iload hx hb d_Mod_node1_85 (lv_at hl 0 rfl) ?_
          refine lv_iload hx hb d_Mod_node1_87 (lv_at hl 3 rfl) ?_
          refine lv_icmp_ge (tgt := 498) hx hb d_Mod_node1_89 (by decide) (fun c89 => ?_) (fun c89 => ?_)
          · skip
            have c89 : (mWd S) ≤ b := (nI_leI (by omega) (by omega)).mp c89
            refine lv_iload_n hx hb d_Mod_node1_498 rfl (lv_at hl 6 rfl) ?_
            refine lv_bipush (v := nI 6) hx hb d_Mod_node1_499 rfl ?_
            refine lv_icmp_ne (tgt := 515) hx hb d_Mod_node1_501 (by decide) (fun c501 => ?_) (fun c501 => ?_)
            · skip
              have c501 : ¬ (11 = 6) := fun h => c501 ((nI_eq (by omega) (by omega)).mpr h)
              refine lv_iload_n hx hb d_Mod_node1_515 rfl (lv_at hl 6 rfl) ?_
              refine lv_bipush (v := nI 7) hx hb d_Mod_node1_516 rfl ?_
              refine lv_icmp_ne (tgt := 534) hx hb d_Mod_node1_518 (by decide) (fun c518 => ?_) (fun c518 => ?_)
              · skip
                have c518 : ¬ (11 = 7) := fun h => c518 ((nI_eq (by omega) (by omega)).mpr h)
                exact W.vret hx hb hr (fun t ht hW => ⟨⟨(mG, mX, mY, mDe, gd, P, Dp, Sl, T, B1), rfl, ⟨(show mG ≤ 1280 from by omega), b_mX, b_mY, b_mDe, b_B1, (show NJ mG gd P Dp Sl T from hN), (show MXY mG mX mY mDe P Dp from hXY), (show AL K T mG from hAL), (show ST T mG T mG (ncL mWd CB 11 (mAa S) (mAb S) (mAc S) (mWd S)) from ST_rf (by rw [eL]; exact catL_nil _)), (show Out mBi B1 S from hO1), (show ∀ j, j < mWd S → OKc T mG (B1 (8 * S + j)) (nc mWd CB 11 (mAa S) (mAb S) (mAc S) j) from fun j hj => by rw [eV]; exact hB1 j (by omega))⟩, by rw [ht]; exact hP, va_K.moved hW.alike hK, hD⟩, hS.F ht⟩) hS.2.2 d_Mod_node1_534
              · skip
                have c518 : 11 = 7 := (nI_eq (by omega) (by omega)).mp c518
                omega
            · skip
              have c501 : 11 = 6 := (nI_eq (by omega) (by omega)).mp c501
              omega
          · skip
            have c89 : ¬ ((mWd S) ≤ b) := fun h => c89 ((nI_leI (by omega) (by omega)).mpr h)
            refine lv_iload_n hx hb d_Mod_node1_92 rfl (lv_at hl 6 rfl) ?_
            refine lv_bipush (v := nI 11) hx hb d_Mod_node1_93 rfl ?_
            refine lv_icmp_ne (tgt := 107) hx hb d_Mod_node1_95 (by decide) (fun c95 => ?_) (fun c95 => ?_)
            · skip
              have c95 : ¬ (11 = 11) := fun h => c95 ((nI_eq (by omega) (by omega)).mpr h)
              omega
            · skip
              have c95 : 11 = 11 := (nI_eq (by omega) (by omega)).mp c95
              refine lv_iload_n hx hb d_Mod_node1_98 rfl (lv_at hl 5 rfl) ?_
              refine lv_iload hx hb d_Mod_node1_99 (lv_at hl 0 rfl) ?_
              refine lv_ishr hx hb d_Mod_node1_101 ?_
              refine k_top (nI_shr (by omega) (by omega)) ?_
              refine lv_iconst (v := nI 1) hx hb d_Mod_node1_102 rfl ?_
              refine lv_iand hx hb d_Mod_node1_103 ?_
              refine k_top (nI_and _ _) ?_
              refine k_top (congrArg nI (show (X / 2 ^ b) &&& 1 = X / 2 ^ b % 2 from (by rw [and1]))) ?_
              refine lv_goto (tgt := 108) hx hb d_Mod_node1_104 (by decide) ?_
              have hm2 : X / 2 ^ b % 2 < 2 := Nat.mod_lt _ (by decide)
              have hl9 : OKc T mG (X / 2 ^ b % 2) (X / 2 ^ b % 2) := by
                rcases (show X / 2 ^ b % 2 = 0 ∨ X / 2 ^ b % 2 = 1 by omega) with e | e
                · rw [e]; exact ⟨by omega, LT_0 hN.1⟩
                · rw [e]; exact ⟨by omega, LT_1 hN.1⟩
              refine lv_istore (lv' := [(9, .int (nI (X / 2 ^ b % 2))), (8, .int (nI b)), (7, .int (nI 1)), (6, .int (nI 0)), (5, .int (nI (mWd S))), (4, .int (mAb S)), (3, .int (nI X)), (2, .int (nI 11)), (0, .ref a_mod), (1, .int (nI S))]) hx hb d_Mod_node1_108 hl (by decide) rfl (fun ls hl => ?_)
              refine lv_iload_n hx hb d_Mod_node1_110 rfl (lv_at hl 7 rfl) ?_
              refine lv_if_ne (tgt := 130) hx hb d_Mod_node1_111 (by decide) (fun c111 => ?_) (fun c111 => ?_)
              · skip
                have c111 : ¬ (11 = 0) := fun h => c111 ((nI_eq0 (by omega)).mpr h)
                refine lv_iload_n hx hb d_Mod_node1_130 rfl (lv_at hl 7 rfl) ?_
                refine lv_iconst (v := nI 1) hx hb d_Mod_node1_131 rfl ?_
                refine lv_icmp_ne (tgt := 156) hx hb d_Mod_node1_132 (by decide) (fun c132 => ?_) (fun c132 => ?_)
                · skip
                  have c132 : ¬ (11 = 1) := fun h => c132 ((nI_eq (by omega) (by omega)).mpr h)
                  refine lv_iload_n hx hb d_Mod_node1_156 rfl (lv_at hl 7 rfl) ?_
                  refine lv_iconst (v := nI 2) hx hb d_Mod_node1_157 rfl ?_
                  refine lv_icmp_ne (tgt := 182) hx hb d_Mod_node1_158 (by decide) (fun c158 => ?_) (fun c158 => ?_)
                  · skip
                    have c158 : ¬ (11 = 2) := fun h => c158 ((nI_eq (by omega) (by omega)).mpr h)
                    refine lv_iload_n hx hb d_Mod_node1_182 rfl (lv_at hl 7 rfl) ?_
                    refine lv_iconst (v := nI 3) hx hb d_Mod_node1_183 rfl ?_
                    refine lv_icmp_ne (tgt := 208) hx hb d_Mod_node1_184 (by decide) (fun c184 => ?_) (fun c184 => ?_)
                    · skip
                      have c184 : ¬ (11 = 3) := fun h => c184 ((nI_eq (by omega) (by omega)).mpr h)
                      refine lv_iload_n hx hb d_Mod_node1_208 rfl (lv_at hl 7 rfl) ?_
                      refine lv_iconst (v := nI 4) hx hb d_Mod_node1_209 rfl ?_
                      refine lv_icmp_ne (tgt := 226) hx hb d_Mod_node1_210 (by decide) (fun c210 => ?_) (fun c210 => ?_)
                      · skip
                        have c210 : ¬ (11 = 4) := fun h => c210 ((nI_eq (by omega) (by omega)).mpr h)
                        refine lv_iload_n hx hb d_Mod_node1_226 rfl (lv_at hl 7 rfl) ?_
                        refine lv_iconst (v := nI 4) hx hb d_Mod_node1_227 rfl ?_
                        refine lv_icmp_ne (tgt := 240) hx hb d_Mod_node1_228 (by decide) (fun c228 => ?_) (fun c228 => ?_)
                        · skip
                          have c228 : ¬ (11 = 4) := fun h => c228 ((nI_eq (by omega) (by omega)).mpr h)
                          refine lv_iload_n hx hb d_Mod_node1_240 rfl (lv_at hl 7 rfl) ?_
                          refine lv_iconst (v := nI 5) hx hb d_Mod_node1_241 rfl ?_
                          refine lv_icmp_eq (tgt := 251) hx hb d_Mod_node1_242 (by decide) (fun c242 => ?_) (fun c242 => ?_)
                          · skip
                            have c242 : 11 = 5 := (nI_eq (by omega) (by omega)).mp c242
                            omega
                          · skip
                            have c242 : ¬ (11 = 5) := fun h => c242 ((nI_eq (by omega) (by omega)).mpr h)
                            refine lv_iload_n hx hb d_Mod_node1_245 rfl (lv_at hl 7 rfl) ?_
                            refine lv_bipush (v := nI 7) hx hb d_Mod_node1_246 rfl ?_
                            refine lv_icmp_ne (tgt := 323) hx hb d_Mod_node1_248 (by decide) (fun c248 => ?_) (fun c248 => ?_)
                            · skip
                              have c248 : ¬ (11 = 7) := fun h => c248 ((nI_eq (by omega) (by omega)).mpr h)
                              refine lv_iload_n hx hb d_Mod_node1_323 rfl (lv_at hl 7 rfl) ?_
                              refine lv_bipush (v := nI 6) hx hb d_Mod_node1_324 rfl ?_
                              refine lv_icmp_ne (tgt := 358) hx hb d_Mod_node1_326 (by decide) (fun c326 => ?_) (fun c326 => ?_)
                              · skip
                                have c326 : ¬ (11 = 6) := fun h => c326 ((nI_eq (by omega) (by omega)).mpr h)
                                refine lv_iload_n hx hb d_Mod_node1_358 rfl (lv_at hl 7 rfl) ?_
                                refine lv_bipush (v := nI 8) hx hb d_Mod_node1_359 rfl ?_
                                refine lv_icmp_ne (tgt := 414) hx hb d_Mod_node1_361 (by decide) (fun c361 => ?_) (fun c361 => ?_)
                                · skip
                                  have c361 : ¬ (11 = 8) := fun h => c361 ((nI_eq (by omega) (by omega)).mpr h)
                                  refine lv_iload_n hx hb d_Mod_node1_414 rfl (lv_at hl 7 rfl) ?_
                                  refine lv_bipush (v := nI 9) hx hb d_Mod_node1_415 rfl ?_
                                  refine lv_icmp_ne (tgt := 437) hx hb d_Mod_node1_417 (by decide) (fun c417 => ?_) (fun c417 => ?_)
                                  · skip
                                    have c417 : ¬ (11 = 9) := fun h => c417 ((nI_eq (by omega) (by omega)).mpr h)
                                    refine lv_iload_n hx hb d_Mod_node1_437 rfl (lv_at hl 7 rfl) ?_
                                    refine lv_bipush (v := nI 10) hx hb d_Mod_node1_438 rfl ?_
                                    refine lv_icmp_ne (tgt := 478) hx hb d_Mod_node1_440 (by decide) (fun c440 => ?_) (fun c440 => ?_)
                                    · skip
                                      have c440 : ¬ (11 = 10) := fun h => c440 ((nI_eq (by omega) (by omega)).mpr h)
                                      refine lv_aload_n hx hb d_Mod_node1_478 rfl (lv_at hl 8 rfl) ?_
                                      refine va_get (D := (dC, dI)) (ci := 6) (v := .ref a_mbit) (C := R_Mod) (T := F_Mod) (N := 27) hx hb hts (wi i_Mod) hown hK hP 0 rfl rfl 13 (by decide) (hts _ (mt 555 rfl rfl)) (fun _ h9 => h9) rfl d_Mod_node1_479 ?_
                                      refine lv_bipush (v := nI 8) hx hb d_Mod_node1_482 rfl ?_
                                      refine lv_iload_n hx hb d_Mod_node1_484 rfl (lv_at hl 9 rfl) ?_
                                      refine lv_imul hx hb d_Mod_node1_485 ?_
                                      refine k_top (pk_mul _ _) ?_
                                      refine lv_iload hx hb d_Mod_node1_486 (lv_at hl 1 rfl) ?_
                                      refine lv_iadd hx hb d_Mod_node1_488 ?_
                                      refine k_top (nI_add _ _) ?_
                                      refine lv_iload hx hb d_Mod_node1_489 (lv_at hl 0 rfl) ?_
                                      refine k_ist hx hb hK hP hD hS 6 0 rfl rfl (by omega) (by decide) d_Mod_node1_491 (fun H locs hP hD hS => ?_)
                                      have bb_4 : ∀ j, upN B1 ((8 * S) + b) (X / 2 ^ b % 2) j < 2786 := upN_lt b_B1 (by omega)
                                      have hP : va_P (dC, dI) classes [(a_mod, .inr (6, [.ref a_mkind, .ref a_mwidth, .ref a_mreset, .ref a_mop, .ref a_mka, .ref a_mkb, .ref a_mkc, .ref a_mheld, .int (nI mN), .ref a_msort, .ref a_mof, .ref a_mfrom, .int (nI mMs), .ref a_mbit, .ref a_mdone, .ref a_mrests, .ref a_mxx, .ref a_myy, .ref a_mdepth, .ref a_mone, .int (nI mG), .int (nI mCk), .int mFw, .int (nI mRd), .ref a_mbefore, .ref a_mfirst, .ref a_mturned])), (a_mwidth, .inl (cI, 14, .inl (nF mWd))), (a_mop, .inl (cI, 14, .inl mOp)), (a_mka, .inl (cI, 14, .inl mAa)), (a_mkb, .inl (cI, 14, .inl mAb)), (a_mkc, .inl (cI, 14, .inl mAc)), (a_mbit, .inl (cI, 224, .inl (nF (upN B1 ((8 * S) + b) (X / 2 ^ b % 2))))), (a_mxx, .inl (cI, 2600, .inl (nF mX))), (a_myy, .inl (cI, 2600, .inl (nF mY))), (a_mdepth, .inl (cI, 2600, .inl (nF mDe)))] H := hP
                                      have hD : va_D A [(a_mod, .inr (6, [.ref a_mkind, .ref a_mwidth, .ref a_mreset, .ref a_mop, .ref a_mka, .ref a_mkb, .ref a_mkc, .ref a_mheld, .int (nI mN), .ref a_msort, .ref a_mof, .ref a_mfrom, .int (nI mMs), .ref a_mbit, .ref a_mdone, .ref a_mrests, .ref a_mxx, .ref a_myy, .ref a_mdepth, .ref a_mone, .int (nI mG), .int (nI mCk), .int mFw, .int (nI mRd), .ref a_mbefore, .ref a_mfirst, .ref a_mturned])), (a_mwidth, .inl (cI, 14, .inl (nF mWd))), (a_mop, .inl (cI, 14, .inl mOp)), (a_mka, .inl (cI, 14, .inl mAa)), (a_mkb, .inl (cI, 14, .inl mAb)), (a_mkc, .inl (cI, 14, .inl mAc)), (a_mbit, .inl (cI, 224, .inl (nF (upN B1 ((8 * S) + b) (X / 2 ^ b % 2))))), (a_mxx, .inl (cI, 2600, .inl (nF mX))), (a_myy, .inl (cI, 2600, .inl (nF mY))), (a_mdepth, .inl (cI, 2600, .inl (nF mDe)))] := hD
                                      refine lv_iinc (v := nI (b + 1)) (lv' := [(8, .int (nI (b + 1))), (9, .int (nI (X / 2 ^ b % 2))), (7, .int (nI 1)), (6, .int (nI 0)), (5, .int (nI (mWd S))), (4, .int (mAb S)), (3, .int (nI X)), (2, .int (nI 11)), (0, .ref a_mod), (1, .int (nI S))]) hx hb d_Mod_node1_492 hl (k := 1) rfl (k_inc _ 1) (by decide) rfl (fun ls hl => ?_)
                                      refine lv_goto (tgt := 85) hx hb d_Mod_node1_495 (by decide) ?_
                                      have hI_5 : (∀ j, (upN B1 ((8 * S) + b) (X / 2 ^ b % 2)) j < 2786) ∧ (Out mBi (upN B1 ((8 * S) + b) (X / 2 ^ b % 2)) S) ∧ (∀ j, j < (b + 1) → OKc T mG ((upN B1 ((8 * S) + b) (X / 2 ^ b % 2)) (8 * S + j)) (X / 2 ^ j % 2)) ∧ ((b + 1) ≤ mWd S) := ⟨bb_4, (Out_up8 hO1 (by omega)), (fun j hj => by
      by_cases e : j = b
      · rw [e, upN_self]; exact hl9
      · rw [upN_ne _ _ (by omega)]; exact hB1 j (by omega)), (by omega)⟩
                                      exact ih_3 (b + 1, upN B1 ((8 * S) + b) (X / 2 ^ b % 2)) hI_5 (show mWd S - (b + 1) < mWd S - b from by omega) _ _ _ hP hD hS (lv_sub hl [0, 2, 3, 4, 5, 6, 7, 8, 9] rfl)
                                    · skip
                                      have c440 : 11 = 10 := (nI_eq (by omega) (by omega)).mp c440
                                      omega
                                  · skip
                                    have c417 : 11 = 9 := (nI_eq (by omega) (by omega)).mp c417
                                    omega
                                · skip
                                  have c361 : 11 = 8 := (nI_eq (by omega) (by omega)).mp c361
                                  omega
                              · skip
                                have c326 : 11 = 6 := (nI_eq (by omega) (by omega)).mp c326
                                omega
                            · skip
                              have c248 : 11 = 7 := (nI_eq (by omega) (by omega)).mp c248
                              omega
                        · skip
                          have c228 : 11 = 4 := (nI_eq (by omega) (by omega)).mp c228
                          omega
                      · skip
                        have c210 : 11 = 4 := (nI_eq (by omega) (by omega)).mp c210
                        omega
                    · skip
                      have c184 : 11 = 3 := (nI_eq (by omega) (by omega)).mp c184
                      omega
                  · skip
                    have c158 : 11 = 2 := (nI_eq (by omega) (by omega)).mp c158
                    omega
                · skip
                  have c132 : 11 = 1 := (nI_eq (by omega) (by omega)).mp c132
                  omega
              · skip
                have c111 : 11 = 0 := (nI_eq0 (by omega)).mp c111
                omega
        · skip
          have c69 : 11 = 7 := (nI_eq (by omega) (by omega)).mp c69
          omega
    · skip
      have c31 : 11 = 7 := (nI_eq (by omega) (by omega)).mp c31
      omega
