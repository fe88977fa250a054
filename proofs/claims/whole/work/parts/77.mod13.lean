set_option maxHeartbeats 4000000 in
theorem c_Mod_node1 (l : Launch) (dC : Nat → ClassId) (dI : Nat → Nat → Nat) (cI cZ : ClassId) (a_mod a_mkind a_mwidth a_mreset a_mop a_mka a_mkb a_mkc a_mheld a_msort a_mof a_mfrom a_mbit a_mdone a_mrests a_mxx a_myy a_mdepth a_mone a_mbefore a_mfirst a_mturned : Nat) (tt sz : Nat) (mN : Nat) (mMs : Nat) (mG : Nat) (mCk : Nat) (mFw : Int32) (mRd : Nat) (mWd : Nat → Nat) (mOp : Nat → Int32) (mAa : Nat → Int32) (mAb : Nat → Int32) (mAc : Nat → Int32) (mBi : Nat → Nat) (mX : Nat → Nat) (mY : Nat → Nat) (mDe : Nat → Nat) (gd : Nat) (P : Nat → Nat) (Dp : Nat → Nat) (Sl : Nat → Nat) (T : Nat → Nat) (K : List Nat) (CB : Nat → Nat → Nat) (O : Nat) (S : Nat) (b_mN : mN ≤ 14) (b_mMs : mMs ≤ 20) (b_mG : mG ≤ 1280) (b_mRd : mRd ≤ 1) (b_mWd : ∀ j, mWd j < 9) (b_mBi : ∀ j, mBi j < 2786) (b_mX : ∀ j, mX j < 2786) (b_mY : ∀ j, mY j < 2786) (b_mDe : ∀ j, mDe j < 1400) (hN : NJ mG gd P Dp Sl T) (hXY : MXY mG mX mY mDe P Dp) (hAL : AL K T mG) (hS14 : S < 14) (hW1 : 1 ≤ mWd S) (hop : mOp S = nI O) (hO : O ≤ 11) (hx1 : 1 ≤ tab O → (∃ X, X < 14 ∧ mAa S = nI X) ∧ ix (mAa S) ≠ S ∧ ∀ j, OKc T mG (lit mBi mWd (ix (mAa S)) j) (CB (ix (mAa S)) j)) (hy1 : 2 ≤ tab O → (∃ X, X < 14 ∧ mAb S = nI X) ∧ ix (mAb S) ≠ S ∧ ∀ j, OKc T mG (lit mBi mWd (ix (mAb S)) j) (CB (ix (mAb S)) j)) (hz1 : 3 ≤ tab O → (∃ X, X < 14 ∧ mAc S = nI X) ∧ ix (mAc S) ≠ S ∧ ∀ j, OKc T mG (lit mBi mWd (ix (mAc S)) j) (CB (ix (mAc S)) j)) (h9 : O = 9 → (∃ Y, Y ≤ 8 ∧ mAb S = nI Y) ∧ ix (mAb S) + mWd S ≤ mWd (ix (mAa S))) (h11 : O = 11 → ∃ X, X < 256 ∧ mAa S = nI X) (hw0 : O = 0 → mWd S = mWd (ix (mAa S))) (hw4 : O = 4 → mWd S = max (mWd (ix (mAa S))) (mWd (ix (mAb S))) + 1) (hw5 : O = 5 → mWd S = max (mWd (ix (mAa S))) (mWd (ix (mAb S)))) (hw67 : O = 6 ∨ O = 7 → mWd S = 1) (hw8 : O = 8 → mWd S = mWd (ix (mAa S)) + mWd (ix (mAb S))) (hw10 : O = 10 → 1 ≤ mWd (ix (mAa S))) (hgl : ∀ c, c ∈ ncL mWd CB O (mAa S) (mAb S) (mAc S) (mWd S) → c ∈ K) : Met l y_Mod_node1 w_Mod_node1 ({ frames := 6, cells := 0, slots := 0, locals := 200 }) (va_Pc [.ref a_mod, .int (nI S)] (PW (dC, dI) classes [(cI, .int), (cZ, .boolean)] tt [(a_mod, .inr (6, [.ref a_mkind, .ref a_mwidth, .ref a_mreset, .ref a_mop, .ref a_mka, .ref a_mkb, .ref a_mkc, .ref a_mheld, .int (nI mN), .ref a_msort, .ref a_mof, .ref a_mfrom, .int (nI mMs), .ref a_mbit, .ref a_mdone, .ref a_mrests, .ref a_mxx, .ref a_myy, .ref a_mdepth, .ref a_mone, .int (nI mG), .int (nI mCk), .int mFw, .int (nI mRd), .ref a_mbefore, .ref a_mfirst, .ref a_mturned])), (a_mwidth, .inl (cI, 14, .inl (nF mWd))), (a_mop, .inl (cI, 14, .inl mOp)), (a_mka, .inl (cI, 14, .inl mAa)), (a_mkb, .inl (cI, 14, .inl mAb)), (a_mkc, .inl (cI, 14, .inl mAc)), (a_mbit, .inl (cI, 224, .inl (nF mBi))), (a_mxx, .inl (cI, 2600, .inl (nF mX))), (a_myy, .inl (cI, 2600, .inl (nF mY))), (a_mdepth, .inl (cI, 2600, .inl (nF mDe)))] sz)) (va_Qv (fun (u : Nat × (Nat → Nat) × (Nat → Nat) × (Nat → Nat) × Nat × (Nat → Nat) × (Nat → Nat) × (Nat → Nat) × (Nat → Nat) × (Nat → Nat)) => (u.1 ≤ 1280) ∧ (∀ j, u.2.1 j < 2786) ∧ (∀ j, u.2.2.1 j < 2786) ∧ (∀ j, u.2.2.2.1 j < 1400) ∧ (∀ j, u.2.2.2.2.2.2.2.2.2 j < 2786) ∧ (NJ u.1 u.2.2.2.2.1 u.2.2.2.2.2.1 u.2.2.2.2.2.2.1 u.2.2.2.2.2.2.2.1 u.2.2.2.2.2.2.2.2.1) ∧ (MXY u.1 u.2.1 u.2.2.1 u.2.2.2.1 u.2.2.2.2.2.1 u.2.2.2.2.2.2.1) ∧ (AL K u.2.2.2.2.2.2.2.2.1 u.1) ∧ (ST T mG u.2.2.2.2.2.2.2.2.1 u.1 (ncL mWd CB O (mAa S) (mAb S) (mAc S) (mWd S))) ∧ (Out mBi u.2.2.2.2.2.2.2.2.2 S) ∧ (∀ j, j < mWd S → OKc u.2.2.2.2.2.2.2.2.1 u.1 (u.2.2.2.2.2.2.2.2.2 (8 * S + j)) (nc mWd CB O (mAa S) (mAb S) (mAc S) j))) (AT (dC, dI) classes [(cI, .int), (cZ, .boolean)] (va_A [(a_mod, .inr (6, [.ref a_mkind, .ref a_mwidth, .ref a_mreset, .ref a_mop, .ref a_mka, .ref a_mkb, .ref a_mkc, .ref a_mheld, .int (nI mN), .ref a_msort, .ref a_mof, .ref a_mfrom, .int (nI mMs), .ref a_mbit, .ref a_mdone, .ref a_mrests, .ref a_mxx, .ref a_myy, .ref a_mdepth, .ref a_mone, .int (nI mG), .int (nI mCk), .int mFw, .int (nI mRd), .ref a_mbefore, .ref a_mfirst, .ref a_mturned])), (a_mwidth, .inl (cI, 14, .inl (nF mWd))), (a_mop, .inl (cI, 14, .inl mOp)), (a_mka, .inl (cI, 14, .inl mAa)), (a_mkb, .inl (cI, 14, .inl mAb)), (a_mkc, .inl (cI, 14, .inl mAc)), (a_mbit, .inl (cI, 224, .inl (nF mBi))), (a_mxx, .inl (cI, 2600, .inl (nF mX))), (a_myy, .inl (cI, 2600, .inl (nF mY))), (a_mdepth, .inl (cI, 2600, .inl (nF mDe)))] sz) (fun (u : Nat × (Nat → Nat) × (Nat → Nat) × (Nat → Nat) × Nat × (Nat → Nat) × (Nat → Nat) × (Nat → Nat) × (Nat → Nat) × (Nat → Nat)) => [(a_mod, .inr (6, [.ref a_mkind, .ref a_mwidth, .ref a_mreset, .ref a_mop, .ref a_mka, .ref a_mkb, .ref a_mkc, .ref a_mheld, .int (nI mN), .ref a_msort, .ref a_mof, .ref a_mfrom, .int (nI mMs), .ref a_mbit, .ref a_mdone, .ref a_mrests, .ref a_mxx, .ref a_myy, .ref a_mdepth, .ref a_mone, .int (nI u.1), .int (nI mCk), .int mFw, .int (nI mRd), .ref a_mbefore, .ref a_mfirst, .ref a_mturned])), (a_mwidth, .inl (cI, 14, .inl (nF mWd))), (a_mop, .inl (cI, 14, .inl mOp)), (a_mka, .inl (cI, 14, .inl mAa)), (a_mkb, .inl (cI, 14, .inl mAb)), (a_mkc, .inl (cI, 14, .inl mAc)), (a_mbit, .inl (cI, 224, .inl (nF u.2.2.2.2.2.2.2.2.2))), (a_mxx, .inl (cI, 2600, .inl (nF u.2.1))), (a_myy, .inl (cI, 2600, .inl (nF u.2.2.1))), (a_mdepth, .inl (cI, 2600, .inl (nF u.2.2.2.1)))])) (va_A [(a_mod, .inr (6, [.ref a_mkind, .ref a_mwidth, .ref a_mreset, .ref a_mop, .ref a_mka, .ref a_mkb, .ref a_mkc, .ref a_mheld, .int (nI mN), .ref a_msort, .ref a_mof, .ref a_mfrom, .int (nI mMs), .ref a_mbit, .ref a_mdone, .ref a_mrests, .ref a_mxx, .ref a_myy, .ref a_mdepth, .ref a_mone, .int (nI mG), .int (nI mCk), .int mFw, .int (nI mRd), .ref a_mbefore, .ref a_mfirst, .ref a_mturned])), (a_mwidth, .inl (cI, 14, .inl (nF mWd))), (a_mop, .inl (cI, 14, .inl mOp)), (a_mka, .inl (cI, 14, .inl mAa)), (a_mkb, .inl (cI, 14, .inl mAb)), (a_mkc, .inl (cI, 14, .inl mAc)), (a_mbit, .inl (cI, 224, .inl (nF mBi))), (a_mxx, .inl (cI, 2600, .inl (nF mX))), (a_myy, .inl (cI, 2600, .inl (nF mY))), (a_mdepth, .inl (cI, 2600, .inl (nF mDe)))] sz)) 0 0 (va_A [(a_mod, .inr (6, [.ref a_mkind, .ref a_mwidth, .ref a_mreset, .ref a_mop, .ref a_mka, .ref a_mkb, .ref a_mkc, .ref a_mheld, .int (nI mN), .ref a_msort, .ref a_mof, .ref a_mfrom, .int (nI mMs), .ref a_mbit, .ref a_mdone, .ref a_mrests, .ref a_mxx, .ref a_myy, .ref a_mdepth, .ref a_mone, .int (nI mG), .int (nI mCk), .int mFw, .int (nI mRd), .ref a_mbefore, .ref a_mfirst, .ref a_mturned])), (a_mwidth, .inl (cI, 14, .inl (nF mWd))), (a_mop, .inl (cI, 14, .inl mOp)), (a_mka, .inl (cI, 14, .inl mAa)), (a_mkb, .inl (cI, 14, .inl mAb)), (a_mkc, .inl (cI, 14, .inl mAc)), (a_mbit, .inl (cI, 224, .inl (nF mBi))), (a_mxx, .inl (cI, 2600, .inl (nF mX))), (a_myy, .inl (cI, 2600, .inl (nF mY))), (a_mdepth, .inl (cI, 2600, .inl (nF mDe)))] sz) := by
  rcases (show O = 0 ∨ O = 1 ∨ O = 2 ∨ O = 3 ∨ O = 4 ∨ O = 5 ∨ O = 6 ∨ O = 7 ∨ O = 8 ∨ O = 9 ∨ O = 10 ∨ O = 11 by omega) with rfl | rfl | rfl | rfl | rfl | rfl | rfl | rfl | rfl | rfl | rfl | rfl
  · obtain ⟨⟨X, hX14, eX⟩, hXn, hXo⟩ := hx1 (by decide)
    have iX := ix_of eX (by omega)
    rw [iX] at hXn hXo
    have hw := hw0 rfl
    rw [iX] at hw
    exact c_Mod_node1o0 l dC dI cI cZ a_mod a_mkind a_mwidth a_mreset a_mop a_mka a_mkb a_mkc a_mheld a_msort a_mof a_mfrom a_mbit a_mdone a_mrests a_mxx a_myy a_mdepth a_mone a_mbefore a_mfirst a_mturned tt sz mN mMs mG mCk mFw mRd mWd mOp mAa mAb mAc mBi mX mY mDe gd P Dp Sl T K CB X S b_mN b_mMs b_mG b_mRd b_mWd b_mBi b_mX b_mY b_mDe hN hXY hAL hS14 hW1 hop eX ⟨hX14, hXn, hXo⟩ hw hgl
  · obtain ⟨⟨X, hX14, eX⟩, hXn, hXo⟩ := hx1 (by decide)
    have iX := ix_of eX (by omega)
    rw [iX] at hXn hXo
    obtain ⟨⟨Y, hY14, eY⟩, hYn, hYo⟩ := hy1 (by decide)
    have iY := ix_of eY (by omega)
    rw [iY] at hYn hYo
    exact c_Mod_node1o1 l dC dI cI cZ a_mod a_mkind a_mwidth a_mreset a_mop a_mka a_mkb a_mkc a_mheld a_msort a_mof a_mfrom a_mbit a_mdone a_mrests a_mxx a_myy a_mdepth a_mone a_mbefore a_mfirst a_mturned tt sz mN mMs mG mCk mFw mRd mWd mOp mAa mAb mAc mBi mX mY mDe gd P Dp Sl T K CB X Y S b_mN b_mMs b_mG b_mRd b_mWd b_mBi b_mX b_mY b_mDe hN hXY hAL hS14 hW1 hop eX ⟨hX14, hXn, hXo⟩ eY ⟨hY14, hYn, hYo⟩ hgl
  · obtain ⟨⟨X, hX14, eX⟩, hXn, hXo⟩ := hx1 (by decide)
    have iX := ix_of eX (by omega)
    rw [iX] at hXn hXo
    obtain ⟨⟨Y, hY14, eY⟩, hYn, hYo⟩ := hy1 (by decide)
    have iY := ix_of eY (by omega)
    rw [iY] at hYn hYo
    exact c_Mod_node1o2 l dC dI cI cZ a_mod a_mkind a_mwidth a_mreset a_mop a_mka a_mkb a_mkc a_mheld a_msort a_mof a_mfrom a_mbit a_mdone a_mrests a_mxx a_myy a_mdepth a_mone a_mbefore a_mfirst a_mturned tt sz mN mMs mG mCk mFw mRd mWd mOp mAa mAb mAc mBi mX mY mDe gd P Dp Sl T K CB X Y S b_mN b_mMs b_mG b_mRd b_mWd b_mBi b_mX b_mY b_mDe hN hXY hAL hS14 hW1 hop eX ⟨hX14, hXn, hXo⟩ eY ⟨hY14, hYn, hYo⟩ hgl
  · obtain ⟨⟨X, hX14, eX⟩, hXn, hXo⟩ := hx1 (by decide)
    have iX := ix_of eX (by omega)
    rw [iX] at hXn hXo
    obtain ⟨⟨Y, hY14, eY⟩, hYn, hYo⟩ := hy1 (by decide)
    have iY := ix_of eY (by omega)
    rw [iY] at hYn hYo
    exact c_Mod_node1o3 l dC dI cI cZ a_mod a_mkind a_mwidth a_mreset a_mop a_mka a_mkb a_mkc a_mheld a_msort a_mof a_mfrom a_mbit a_mdone a_mrests a_mxx a_myy a_mdepth a_mone a_mbefore a_mfirst a_mturned tt sz mN mMs mG mCk mFw mRd mWd mOp mAa mAb mAc mBi mX mY mDe gd P Dp Sl T K CB X Y S b_mN b_mMs b_mG b_mRd b_mWd b_mBi b_mX b_mY b_mDe hN hXY hAL hS14 hW1 hop eX ⟨hX14, hXn, hXo⟩ eY ⟨hY14, hYn, hYo⟩ hgl
  · obtain ⟨⟨X, hX14, eX⟩, hXn, hXo⟩ := hx1 (by decide)
    have iX := ix_of eX (by omega)
    rw [iX] at hXn hXo
    obtain ⟨⟨Y, hY14, eY⟩, hYn, hYo⟩ := hy1 (by decide)
    have iY := ix_of eY (by omega)
    rw [iY] at hYn hYo
    have hw := hw4 rfl
    rw [iX, iY] at hw
    exact c_Mod_node1o4 l dC dI cI cZ a_mod a_mkind a_mwidth a_mreset a_mop a_mka a_mkb a_mkc a_mheld a_msort a_mof a_mfrom a_mbit a_mdone a_mrests a_mxx a_myy a_mdepth a_mone a_mbefore a_mfirst a_mturned tt sz mN mMs mG mCk mFw mRd mWd mOp mAa mAb mAc mBi mX mY mDe gd P Dp Sl T K CB X Y S b_mN b_mMs b_mG b_mRd b_mWd b_mBi b_mX b_mY b_mDe hN hXY hAL hS14 hW1 hop eX ⟨hX14, hXn, hXo⟩ eY ⟨hY14, hYn, hYo⟩ hw hgl
  · obtain ⟨⟨X, hX14, eX⟩, hXn, hXo⟩ := hx1 (by decide)
    have iX := ix_of eX (by omega)
    rw [iX] at hXn hXo
    obtain ⟨⟨Y, hY14, eY⟩, hYn, hYo⟩ := hy1 (by decide)
    have iY := ix_of eY (by omega)
    rw [iY] at hYn hYo
    have hw := hw5 rfl
    rw [iX, iY] at hw
    exact c_Mod_node1o5 l dC dI cI cZ a_mod a_mkind a_mwidth a_mreset a_mop a_mka a_mkb a_mkc a_mheld a_msort a_mof a_mfrom a_mbit a_mdone a_mrests a_mxx a_myy a_mdepth a_mone a_mbefore a_mfirst a_mturned tt sz mN mMs mG mCk mFw mRd mWd mOp mAa mAb mAc mBi mX mY mDe gd P Dp Sl T K CB X Y S b_mN b_mMs b_mG b_mRd b_mWd b_mBi b_mX b_mY b_mDe hN hXY hAL hS14 hW1 hop eX ⟨hX14, hXn, hXo⟩ eY ⟨hY14, hYn, hYo⟩ hw hgl
  · obtain ⟨⟨X, hX14, eX⟩, hXn, hXo⟩ := hx1 (by decide)
    have iX := ix_of eX (by omega)
    rw [iX] at hXn hXo
    obtain ⟨⟨Y, hY14, eY⟩, hYn, hYo⟩ := hy1 (by decide)
    have iY := ix_of eY (by omega)
    rw [iY] at hYn hYo
    have hw := hw67 (Or.inl rfl)
    exact c_Mod_node1o6 l dC dI cI cZ a_mod a_mkind a_mwidth a_mreset a_mop a_mka a_mkb a_mkc a_mheld a_msort a_mof a_mfrom a_mbit a_mdone a_mrests a_mxx a_myy a_mdepth a_mone a_mbefore a_mfirst a_mturned tt sz mN mMs mG mCk mFw mRd mWd mOp mAa mAb mAc mBi mX mY mDe gd P Dp Sl T K CB X Y S b_mN b_mMs b_mG b_mRd b_mWd b_mBi b_mX b_mY b_mDe hN hXY hAL hS14 hW1 hop eX ⟨hX14, hXn, hXo⟩ eY ⟨hY14, hYn, hYo⟩ hw hgl
  · obtain ⟨⟨X, hX14, eX⟩, hXn, hXo⟩ := hx1 (by decide)
    have iX := ix_of eX (by omega)
    rw [iX] at hXn hXo
    obtain ⟨⟨Y, hY14, eY⟩, hYn, hYo⟩ := hy1 (by decide)
    have iY := ix_of eY (by omega)
    rw [iY] at hYn hYo
    have hw := hw67 (Or.inr rfl)
    exact c_Mod_node1o7 l dC dI cI cZ a_mod a_mkind a_mwidth a_mreset a_mop a_mka a_mkb a_mkc a_mheld a_msort a_mof a_mfrom a_mbit a_mdone a_mrests a_mxx a_myy a_mdepth a_mone a_mbefore a_mfirst a_mturned tt sz mN mMs mG mCk mFw mRd mWd mOp mAa mAb mAc mBi mX mY mDe gd P Dp Sl T K CB X Y S b_mN b_mMs b_mG b_mRd b_mWd b_mBi b_mX b_mY b_mDe hN hXY hAL hS14 hW1 hop eX ⟨hX14, hXn, hXo⟩ eY ⟨hY14, hYn, hYo⟩ hw hgl
  · obtain ⟨⟨X, hX14, eX⟩, hXn, hXo⟩ := hx1 (by decide)
    have iX := ix_of eX (by omega)
    rw [iX] at hXn hXo
    obtain ⟨⟨Y, hY14, eY⟩, hYn, hYo⟩ := hy1 (by decide)
    have iY := ix_of eY (by omega)
    rw [iY] at hYn hYo
    have hw := hw8 rfl
    rw [iX, iY] at hw
    exact c_Mod_node1o8 l dC dI cI cZ a_mod a_mkind a_mwidth a_mreset a_mop a_mka a_mkb a_mkc a_mheld a_msort a_mof a_mfrom a_mbit a_mdone a_mrests a_mxx a_myy a_mdepth a_mone a_mbefore a_mfirst a_mturned tt sz mN mMs mG mCk mFw mRd mWd mOp mAa mAb mAc mBi mX mY mDe gd P Dp Sl T K CB X Y S b_mN b_mMs b_mG b_mRd b_mWd b_mBi b_mX b_mY b_mDe hN hXY hAL hS14 hW1 hop eX ⟨hX14, hXn, hXo⟩ eY ⟨hY14, hYn, hYo⟩ hw hgl
  · obtain ⟨⟨X, hX14, eX⟩, hXn, hXo⟩ := hx1 (by decide)
    have iX := ix_of eX (by omega)
    rw [iX] at hXn hXo
    obtain ⟨⟨Y, hY8, eY⟩, hYw⟩ := h9 rfl
    have iY := ix_of eY (by omega)
    rw [iX, iY] at hYw
    exact c_Mod_node1o9 l dC dI cI cZ a_mod a_mkind a_mwidth a_mreset a_mop a_mka a_mkb a_mkc a_mheld a_msort a_mof a_mfrom a_mbit a_mdone a_mrests a_mxx a_myy a_mdepth a_mone a_mbefore a_mfirst a_mturned tt sz mN mMs mG mCk mFw mRd mWd mOp mAa mAb mAc mBi mX mY mDe gd P Dp Sl T K CB X Y S b_mN b_mMs b_mG b_mRd b_mWd b_mBi b_mX b_mY b_mDe hN hXY hAL hS14 hW1 hop eX ⟨hX14, hXn, hXo⟩ eY hYw hgl
  · obtain ⟨⟨X, hX14, eX⟩, hXn, hXo⟩ := hx1 (by decide)
    have iX := ix_of eX (by omega)
    rw [iX] at hXn hXo
    obtain ⟨⟨Y, hY14, eY⟩, hYn, hYo⟩ := hy1 (by decide)
    have iY := ix_of eY (by omega)
    rw [iY] at hYn hYo
    obtain ⟨⟨Z, hZ14, eZ⟩, hZn, hZo⟩ := hz1 (by decide)
    have iZ := ix_of eZ (by omega)
    rw [iZ] at hZn hZo
    have hw := hw10 rfl
    rw [iX] at hw
    exact c_Mod_node1o10 l dC dI cI cZ a_mod a_mkind a_mwidth a_mreset a_mop a_mka a_mkb a_mkc a_mheld a_msort a_mof a_mfrom a_mbit a_mdone a_mrests a_mxx a_myy a_mdepth a_mone a_mbefore a_mfirst a_mturned tt sz mN mMs mG mCk mFw mRd mWd mOp mAa mAb mAc mBi mX mY mDe gd P Dp Sl T K CB X Y Z S b_mN b_mMs b_mG b_mRd b_mWd b_mBi b_mX b_mY b_mDe hN hXY hAL hS14 hW1 hop eX ⟨hX14, hXn, hXo⟩ eY ⟨hY14, hYn, hYo⟩ eZ ⟨hZ14, hZn, hZo⟩ hw hgl
  · obtain ⟨X, hX2, eX⟩ := h11 rfl
    exact c_Mod_node1o11 l dC dI cI cZ a_mod a_mkind a_mwidth a_mreset a_mop a_mka a_mkb a_mkc a_mheld a_msort a_mof a_mfrom a_mbit a_mdone a_mrests a_mxx a_myy a_mdepth a_mone a_mbefore a_mfirst a_mturned tt sz mN mMs mG mCk mFw mRd mWd mOp mAa mAb mAc mBi mX mY mDe gd P Dp Sl T K CB X S b_mN b_mMs b_mG b_mRd b_mWd b_mBi b_mX b_mY b_mDe hN hXY hAL hS14 hW1 hop eX hX2 hgl
