/-! both nets when they are ready -/
def NRD (n : Nat) (Kd Wd : Nat → Nat) (g gd : Nat) (P Dp Sl T Bt NB : Nat → Nat) (CB NX : Nat → Nat → Nat) (st : Nat) (Vv : Nat → Nat) (mG gd' : Nat) (P' Dp' Sl' T' mX mY mDe mBi mHd : Nat → Nat) : Prop :=
  RDY n Kd Wd g gd P Dp Sl T Bt NB CB NX st Vv mHd ∧ MRD n Kd Wd mG gd' P' Dp' Sl' T' mX mY mDe mBi CB NX ∧ (∀ c, GS T g c ↔ GS T' mG c) ∧ ∀ c, GS T g c → GSp (QL n Kd) c
/-- nothing is open, unset or round in itself -/
def CLN (n : Nat) (Kd Op : Nat → Nat) (Aa Ab Ac : Nat → Int32) (So Su Sr : Nat → Nat) (ms : Nat) : Prop :=
  dp So ms = 0 ∧ uLst n Kd So Su ms (-2) ∧ ∀ z, z < n → ¬ Rch (Rl n (RM Kd Op Aa Ab Ac So Su Sr ms)) z z
def NETR (n : Nat) (Kd Wd Op : Nat → Nat) (Aa Ab Ac : Nat → Int32) (So Su Sr : Nat → Nat) (ms rd g gd : Nat) (P Dp Sl Bt NB : Nat → Nat) (st : Nat) (Vv : Nat → Nat) (mG : Nat) (mX mY mDe mBi mHd : Nat → Nat) : Prop :=
  (∀ z, z < 113 → Dp z = 0) ∧ Vv 0 = 0 ∧ ∃ (T : Nat → Nat) (CB NX : Nat → Nat → Nat) (gd' : Nat) (P' Dp' Sl' T' : Nat → Nat), rd = 1 → CLN n Kd Op Aa Ab Ac So Su Sr ms ∧ NRD n Kd Wd g gd P Dp Sl T Bt NB CB NX st Vv mG gd' P' Dp' Sl' T' mX mY mDe mBi mHd
section NE
variable {n : Nat} {Kd Wd Op : Nat → Nat} {Aa Ab Ac : Nat → Int32} {So Su Sr : Nat → Nat} {ms rd g gd : Nat} {P Dp Sl Bt NB : Nat → Nat} {st : Nat} {Vv : Nat → Nat} {mG : Nat} {mX mY mDe mBi mHd : Nat → Nat}
theorem NETR_n (h1 : ∀ z, z < 113 → Dp z = 0) (h2 : Vv 0 = 0) (h : ¬ rd = 1) : NETR n Kd Wd Op Aa Ab Ac So Su Sr ms rd g gd P Dp Sl Bt NB st Vv mG mX mY mDe mBi mHd :=
  ⟨h1, h2, fun _ => 0, fun _ _ => 0, fun _ _ => 0, 0, fun _ => 0, fun _ => 0, fun _ => 0, fun _ => 0, fun e => absurd e h⟩
theorem VOK_cg {V HW HW2 : Nat → Nat} (h : VOK n Kd V HW) (e : ∀ z, z < n → (Kd z = 0 ∨ Kd z = 2) → HW2 z = HW z) : VOK n Kd V HW2 := ⟨h.1, fun z hz k j hj => by rw [e z hz k]; exact h.2 z hz k j hj⟩
theorem RDY_hw {T : Nat → Nat} {CB NX : Nat → Nat → Nat} {HW HW2 : Nat → Nat} (h : RDY n Kd Wd g gd P Dp Sl T Bt NB CB NX st Vv HW) (e : ∀ z, z < n → (Kd z = 0 ∨ Kd z = 2) → HW2 z = HW z) : RDY n Kd Wd g gd P Dp Sl T Bt NB CB NX st Vv HW2 :=
  ⟨h.1, h.2.1, h.2.2.1, h.2.2.2.1, h.2.2.2.2.1, VOK_cg h.2.2.2.2.2.1 e, h.2.2.2.2.2.2⟩
theorem NRD_m {T P' Dp' Sl' T' : Nat → Nat} {gd' st2 : Nat} {CB NX : Nat → Nat → Nat} {Vv2 mHd2 : Nat → Nat} (h : NRD n Kd Wd g gd P Dp Sl T Bt NB CB NX st Vv mG gd' P' Dp' Sl' T' mX mY mDe mBi mHd) (hR : RDY n Kd Wd g gd P Dp Sl T Bt NB CB NX st2 Vv2 mHd2) : NRD n Kd Wd g gd P Dp Sl T Bt NB CB NX st2 Vv2 mG gd' P' Dp' Sl' T' mX mY mDe mBi mHd2 := ⟨hR, h.2⟩
theorem h0W_cg {Rw mRs : Nat → Nat} (e : ∀ z, z < n → Kd z = 2 → mRs z = Rw z) : ∀ z, z < n → h0W Kd mRs z = h0W Kd Rw z := fun z hz => by
  unfold h0W
  by_cases c : Kd z = 2
  · rw [if_pos c, if_pos c]; exact e z hz c
  · rw [if_neg c, if_neg c]
theorem cnA_eq {x : Int32} {g2 gd2 c5 c52 ck ow : Nat} (h : rd = 1 → g = g2 ∧ gd = gd2 ∧ c5 = c52) (hr : rd ≤ 1) : cnA x n ms rd g gd c5 ck ow = cnA x n ms rd g2 gd2 c52 ck ow := by
  rcases (show rd = 0 ∨ rd = 1 by omega) with e | e
  · unfold cnA
    rw [e]
    repeat' split
    all_goals first | rfl | (exfalso; omega)
  · obtain ⟨a, b, c⟩ := h e
    rw [a, b, c]
theorem NRD_c {T P' Dp' Sl' T' : Nat → Nat} {gd' : Nat} {CB NX : Nat → Nat → Nat} (h : NRD n Kd Wd g gd P Dp Sl T Bt NB CB NX st Vv mG gd' P' Dp' Sl' T' mX mY mDe mBi mHd) : g = mG ∧ gd = gd' ∧ cnt (fun z => evn (fun k => Vv (k + 1)) (T (113 + z))) g = cnt (fun z => evn (eH mHd) (T' (113 + z))) mG := by
  obtain ⟨h1, h2, h3, h4⟩ := h
  obtain ⟨q1, q2, q3⟩ := net_eq h1.1 h2.1 h3
  refine ⟨q1, q2, ?_⟩
  rw [← q3 (fun c => evn (eH mHd) c)]
  refine cnt_congr g (fun j hj => ?_)
  refine h4 _ ⟨113 + j, by omega, by omega, rfl⟩ _ _ (fun k hk => ?_)
  have := h1.2.2.2.2.2.1.2 (k / 8) hk.1 hk.2 (k % 8) (Nat.mod_lt _ (by decide))
  rw [show 1 + k / 8 * 8 + k % 8 = k + 1 by omega] at this
  exact this
theorem Lst_u {Q : Nat → Prop} {n : Nat} {r r2 : Int32} (hn : n ≤ 14) (h : Lst Q n r) (h2 : Lst Q n r2) : r = r2 := by
  rcases h with ⟨e, a⟩ | ⟨z, z1, e, z2, z3⟩
  · rcases h2 with ⟨e2, b⟩ | ⟨y, y1, e2, y2, y3⟩
    · rw [e, e2]
    · exact absurd y2 (a y y1)
  · rcases h2 with ⟨e2, b⟩ | ⟨y, y1, e2, y2, y3⟩
    · exact absurd z2 (b z z1)
    · have : z = y := by
        rcases Nat.lt_trichotomy z y with q | q | q
        · exact absurd z2 (y3 z q)
        · exact q
        · exact absurd y2 (z3 y q)
      rw [e, e2, this]
theorem Lst_cg {Q Q2 : Nat → Prop} {n : Nat} {r : Int32} (e : ∀ z, z < n → (Q z ↔ Q2 z)) (h : Lst Q n r) : Lst Q2 n r := by
  rcases h with ⟨e1, a⟩ | ⟨z, z1, e1, z2, z3⟩
  · exact Or.inl ⟨e1, fun z hz q => a z hz ((e z hz).mpr q)⟩
  · exact Or.inr ⟨z, z1, e1, (e z z1).mp z2, fun y hy q => z3 y hy ((e y (by omega)).mpr q)⟩
theorem lLst_R (h : WFC n Kd Wd Op Aa Ab Ac So Su Sr ms) {r : Int32} (hl : lLst n (RM Kd Op Aa Ab Ac So Su Sr ms) r) : Lst (fun z => Rch (Rl n (RM Kd Op Aa Ab Ac So Su Sr ms)) z z) n r := by
  obtain ⟨B, b1, b2⟩ := hl
  exact Lst_cg (fun z hz => wO_loop h.1 b1 (RM_lt h) hz) b2
/-- compile: both sides answer alike -/
theorem CMP {Rw mRs Es : Nat → Nat} {mOp mAa mAb mAc mOf mFr : Nat → Int32} {ow ck : Nat} {CB : Nat → Nat → Nat} {AG : Nat → List Nat} {K : List Nat} {rk RA2 RA3 : Nat → Nat} {r r' fw2 mFw2 : Int32} {rd2 ck2 mRd2 mCk2 g2 gd2 st2 mG2 mgd2 : Nat} {P2 Dp2 Sl2 T2 Bt2 NB2 Vv2 mP2 mDp2 mSl2 mT2 mX2 mY2 mDe2 mBi2 mHd2 : Nat → Nat}
    (hR : REL n Kd Wd So ms Rw Op Aa Ab Ac Su Sr ow Es mRs mOp mAa mAb mAc mOf mFr) (hN : NETR n Kd Wd Op Aa Ab Ac So Su Sr ms rd g gd P Dp Sl Bt NB st Vv mG mX mY mDe mBi mHd) (hrd : rd ≤ 1)
    (hGs : (∀ z, z < n → ¬ Rch (Rl n (RM Kd Op Aa Ab Ac So Su Sr ms)) z z) → ∀ z, z < n → ∀ c, c ∈ AG z → GSp (QL n Kd) c)
    (hc : (0 < ow ∧ (-4) = r ∧ (-2) = fw2 ∧ rd = rd2 ∧ ck = ck2 ∧ Dp = Dp2 ∧ Vv = Vv2) ∨ (ow = 0 ∧ uLst n Kd So Su ms fw2 ∧ ¬ fw2 = -2 ∧ (-5) = r ∧ rd = rd2 ∧ ck = ck2 ∧ Dp = Dp2 ∧ Vv = Vv2) ∨ (ow = 0 ∧ uLst n Kd So Su ms (-2) ∧ lLst n (RM Kd Op Aa Ab Ac So Su Sr ms) fw2 ∧ ¬ fw2 = -2 ∧ (-6) = r ∧ rd = rd2 ∧ ck = ck2 ∧ Dp = Dp2 ∧ Vv = Vv2) ∨ (ow = 0 ∧ uLst n Kd So Su ms (-2) ∧ lLst n (RM Kd Op Aa Ab Ac So Su Sr ms) (-2) ∧ nI g2 = r ∧ (-2) = fw2 ∧ 1 = rd2 ∧ 0 = ck2 ∧ CIR n Kd Wd Op Aa Ab Ac So Su Sr ms CB AG K rk RA2 ∧ RDY n Kd Wd g2 gd2 P2 Dp2 Sl2 T2 Bt2 NB2 CB (skC So Su Sr Kd CB ms) st2 Vv2 (h0W Kd Rw) ∧ ∀ c, GS T2 g2 c ↔ ∃ z, z < n ∧ c ∈ AG z))
    (hm : (0 < dp So ms ∧ (-4) = r' ∧ (-2) = mFw2 ∧ rd = mRd2 ∧ ck = mCk2 ∧ mHd = mHd2) ∨ (dp So ms = 0 ∧ uLst n Kd So Su ms mFw2 ∧ ¬ mFw2 = -2 ∧ (-5) = r' ∧ 0 = mRd2 ∧ ck = mCk2 ∧ mHd = mHd2) ∨ (dp So ms = 0 ∧ uLst n Kd So Su ms (-2) ∧ Lst (fun z => Rch (Rl n (RM Kd Op Aa Ab Ac So Su Sr ms)) z z) n mFw2 ∧ ¬ mFw2 = -2 ∧ (-6) = r' ∧ 0 = mRd2 ∧ ck = mCk2 ∧ mHd = mHd2) ∨ (dp So ms = 0 ∧ uLst n Kd So Su ms (-2) ∧ Lst (fun z => Rch (Rl n (RM Kd Op Aa Ab Ac So Su Sr ms)) z z) n (-2) ∧ nI mG2 = r' ∧ (-2) = mFw2 ∧ 1 = mRd2 ∧ 0 = mCk2 ∧ CIR n Kd Wd Op Aa Ab Ac So Su Sr ms CB AG K rk RA3 ∧ MRD n Kd Wd mG2 mgd2 mP2 mDp2 mSl2 mT2 mX2 mY2 mDe2 mBi2 CB (skC So Su Sr Kd CB ms) ∧ (∀ z, z < n → mHd2 z = h0W Kd mRs z) ∧ ∀ c, GS mT2 mG2 c ↔ ∃ z, z < n ∧ c ∈ AG z)) :
    r = r' ∧ fw2 = mFw2 ∧ rd2 = mRd2 ∧ ck2 = mCk2 ∧ NETR n Kd Wd Op Aa Ab Ac So Su Sr ms rd2 g2 gd2 P2 Dp2 Sl2 Bt2 NB2 st2 Vv2 mG2 mX2 mY2 mDe2 mBi2 mHd2 := by
  have hw := hR.1
  have how := hR.2.1
  have hn := hw.1
  obtain ⟨hD, hV, T, CB0, NX0, gd0, P0, Dp0, Sl0, T0', hrdy⟩ := hN
  have bad : ∀ {Q : Prop}, (rd = 1 → Q) → (Q → False) → rd = 0 := fun a b => by
    rcases (show rd = 0 ∨ rd = 1 by omega) with e | e
    · exact e
    · exact absurd (a e) b
  rcases hc with ⟨a0, a1, a2, a3, a4, a5, a6⟩ | ⟨a0, u, a1, a2, a3, a4, a5, a6⟩ | ⟨a0, u, lo, a1, a2, a3, a4, a5, a6⟩ | ⟨a0, u, lo, a1, a2, a3, a4, a5, a6, a7⟩
  · rcases hm with ⟨b0, b1, b2, b3, b4, b5⟩ | ⟨b0, _⟩ | ⟨b0, _⟩ | ⟨b0, _⟩
    · have r0 : rd = 0 := bad (fun e => (hrdy e).1.1) (fun e => by omega)
      exact ⟨a1.symm.trans b1, a2.symm.trans b2, a3.symm.trans b3, a4.symm.trans b4, NETR_n (by rw [← a5]; exact hD) (by rw [← a6]; exact hV) (by omega)⟩
    · omega
    · omega
    · omega
  · have r0 : rd = 0 := bad (fun e => (hrdy e).1.2.1) (fun e => a1 (Lst_u hn u e))
    rcases hm with ⟨b0, _⟩ | ⟨b0, v, b1, b2, b3, b4, b5⟩ | ⟨b0, v, _⟩ | ⟨b0, v, _⟩
    · omega
    · exact ⟨a2.symm.trans b2, Lst_u hn u v, by omega, a4.symm.trans b4, NETR_n (by rw [← a5]; exact hD) (by rw [← a6]; exact hV) (by omega)⟩
    · exact absurd (Lst_u hn u v) a1
    · exact absurd (Lst_u hn u v) a1
  · have lr := lLst_R hw lo
    have r0 : rd = 0 := bad (fun e => (hrdy e).1.2.2) (fun e => a1 (Lst_u hn lr (Or.inl ⟨rfl, e⟩)))
    rcases hm with ⟨b0, _⟩ | ⟨b0, v, b1, _⟩ | ⟨b0, v, lm, b1, b2, b3, b4, b5⟩ | ⟨b0, v, lm, _⟩
    · omega
    · exact absurd (Lst_u hn v u) b1
    · exact ⟨a2.symm.trans b2, Lst_u hn lr lm, by omega, a4.symm.trans b4, NETR_n (by rw [← a5]; exact hD) (by rw [← a6]; exact hV) (by omega)⟩
    · exact absurd (Lst_u hn lr lm) a1
  · have lr := lLst_R hw lo
    rcases hm with ⟨b0, _⟩ | ⟨b0, v, b1, _⟩ | ⟨b0, v, lm, b1, _⟩ | ⟨b0, v, lm, b1, b2, b3, b4, b5, b6, b7, b8⟩
    · omega
    · exact absurd (Lst_u hn v u) b1
    · exact absurd (Lst_u hn lm lr) b1
    · have nl : ∀ z, z < n → ¬ Rch (Rl n (RM Kd Op Aa Ab Ac So Su Sr ms)) z z := Lst_no lr hn rfl
      have hs : ∀ c, GS T2 g2 c ↔ GS mT2 mG2 c := fun c => (a7 c).trans (b8 c).symm
      have eg := (net_eq a6.1 b6.1 hs).1
      refine ⟨by rw [← a1, ← b1, eg], a2.symm.trans b2, a3.symm.trans b3, a4.symm.trans b4, fun z hz => NI_d0 a6.1.1 hz, a6.2.2.2.2.2.1.1, T2, CB, skC So Su Sr Kd CB ms, mgd2, mP2, mDp2, mSl2, mT2, fun _ => ⟨⟨b0, u, nl⟩, RDY_hw a6 (fun z hz _ => ?_), b6, hs, fun c hc => ?_⟩⟩
      · rw [b7 z hz]
        exact h0W_cg hR.2.2.2.1 z hz
      · obtain ⟨z, z1, z2⟩ := (a7 c).mp hc
        exact hGs nl z z1 c z2
end NE
