/-! one call on both sides -/
section SX
variable {n : Nat} {Kd Wd So : Nat → Nat} {ms : Nat} {Rw Op : Nat → Nat} {Aa Ab Ac : Nat → Int32} {Su Sr : Nat → Nat} {ow : Nat} {Es mRs : Nat → Nat} {mOp mAa mAb mAc mOf mFr : Nat → Int32}
variable {rd g gd : Nat} {P Dp Sl Bt NB : Nat → Nat} {st : Nat} {Vv : Nat → Nat} {mG : Nat} {mX mY mDe mBi mHd : Nat → Nat} {ck : Nat} {r r' : Int32}
theorem SIGNAL {x w y : Int32} {n2 rd2 mN2 mRd2 : Nat} {Kd2 Wd2 Rw2 mKd2 mWd2 mRs2 mHd2 : Nat → Nat} {mOp2 : Nat → Int32} (hR : REL n Kd Wd So ms Rw Op Aa Ab Ac Su Sr ow Es mRs mOp mAa mAb mAc mOf mFr) (hN : NETR n Kd Wd Op Aa Ab Ac So Su Sr ms rd g gd P Dp Sl Bt NB st Vv mG mX mY mDe mBi mHd)
    (hc : (¬ sgOK x w y ∧ (-1) = r ∧ n = n2 ∧ Kd = Kd2 ∧ Wd = Wd2 ∧ Rw = Rw2 ∧ rd = rd2) ∨ (sgOK x w y ∧ n = 14 ∧ (-3) = r ∧ n = n2 ∧ Kd = Kd2 ∧ Wd = Wd2 ∧ Rw = Rw2 ∧ rd = rd2) ∨ (sgOK x w y ∧ n < 14 ∧ nI n = r ∧ n + 1 = n2 ∧ upN Kd n (ix x) = Kd2 ∧ upN Wd n (ix w) = Wd2 ∧ upN Rw n (lowb y (ix w)) = Rw2 ∧ 0 = rd2))
    (hm : (¬ sgOK x w y ∧ (-1) = r' ∧ n = mN2 ∧ Kd = mKd2 ∧ Wd = mWd2 ∧ mRs = mRs2 ∧ mHd = mHd2 ∧ mOp = mOp2 ∧ rd = mRd2) ∨ (sgOK x w y ∧ n = 14 ∧ (-3) = r' ∧ n = mN2 ∧ Kd = mKd2 ∧ Wd = mWd2 ∧ mRs = mRs2 ∧ mHd = mHd2 ∧ mOp = mOp2 ∧ rd = mRd2) ∨ (sgOK x w y ∧ n < 14 ∧ nI n = r' ∧ n + 1 = mN2 ∧ upN Kd n (ix x) = mKd2 ∧ upN Wd n (ix w) = mWd2 ∧ upN mRs n (if x.toInt = 2 then lowb y (ix w) else 0) = mRs2 ∧ upN mHd n 0 = mHd2 ∧ upd mOp n (-2) = mOp2 ∧ 0 = mRd2)) :
    r = r' ∧ n2 = mN2 ∧ Kd2 = mKd2 ∧ Wd2 = mWd2 ∧ rd2 = mRd2 ∧ REL n2 Kd2 Wd2 So ms Rw2 Op Aa Ab Ac Su Sr ow Es mRs2 mOp2 mAa mAb mAc mOf mFr ∧ NETR n2 Kd2 Wd2 Op Aa Ab Ac So Su Sr ms rd2 g gd P Dp Sl Bt NB st Vv mG mX mY mDe mBi mHd2 := by
  rcases hc with ⟨a, rfl, rfl, rfl, rfl, rfl, rfl⟩ | ⟨a, a2, rfl, rfl, rfl, rfl, rfl, rfl⟩ | ⟨a, a2, rfl, rfl, rfl, rfl, rfl, rfl⟩
  · rcases hm with ⟨b, rfl, rfl, rfl, rfl, rfl, rfl, rfl, rfl⟩ | ⟨b, _⟩ | ⟨b, _⟩
    · exact ⟨rfl, rfl, rfl, rfl, rfl, hR, hN⟩
    · exact absurd b a
    · exact absurd b a
  · rcases hm with ⟨b, _⟩ | ⟨b, b2, rfl, rfl, rfl, rfl, rfl, rfl, rfl, rfl⟩ | ⟨b, b2, _⟩
    · exact absurd a b
    · exact ⟨rfl, rfl, rfl, rfl, rfl, hR, hN⟩
    · omega
  · rcases hm with ⟨b, _⟩ | ⟨b, b2, _⟩ | ⟨b, b2, rfl, rfl, rfl, rfl, rfl, rfl, rfl, rfl⟩
    · exact absurd a b
    · omega
    · obtain ⟨q1, q2, q3, q4, q5⟩ := a
      obtain ⟨X, eX, hX, hXb⟩ := raw_nat (x := x) q1
      obtain ⟨W, eW, hW, hWb⟩ := raw_nat (x := w) (Int.le_trans (by decide) q3)
      have e1 := ix_of eX hXb
      have e2 := ix_of eW hWb
      refine ⟨rfl, rfl, rfl, rfl, rfl, REL_signal hR a2 (by omega) (by omega) (by omega) (fun e => ?_), NETR_n hN.1 hN.2.1 (by decide)⟩
      rw [if_pos (by omega)]
theorem NODE {o x y z : Int32} {n2 rd2 mN2 mRd2 : Nat} {Kd2 Wd2 Rw2 Op2 mKd2 mWd2 mRs2 mHd2 : Nat → Nat} {Aa2 Ab2 Ac2 mOp2 mAa2 mAb2 mAc2 : Nat → Int32} (hR : REL n Kd Wd So ms Rw Op Aa Ab Ac Su Sr ow Es mRs mOp mAa mAb mAc mOf mFr) (hN : NETR n Kd Wd Op Aa Ab Ac So Su Sr ms rd g gd P Dp Sl Bt NB st Vv mG mX mY mDe mBi mHd)
    (hc : ((nwd n Wd o x y z < 1 ∨ 8 < nwd n Wd o x y z) ∧ (-1) = r ∧ n = n2 ∧ Kd = Kd2 ∧ Wd = Wd2 ∧ Rw = Rw2 ∧ Op = Op2 ∧ Aa = Aa2 ∧ Ab = Ab2 ∧ Ac = Ac2 ∧ rd = rd2) ∨ (1 ≤ nwd n Wd o x y z ∧ nwd n Wd o x y z ≤ 8 ∧ n = 14 ∧ (-3) = r ∧ n = n2 ∧ Kd = Kd2 ∧ Wd = Wd2 ∧ Rw = Rw2 ∧ Op = Op2 ∧ Aa = Aa2 ∧ Ab = Ab2 ∧ Ac = Ac2 ∧ rd = rd2) ∨ (1 ≤ nwd n Wd o x y z ∧ nwd n Wd o x y z ≤ 8 ∧ n < 14 ∧ nI n = r ∧ n + 1 = n2 ∧ upN Kd n 3 = Kd2 ∧ upN Wd n (nwd n Wd o x y z) = Wd2 ∧ upN Rw n 0 = Rw2 ∧ upN Op n (ix o) = Op2 ∧ upd Aa n x = Aa2 ∧ upd Ab n y = Ab2 ∧ upd Ac n z = Ac2 ∧ 0 = rd2))
    (hm : ((nwd n Wd o x y z < 1 ∨ 8 < nwd n Wd o x y z) ∧ (-1) = r' ∧ n = mN2 ∧ Kd = mKd2 ∧ Wd = mWd2 ∧ mRs = mRs2 ∧ mHd = mHd2 ∧ mOp = mOp2 ∧ mAa = mAa2 ∧ mAb = mAb2 ∧ mAc = mAc2 ∧ rd = mRd2) ∨ (1 ≤ nwd n Wd o x y z ∧ nwd n Wd o x y z ≤ 8 ∧ n = 14 ∧ (-3) = r' ∧ n = mN2 ∧ Kd = mKd2 ∧ Wd = mWd2 ∧ mRs = mRs2 ∧ mHd = mHd2 ∧ mOp = mOp2 ∧ mAa = mAa2 ∧ mAb = mAb2 ∧ mAc = mAc2 ∧ rd = mRd2) ∨ (1 ≤ nwd n Wd o x y z ∧ nwd n Wd o x y z ≤ 8 ∧ n < 14 ∧ nI n = r' ∧ n + 1 = mN2 ∧ upN Kd n 3 = mKd2 ∧ upN Wd n (nwd n Wd o x y z) = mWd2 ∧ upN mRs n 0 = mRs2 ∧ upN mHd n 0 = mHd2 ∧ upd mOp n o = mOp2 ∧ upd mAa n x = mAa2 ∧ upd mAb n y = mAb2 ∧ upd mAc n z = mAc2 ∧ 0 = mRd2)) :
    r = r' ∧ n2 = mN2 ∧ Kd2 = mKd2 ∧ Wd2 = mWd2 ∧ rd2 = mRd2 ∧ REL n2 Kd2 Wd2 So ms Rw2 Op2 Aa2 Ab2 Ac2 Su Sr ow Es mRs2 mOp2 mAa2 mAb2 mAc2 mOf mFr ∧ NETR n2 Kd2 Wd2 Op2 Aa2 Ab2 Ac2 So Su Sr ms rd2 g gd P Dp Sl Bt NB st Vv mG mX mY mDe mBi mHd2 := by
  rcases hc with ⟨a, rfl, rfl, rfl, rfl, rfl, rfl, rfl, rfl, rfl, rfl⟩ | ⟨a, a1, a2, rfl, rfl, rfl, rfl, rfl, rfl, rfl, rfl, rfl, rfl⟩ | ⟨a, a1, a2, rfl, rfl, rfl, rfl, rfl, rfl, rfl, rfl, rfl, rfl⟩
  · rcases hm with ⟨b, rfl, rfl, rfl, rfl, rfl, rfl, rfl, rfl, rfl, rfl, rfl⟩ | ⟨b, b1, _⟩ | ⟨b, b1, _⟩
    · exact ⟨rfl, rfl, rfl, rfl, rfl, hR, hN⟩
    · omega
    · omega
  · rcases hm with ⟨b, _⟩ | ⟨b, b1, b2, rfl, rfl, rfl, rfl, rfl, rfl, rfl, rfl, rfl, rfl, rfl⟩ | ⟨b, b1, b2, _⟩
    · omega
    · exact ⟨rfl, rfl, rfl, rfl, rfl, hR, hN⟩
    · omega
  · rcases hm with ⟨b, _⟩ | ⟨b, b1, b2, _⟩ | ⟨b, b1, b2, rfl, rfl, rfl, rfl, rfl, rfl, rfl, rfl, rfl, rfl, rfl⟩
    · omega
    · omega
    · exact ⟨rfl, rfl, rfl, rfl, rfl, REL_node hR a2 a a1, NETR_n hN.1 hN.2.1 (by decide)⟩
theorem stN_iff (hR : REL n Kd Wd So ms Rw Op Aa Ab Ac Su Sr ow Es mRs mOp mAa mAb mAc mOf mFr) (q : Int32) : stN q (dp So ms) (fun v => es So ms (v + 1)) ↔ stN q ow Es := by
  have e := hR.2.1
  have h := hR.2.2.1
  unfold stN
  rw [e]
  rcases Nat.eq_zero_or_pos (dp So ms) with z | z
  · rw [z]
    constructor
    · rintro (⟨a, _⟩ | ⟨a, _⟩)
      · exact Or.inl ⟨a, Or.inl rfl⟩
      · exact Or.inr ⟨a, rfl⟩
    · rintro (⟨a, _⟩ | ⟨a, _⟩)
      · exact Or.inl ⟨a, Or.inl rfl⟩
      · exact Or.inr ⟨a, rfl⟩
  · rw [h (dp So ms - 1) (by omega)]
theorem STATE {q x y : Int32} {ms2 ow2 rd2 mMs2 mRd2 : Nat} {So2 Su2 Sr2 Es2 mSo2 : Nat → Nat} {mOf2 mFr2 : Nat → Int32} (hR : REL n Kd Wd So ms Rw Op Aa Ab Ac Su Sr ow Es mRs mOp mAa mAb mAc mOf mFr) (hN : NETR n Kd Wd Op Aa Ab Ac So Su Sr ms rd g gd P Dp Sl Bt NB st Vv mG mX mY mDe mBi mHd)
    (hc : (¬ stOK q x y n Kd Wd ∧ (-1) = r ∧ ms = ms2 ∧ So = So2 ∧ Su = Su2 ∧ Sr = Sr2 ∧ ow = ow2 ∧ Es = Es2 ∧ rd = rd2) ∨ (stOK q x y n Kd Wd ∧ stN q ow Es ∧ (-2) = r ∧ ms = ms2 ∧ So = So2 ∧ Su = Su2 ∧ Sr = Sr2 ∧ ow = ow2 ∧ Es = Es2 ∧ rd = rd2) ∨ (stOK q x y n Kd Wd ∧ ¬ stN q ow Es ∧ stF q ms ow ∧ (-3) = r ∧ ms = ms2 ∧ So = So2 ∧ Su = Su2 ∧ Sr = Sr2 ∧ ow = ow2 ∧ Es = Es2 ∧ rd = rd2) ∨ (stOK q x y n Kd Wd ∧ ¬ stN q ow Es ∧ ¬ stF q ms ow ∧ nI (ms + 1) = r ∧ ms + 1 = ms2 ∧ upN So ms (ix q) = So2 ∧ upN Su ms (if q.toInt ≤ 1 then ix x else 0) = Su2 ∧ upN Sr ms (if q.toInt = 0 then ix y else 0) = Sr2 ∧ (if q.toInt = 1 then ow + 1 else if q.toInt = 3 then ow - 1 else ow) = ow2 ∧ (if q.toInt = 1 then upN Es ow 0 else if q.toInt = 2 then upN Es (ow - 1) 1 else Es) = Es2 ∧ 0 = rd2))
    (hm : (¬ stOK q x y n Kd Wd ∧ (-1) = r' ∧ ms = mMs2 ∧ So = mSo2 ∧ mOf = mOf2 ∧ mFr = mFr2 ∧ rd = mRd2) ∨ (stOK q x y n Kd Wd ∧ stN q (dp So ms) (fun v => es So ms (v + 1)) ∧ (-2) = r' ∧ ms = mMs2 ∧ So = mSo2 ∧ mOf = mOf2 ∧ mFr = mFr2 ∧ rd = mRd2) ∨ (stOK q x y n Kd Wd ∧ ¬ stN q (dp So ms) (fun v => es So ms (v + 1)) ∧ stF q ms (dp So ms) ∧ (-3) = r' ∧ ms = mMs2 ∧ So = mSo2 ∧ mOf = mOf2 ∧ mFr = mFr2 ∧ rd = mRd2) ∨ (stOK q x y n Kd Wd ∧ ¬ stN q (dp So ms) (fun v => es So ms (v + 1)) ∧ ¬ stF q ms (dp So ms) ∧ nI (ms + 1) = r' ∧ ms + 1 = mMs2 ∧ upN So ms (ix q) = mSo2 ∧ upd mOf ms x = mOf2 ∧ upd mFr ms y = mFr2 ∧ 0 = mRd2)) :
    r = r' ∧ ms2 = mMs2 ∧ So2 = mSo2 ∧ rd2 = mRd2 ∧ REL n Kd Wd So2 ms2 Rw Op Aa Ab Ac Su2 Sr2 ow2 Es2 mRs mOp mAa mAb mAc mOf2 mFr2 ∧ NETR n Kd Wd Op Aa Ab Ac So2 Su2 Sr2 ms2 rd2 g gd P Dp Sl Bt NB st Vv mG mX mY mDe mBi mHd := by
  rw [stN_iff hR, ← hR.2.1] at hm
  rcases hc with ⟨a, rfl, rfl, rfl, rfl, rfl, rfl, rfl, rfl⟩ | ⟨a, a1, rfl, rfl, rfl, rfl, rfl, rfl, rfl, rfl⟩ | ⟨a, a1, a2, rfl, rfl, rfl, rfl, rfl, rfl, rfl, rfl⟩ | ⟨a, a1, a2, rfl, rfl, rfl, rfl, rfl, rfl, rfl, rfl⟩
  · rcases hm with ⟨b, rfl, rfl, rfl, rfl, rfl, rfl⟩ | ⟨b, _⟩ | ⟨b, _⟩ | ⟨b, _⟩
    · exact ⟨rfl, rfl, rfl, rfl, hR, hN⟩
    · exact absurd b a
    · exact absurd b a
    · exact absurd b a
  · rcases hm with ⟨b, _⟩ | ⟨b, b1, rfl, rfl, rfl, rfl, rfl, rfl⟩ | ⟨b, b1, _⟩ | ⟨b, b1, _⟩
    · exact absurd a b
    · exact ⟨rfl, rfl, rfl, rfl, hR, hN⟩
    · exact absurd a1 b1
    · exact absurd a1 b1
  · rcases hm with ⟨b, _⟩ | ⟨b, b1, _⟩ | ⟨b, b1, b2, rfl, rfl, rfl, rfl, rfl, rfl⟩ | ⟨b, b1, b2, _⟩
    · exact absurd a b
    · exact absurd b1 a1
    · exact ⟨rfl, rfl, rfl, rfl, hR, hN⟩
    · exact absurd a2 b2
  · rcases hm with ⟨b, _⟩ | ⟨b, b1, _⟩ | ⟨b, b1, b2, _⟩ | ⟨b, b1, b2, rfl, rfl, rfl, rfl, rfl, rfl⟩
    · exact absurd a b
    · exact absurd b1 a1
    · exact absurd b2 a2
    · exact ⟨rfl, rfl, rfl, rfl, REL_state hR a a1 a2, NETR_n hN.1 hN.2.1 (by decide)⟩
theorem CLEAR {x : Int32} {n2 ms2 ow2 rd2 mN2 mMs2 mRd2 : Nat} (hR : REL n Kd Wd So ms Rw Op Aa Ab Ac Su Sr ow Es mRs mOp mAa mAb mAc mOf mFr) (hN : NETR n Kd Wd Op Aa Ab Ac So Su Sr ms rd g gd P Dp Sl Bt NB st Vv mG mX mY mDe mBi mHd)
    (hc : ((¬ x.toInt = 0 ∧ ¬ x.toInt = 1) ∧ (-1) = r ∧ n = n2 ∧ ms = ms2 ∧ ow = ow2 ∧ rd = rd2) ∨ (x.toInt = 0 ∧ nI ms = r ∧ n = n2 ∧ 0 = ms2 ∧ 0 = ow2 ∧ 0 = rd2) ∨ (x.toInt = 1 ∧ nI ms = r ∧ 0 = n2 ∧ 0 = ms2 ∧ 0 = ow2 ∧ 0 = rd2))
    (hm : ((¬ x.toInt = 0 ∧ ¬ x.toInt = 1) ∧ (-1) = r' ∧ n = mN2 ∧ ms = mMs2 ∧ rd = mRd2) ∨ (x.toInt = 0 ∧ nI ms = r' ∧ n = mN2 ∧ 0 = mMs2 ∧ 0 = mRd2) ∨ (x.toInt = 1 ∧ nI ms = r' ∧ 0 = mN2 ∧ 0 = mMs2 ∧ 0 = mRd2)) :
    r = r' ∧ n2 = mN2 ∧ ms2 = mMs2 ∧ rd2 = mRd2 ∧ REL n2 Kd Wd So ms2 Rw Op Aa Ab Ac Su Sr ow2 Es mRs mOp mAa mAb mAc mOf mFr ∧ NETR n2 Kd Wd Op Aa Ab Ac So Su Sr ms2 rd2 g gd P Dp Sl Bt NB st Vv mG mX mY mDe mBi mHd := by
  rcases hc with ⟨a, rfl, rfl, rfl, rfl, rfl⟩ | ⟨a, rfl, rfl, rfl, rfl, rfl⟩ | ⟨a, rfl, rfl, rfl, rfl, rfl⟩
  · rcases hm with ⟨b, rfl, rfl, rfl, rfl⟩ | ⟨b, _⟩ | ⟨b, _⟩
    · exact ⟨rfl, rfl, rfl, rfl, hR, hN⟩
    · omega
    · omega
  · rcases hm with ⟨b, _⟩ | ⟨b, rfl, rfl, rfl, rfl⟩ | ⟨b, _⟩
    · omega
    · exact ⟨rfl, rfl, rfl, rfl, REL_clear0 hR, NETR_n hN.1 hN.2.1 (by decide)⟩
    · omega
  · rcases hm with ⟨b, _⟩ | ⟨b, _⟩ | ⟨b, rfl, rfl, rfl, rfl⟩
    · omega
    · omega
    · exact ⟨rfl, rfl, rfl, rfl, REL_clear1 hR, NETR_n hN.1 hN.2.1 (by decide)⟩
theorem INPUT {x y : Int32} {st2 : Nat} {Vv2 mHd2 : Nat → Nat} (hN : NETR n Kd Wd Op Aa Ab Ac So Su Sr ms rd g gd P Dp Sl Bt NB st Vv mG mX mY mDe mBi mHd)
    (hc : (¬ (rd = 1 ∧ hs n x = 1 ∧ Kd (ix x) = 0) ∧ (-2) = r ∧ st = st2 ∧ Vv = Vv2) ∨ ((rd = 1 ∧ hs n x = 1 ∧ Kd (ix x) = 0) ∧ nI (lowb y (Wd (ix x))) = r ∧ 0 = st2 ∧ putW Vv (ix x) (lowb y (Wd (ix x))) 8 = Vv2))
    (hm : (¬ (rd = 1 ∧ hs n x = 1 ∧ Kd (ix x) = 0) ∧ (-2) = r' ∧ mHd = mHd2) ∨ ((rd = 1 ∧ hs n x = 1 ∧ Kd (ix x) = 0) ∧ nI (lowb y (Wd (ix x))) = r' ∧ upN mHd (ix x) (lowb y (Wd (ix x))) = mHd2)) :
    r = r' ∧ NETR n Kd Wd Op Aa Ab Ac So Su Sr ms rd g gd P Dp Sl Bt NB st2 Vv2 mG mX mY mDe mBi mHd2 := by
  rcases hc with ⟨a, rfl, rfl, rfl⟩ | ⟨a, rfl, rfl, rfl⟩
  · rcases hm with ⟨b, rfl, rfl⟩ | ⟨b, _⟩
    · exact ⟨rfl, hN⟩
    · exact absurd b a
  · rcases hm with ⟨b, _⟩ | ⟨b, rfl, rfl⟩
    · exact absurd a b
    · obtain ⟨hD, hV, T, CB, NX, gd', P', Dp', Sl', T', hrdy⟩ := hN
      refine ⟨rfl, hD, by rw [putW_ou (by omega)]; exact hV, T, CB, NX, gd', P', Dp', Sl', T', fun e => ⟨(hrdy e).1, NRD_m (hrdy e).2 ?_⟩⟩
      have q := (hrdy e).2.1
      exact ⟨q.1, q.2.1, q.2.2.1, q.2.2.2.1, q.2.2.2.2.1, put_vok q.2.2.2.2.2.1, fun h => absurd h (by decide)⟩
variable {T P' Dp' Sl' T' : Nat → Nat} {CB NX : Nat → Nat → Nat} {gd' : Nat}
theorem CLOCK {x : Int32} {st2 ck2 mCk2 : Nat} {Vv2 NW NW2 mHd2 : Nat → Nat} {mAc2 : Nat → Int32} (hR : REL n Kd Wd So ms Rw Op Aa Ab Ac Su Sr ow Es mRs mOp mAa mAb mAc mOf mFr) (hD : ∀ z, z < 113 → Dp z = 0) (hV : Vv 0 = 0) (hrdy : rd = 1 → CLN n Kd Op Aa Ab Ac So Su Sr ms ∧ NRD n Kd Wd g gd P Dp Sl T Bt NB CB NX st Vv mG gd' P' Dp' Sl' T' mX mY mDe mBi mHd)
    (hc : (¬ (1 ≤ x.toInt ∧ x.toInt ≤ 30) ∧ (-1) = r ∧ st = st2 ∧ Vv = Vv2 ∧ NW = NW2 ∧ ck = ck2) ∨ ((1 ≤ x.toInt ∧ x.toInt ≤ 30) ∧ rd = 0 ∧ (-2) = r ∧ st = st2 ∧ Vv = Vv2 ∧ NW = NW2 ∧ ck = ck2) ∨ ((1 ≤ x.toInt ∧ x.toInt ≤ 30) ∧ rd = 1 ∧ nI (ck + ix x) = r ∧ ck + ix x = ck2 ∧ RDY n Kd Wd g gd P Dp Sl T Bt NB CB NX st2 Vv2 (ckH n Kd Wd NX mHd (ix x))))
    (hm : (¬ (1 ≤ x.toInt ∧ x.toInt ≤ 30) ∧ (-1) = r' ∧ ck = mCk2 ∧ mHd = mHd2 ∧ mAc = mAc2) ∨ ((1 ≤ x.toInt ∧ x.toInt ≤ 30) ∧ rd = 0 ∧ (-2) = r' ∧ ck = mCk2 ∧ mHd = mHd2 ∧ mAc = mAc2) ∨ ((1 ≤ x.toInt ∧ x.toInt ≤ 30) ∧ rd = 1 ∧ nI (ck + ix x) = r' ∧ ck + ix x = mCk2 ∧ ckH n Kd Wd NX mHd (ix x) = mHd2 ∧ ∀ z, ¬ Kd z = 2 → mAc2 z = mAc z)) :
    r = r' ∧ ck2 = mCk2 ∧ REL n Kd Wd So ms Rw Op Aa Ab Ac Su Sr ow Es mRs mOp mAa mAb mAc2 mOf mFr ∧ NETR n Kd Wd Op Aa Ab Ac So Su Sr ms rd g gd P Dp Sl Bt NB st2 Vv2 mG mX mY mDe mBi mHd2 := by
  rcases hc with ⟨a, rfl, rfl, rfl, rfl, rfl⟩ | ⟨a, a1, rfl, rfl, rfl, rfl, rfl⟩ | ⟨a, a1, rfl, rfl, a2⟩
  · rcases hm with ⟨b, rfl, rfl, rfl, rfl⟩ | ⟨b, _⟩ | ⟨b, _⟩
    · exact ⟨rfl, rfl, hR, hD, hV, T, CB, NX, gd', P', Dp', Sl', T', hrdy⟩
    · exact absurd b a
    · exact absurd b a
  · rcases hm with ⟨b, _⟩ | ⟨b, b1, rfl, rfl, rfl, rfl⟩ | ⟨b, b1, _⟩
    · exact absurd a b
    · exact ⟨rfl, rfl, hR, hD, hV, T, CB, NX, gd', P', Dp', Sl', T', hrdy⟩
    · omega
  · rcases hm with ⟨b, _⟩ | ⟨b, b1, _⟩ | ⟨b, b1, rfl, rfl, rfl, b2⟩
    · exact absurd a b
    · omega
    · exact ⟨rfl, rfl, REL_ac hR b2, hD, a2.2.2.2.2.2.1.1, T, CB, NX, gd', P', Dp', Sl', T', fun e => ⟨(hrdy e).1, NRD_m (hrdy e).2 a2⟩⟩
theorem RESET {st2 ck2 mCk2 : Nat} {Vv2 mHd2 : Nat → Nat} (hR : REL n Kd Wd So ms Rw Op Aa Ab Ac Su Sr ow Es mRs mOp mAa mAb mAc mOf mFr) (hD : ∀ z, z < 113 → Dp z = 0) (hV : Vv 0 = 0) (hrdy : rd = 1 → CLN n Kd Op Aa Ab Ac So Su Sr ms ∧ NRD n Kd Wd g gd P Dp Sl T Bt NB CB NX st Vv mG gd' P' Dp' Sl' T' mX mY mDe mBi mHd)
    (hc : (rd = 0 ∧ st = st2 ∧ Vv = Vv2 ∧ ck = ck2) ∨ (rd = 1 ∧ 0 = ck2 ∧ RDY n Kd Wd g gd P Dp Sl T Bt NB CB NX st2 Vv2 (h0W Kd Rw)))
    (hm : (rd = 0 ∧ mHd = mHd2 ∧ ck = mCk2) ∨ (rd = 1 ∧ 0 = mCk2 ∧ ∀ z, z < n → (Kd z = 0 ∨ Kd z = 2) → mHd2 z = h0W Kd mRs z)) :
    ck2 = mCk2 ∧ NETR n Kd Wd Op Aa Ab Ac So Su Sr ms rd g gd P Dp Sl Bt NB st2 Vv2 mG mX mY mDe mBi mHd2 := by
  rcases hc with ⟨a, rfl, rfl, rfl⟩ | ⟨a, rfl, a2⟩
  · rcases hm with ⟨b, rfl, rfl⟩ | ⟨b, _⟩
    · exact ⟨rfl, hD, hV, T, CB, NX, gd', P', Dp', Sl', T', hrdy⟩
    · omega
  · rcases hm with ⟨b, _⟩ | ⟨b, rfl, b2⟩
    · omega
    · refine ⟨rfl, hD, a2.2.2.2.2.2.1.1, T, CB, NX, gd', P', Dp', Sl', T', fun e => ⟨(hrdy e).1, NRD_m (hrdy e).2 (RDY_hw a2 (fun z hz k => ?_))⟩⟩
      rw [b2 z hz k]
      exact h0W_cg hR.2.2.2.1 z hz
theorem VALUE {x : Int32} {v : Nat} {st2 : Nat} {Vv2 : Nat → Nat} (hD : ∀ z, z < 113 → Dp z = 0) (hV : Vv 0 = 0) (hrdy : rd = 1 → CLN n Kd Op Aa Ab Ac So Su Sr ms ∧ NRD n Kd Wd g gd P Dp Sl T Bt NB CB NX st Vv mG gd' P' Dp' Sl' T' mX mY mDe mBi mHd)
    (hc : (¬ (rd = 1 ∧ hs n x = 1) ∧ (-2) = r ∧ st = st2 ∧ Vv = Vv2) ∨ ((rd = 1 ∧ hs n x = 1) ∧ nI v = r ∧ RDY n Kd Wd g gd P Dp Sl T Bt NB CB NX st2 Vv2 mHd)) (hm : (¬ (rd = 1 ∧ hs n x = 1) ∧ (-2) = r') ∨ ((rd = 1 ∧ hs n x = 1) ∧ nI v = r')) :
    r = r' ∧ NETR n Kd Wd Op Aa Ab Ac So Su Sr ms rd g gd P Dp Sl Bt NB st2 Vv2 mG mX mY mDe mBi mHd := by
  rcases hc with ⟨a, rfl, rfl, rfl⟩ | ⟨a, rfl, a2⟩
  · rcases hm with ⟨b, rfl⟩ | ⟨b, _⟩
    · exact ⟨rfl, hD, hV, T, CB, NX, gd', P', Dp', Sl', T', hrdy⟩
    · exact absurd b a
  · rcases hm with ⟨b, _⟩ | ⟨b, rfl⟩
    · exact absurd a b
    · exact ⟨rfl, hD, a2.2.2.2.2.2.1.1, T, CB, NX, gd', P', Dp', Sl', T', fun e => ⟨(hrdy e).1, NRD_m (hrdy e).2 a2⟩⟩
theorem COUNT {x : Int32} {st2 : Nat} {Vv2 : Nat → Nat} (hR : REL n Kd Wd So ms Rw Op Aa Ab Ac Su Sr ow Es mRs mOp mAa mAb mAc mOf mFr) (hrd : rd ≤ 1) (hD : ∀ z, z < 113 → Dp z = 0) (hV : Vv 0 = 0) (hrdy : rd = 1 → CLN n Kd Op Aa Ab Ac So Su Sr ms ∧ NRD n Kd Wd g gd P Dp Sl T Bt NB CB NX st Vv mG gd' P' Dp' Sl' T' mX mY mDe mBi mHd)
    (hr : cnA x n ms rd g gd (cnt (fun z => evn (fun k => Vv (k + 1)) (T (113 + z))) g) ck ow = r) (hst : (st = st2 ∧ Vv = Vv2) ∨ (rd = 1 ∧ RDY n Kd Wd g gd P Dp Sl T Bt NB CB NX st2 Vv2 mHd)) (hm : cnA x n ms rd mG gd' (cnt (fun z => evn (eH mHd) (T' (113 + z))) mG) ck (dp So ms) = r') :
    r = r' ∧ NETR n Kd Wd Op Aa Ab Ac So Su Sr ms rd g gd P Dp Sl Bt NB st2 Vv2 mG mX mY mDe mBi mHd := by
  refine ⟨?_, ?_⟩
  · rw [← hr, ← hm, ← hR.2.1]
    exact cnA_eq (fun e => NRD_c (hrdy e).2) hrd
  · rcases hst with ⟨rfl, rfl⟩ | ⟨_, a2⟩
    · exact ⟨hD, hV, T, CB, NX, gd', P', Dp', Sl', T', hrdy⟩
    · exact ⟨hD, a2.2.2.2.2.2.1.1, T, CB, NX, gd', P', Dp', Sl', T', fun e => ⟨(hrdy e).1, NRD_m (hrdy e).2 a2⟩⟩
end SX
