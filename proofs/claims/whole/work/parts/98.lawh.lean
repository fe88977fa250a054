set_option maxHeartbeats 4000000 in
set_option maxRecDepth 100000 in
theorem law_head {p : Program} {l : Launch} {e : Env} {s : State} {m : MethodId} {below : List Frame} {meth : Method} {c : Code} {dC : Nat → ClassId} {dI : Nat → Nat → Nat} {cI cZ : ClassId} {A : Nat → Prop} {b L tt : Nat} {xs : Nat → Int32} {a_desk a_sig a_kind a_width a_rword a_sop a_sa a_sb a_sc a_stm a_sort a_subject a_source a_elseSeen a_chk a_rao a_ron a_aro a_sip a_sif a_net a_pairs a_depths a_values a_slots a_mkr a_bits a_nbits a_sums a_given a_gfirst a_cond a_insec a_nwords a_mod a_mkind a_mwidth a_mreset a_mop a_mka a_mkb a_mkc a_mheld a_msort a_mof a_mfrom a_mbit a_mdone a_mrests a_mxx a_myy a_mdepth a_mone a_mbefore a_mfirst a_mturned : Nat} (hL : L ≤ 2560) (C0 : lw_At p s m meth c b L xs) (hA : ∀ q, s.heap.size ≤ q → A q) (hbA : ¬ A b) (hE : EX tt A s s.heap) (hK : va_K (dC, dI) classes [(cI, .int), (cZ, .boolean)] s) (hAr : ∀ q, A q → s.heap.size ≤ q) {i : Nat} (hi5 : i ≤ L + 5) (ih : i + 5 ≤ L → LHd p l e s m below meth c dC dI cI cZ A b a_desk a_sig a_kind a_width a_rword a_sop a_sa a_sb a_sc a_stm a_sort a_subject a_source a_elseSeen a_chk a_rao a_ron a_aro a_sip a_sif a_net a_pairs a_depths a_values a_slots a_mkr a_bits a_nbits a_sums a_given a_gfirst a_cond a_insec a_nwords a_mod a_mkind a_mwidth a_mreset a_mop a_mka a_mkb a_mkc a_mheld a_msort a_mof a_mfrom a_mbit a_mdone a_mrests a_mxx a_myy a_mdepth a_mone a_mbefore a_mfirst a_mturned (i + 5)) : LHd p l e s m below meth c dC dI cI cZ A b a_desk a_sig a_kind a_width a_rword a_sop a_sa a_sb a_sc a_stm a_sort a_subject a_source a_elseSeen a_chk a_rao a_ron a_aro a_sip a_sif a_net a_pairs a_depths a_values a_slots a_mkr a_bits a_nbits a_sums a_given a_gfirst a_cond a_insec a_nwords a_mod a_mkind a_mwidth a_mreset a_mop a_mka a_mkb a_mkc a_mheld a_msort a_mof a_mfrom a_mbit a_mdone a_mrests a_mxx a_myy a_mdepth a_mone a_mbefore a_mfirst a_mturned i := by
  intro rd fw ck n Kd Wd Rw Op Aa Ab Ac ms ow So Su Sr Es RA RO AR SPt SFt g gd st P Dp Vv Sl Bt NB Sm Gv Gf Cn Is NW mG mRs mOp mAa mAb mAc mHd mOf mFr mBi mDn mRe mX mY mDe mIo mBe mFi mTu b_rd b_n b_Kd b_Wd b_Rw b_Op b_ms b_ow b_So b_Su b_Sr b_Es b_RA b_RO b_AR b_SPt b_SFt b_g b_gd b_st b_P b_Dp b_Vv b_Sl b_Bt b_NB b_Sm b_Gv b_Gf b_Cn b_Is b_NW b_mG b_mRs b_mHd b_mBi b_mDn b_mRe b_mX b_mY b_mDe b_mIo b_mBe b_mFi b_mTu hR hN H locs ls hP hD hS hl
  obtain ⟨hx, hb, hr, hml, hown, hts0, hX, hbl, hlocks, hgv⟩ := id C0
  have hts := hts_gw hts0
  have hmn := b_n
  refine lv_iload_n hx hb d_law_18 rfl (lv_at hl 3 rfl) ?_
  refine lv_aload_n hx hb d_law_19 rfl (lv_at hl 0 rfl) ?_
  refine va_slen hx hb hX hbl hbA hS d_law_20 ?_
  refine k_top (show Int32.ofNat L = nI L from rfl) ?_
  refine lv_iconst (v := nI 5) hx hb d_law_21 rfl ?_
  refine lv_isub hx hb d_law_22 ?_
  refine lv_icmp_gt (tgt := 464) hx hb d_law_23 (by decide) (fun c23 => ?_) (fun c23 => ?_)
  · skip
    have c23 : ((nI L) - (nI 5)).toInt < ((i : Nat) : Int) := (ri_lt rfl (nI_toInt (show _ < 2 ^ 31 by omega))).mp c23
    refine lv_iconst (v := 1) hx hb d_law_464 (by decide) ?_
    refine va_forget (fun q hq => hAr _ (hS.2.2 q hq)) ?_
    refine W.widen (k := 56) (n := 17797) (Nat.le_refl 56) (Nat.le_refl 17797) ?_
    exact lw_ret hx hb hr hlocks d_law_465
  · skip
    have c23 : ¬ (((nI L) - (nI 5)).toInt < ((i : Nat) : Int)) := fun h => c23 ((ri_lt rfl (nI_toInt (show _ < 2 ^ 31 by omega))).mpr h)
    rw [pk_sub_toInt (by omega) (by decide)] at c23
    refine lv_aload_n hx hb d_law_26 rfl (lv_at hl 0 rfl) ?_
    refine lv_iload_n hx hb d_law_27 rfl (lv_at hl 3 rfl) ?_
    refine va_sld hx hb hX hbl hbA hS (vp_in_nI (show i < L by omega) (by omega)) d_law_28 ?_
    refine k_top (show xs (nI i).toNatClampNeg = xs i from by rw [nI_clamp (by omega)]) ?_
    refine lv_bipush (v := nI 15) hx hb d_law_29 rfl ?_
    refine lv_iand hx hb d_law_31 ?_
    have hlw := lowb_lt (xs i) 4
    refine k_top (show (xs i) &&& (nI 15) = nI (lowb (xs i) 4) from (lowb_row (w := 4) _ (by decide))) ?_
    rcases (show (lowb (xs i) 4) = 0 ∨ (lowb (xs i) 4) = 1 ∨ (lowb (xs i) 4) = 2 ∨ (lowb (xs i) 4) = 3 ∨ (lowb (xs i) 4) = 4 ∨ (lowb (xs i) 4) = 5 ∨ (lowb (xs i) 4) = 6 ∨ (lowb (xs i) 4) = 7 ∨ (lowb (xs i) 4) = 8 ∨ (lowb (xs i) 4) = 9 ∨ (lowb (xs i) 4) = 10 ∨ (lowb (xs i) 4) = 11 ∨ 11 < (lowb (xs i) 4) by omega) with e32 | e32 | e32 | e32 | e32 | e32 | e32 | e32 | e32 | e32 | e32 | e32 | e32
    · skip
      refine k_tabIn (k := 0) (tgt := 96) hx hb d_law_32 e32 (by decide) (by decide) rfl (by decide) ?_
      exact law_c0 hL C0 hA hbA hE hK (by omega) (ih (by omega)) rd fw ck n Kd Wd Rw Op Aa Ab Ac ms ow So Su Sr Es RA RO AR SPt SFt g gd st P Dp Vv Sl Bt NB Sm Gv Gf Cn Is NW mG mRs mOp mAa mAb mAc mHd mOf mFr mBi mDn mRe mX mY mDe mIo mBe mFi mTu b_rd b_n b_Kd b_Wd b_Rw b_Op b_ms b_ow b_So b_Su b_Sr b_Es b_RA b_RO b_AR b_SPt b_SFt b_g b_gd b_st b_P b_Dp b_Vv b_Sl b_Bt b_NB b_Sm b_Gv b_Gf b_Cn b_Is b_NW b_mG b_mRs b_mHd b_mBi b_mDn b_mRe b_mX b_mY b_mDe b_mIo b_mBe b_mFi b_mTu hR hN _ _ _ hP hD hS (lv_sub hl [0, 1, 2, 3] rfl)
    · skip
      refine k_tabIn (k := 1) (tgt := 139) hx hb d_law_32 e32 (by decide) (by decide) rfl (by decide) ?_
      exact law_c1 hL C0 hA hbA hE hK (by omega) (ih (by omega)) rd fw ck n Kd Wd Rw Op Aa Ab Ac ms ow So Su Sr Es RA RO AR SPt SFt g gd st P Dp Vv Sl Bt NB Sm Gv Gf Cn Is NW mG mRs mOp mAa mAb mAc mHd mOf mFr mBi mDn mRe mX mY mDe mIo mBe mFi mTu b_rd b_n b_Kd b_Wd b_Rw b_Op b_ms b_ow b_So b_Su b_Sr b_Es b_RA b_RO b_AR b_SPt b_SFt b_g b_gd b_st b_P b_Dp b_Vv b_Sl b_Bt b_NB b_Sm b_Gv b_Gf b_Cn b_Is b_NW b_mG b_mRs b_mHd b_mBi b_mDn b_mRe b_mX b_mY b_mDe b_mIo b_mBe b_mFi b_mTu hR hN _ _ _ hP hD hS (lv_sub hl [0, 1, 2, 3] rfl)
    · skip
      refine k_tabIn (k := 2) (tgt := 192) hx hb d_law_32 e32 (by decide) (by decide) rfl (by decide) ?_
      exact law_c2 hL C0 hA hbA hE hK (by omega) (ih (by omega)) rd fw ck n Kd Wd Rw Op Aa Ab Ac ms ow So Su Sr Es RA RO AR SPt SFt g gd st P Dp Vv Sl Bt NB Sm Gv Gf Cn Is NW mG mRs mOp mAa mAb mAc mHd mOf mFr mBi mDn mRe mX mY mDe mIo mBe mFi mTu b_rd b_n b_Kd b_Wd b_Rw b_Op b_ms b_ow b_So b_Su b_Sr b_Es b_RA b_RO b_AR b_SPt b_SFt b_g b_gd b_st b_P b_Dp b_Vv b_Sl b_Bt b_NB b_Sm b_Gv b_Gf b_Cn b_Is b_NW b_mG b_mRs b_mHd b_mBi b_mDn b_mRe b_mX b_mY b_mDe b_mIo b_mBe b_mFi b_mTu hR hN _ _ _ hP hD hS (lv_sub hl [0, 1, 2, 3] rfl)
    · skip
      refine k_tabIn (k := 3) (tgt := 235) hx hb d_law_32 e32 (by decide) (by decide) rfl (by decide) ?_
      exact law_c3 hL C0 hA hbA hE hK (by omega) (ih (by omega)) rd fw ck n Kd Wd Rw Op Aa Ab Ac ms ow So Su Sr Es RA RO AR SPt SFt g gd st P Dp Vv Sl Bt NB Sm Gv Gf Cn Is NW mG mRs mOp mAa mAb mAc mHd mOf mFr mBi mDn mRe mX mY mDe mIo mBe mFi mTu b_rd b_n b_Kd b_Wd b_Rw b_Op b_ms b_ow b_So b_Su b_Sr b_Es b_RA b_RO b_AR b_SPt b_SFt b_g b_gd b_st b_P b_Dp b_Vv b_Sl b_Bt b_NB b_Sm b_Gv b_Gf b_Cn b_Is b_NW b_mG b_mRs b_mHd b_mBi b_mDn b_mRe b_mX b_mY b_mDe b_mIo b_mBe b_mFi b_mTu hR hN _ _ _ hP hD hS (lv_sub hl [0, 1, 2, 3] rfl)
    · skip
      refine k_tabIn (k := 4) (tgt := 258) hx hb d_law_32 e32 (by decide) (by decide) rfl (by decide) ?_
      exact law_c4 hL C0 hA hbA hE hK (by omega) (ih (by omega)) rd fw ck n Kd Wd Rw Op Aa Ab Ac ms ow So Su Sr Es RA RO AR SPt SFt g gd st P Dp Vv Sl Bt NB Sm Gv Gf Cn Is NW mG mRs mOp mAa mAb mAc mHd mOf mFr mBi mDn mRe mX mY mDe mIo mBe mFi mTu b_rd b_n b_Kd b_Wd b_Rw b_Op b_ms b_ow b_So b_Su b_Sr b_Es b_RA b_RO b_AR b_SPt b_SFt b_g b_gd b_st b_P b_Dp b_Vv b_Sl b_Bt b_NB b_Sm b_Gv b_Gf b_Cn b_Is b_NW b_mG b_mRs b_mHd b_mBi b_mDn b_mRe b_mX b_mY b_mDe b_mIo b_mBe b_mFi b_mTu hR hN _ _ _ hP hD hS (lv_sub hl [0, 1, 2, 3] rfl)
    · skip
      refine k_tabIn (k := 5) (tgt := 271) hx hb d_law_32 e32 (by decide) (by decide) rfl (by decide) ?_
      exact law_c5 hL C0 hA hbA hE hK (by omega) (ih (by omega)) rd fw ck n Kd Wd Rw Op Aa Ab Ac ms ow So Su Sr Es RA RO AR SPt SFt g gd st P Dp Vv Sl Bt NB Sm Gv Gf Cn Is NW mG mRs mOp mAa mAb mAc mHd mOf mFr mBi mDn mRe mX mY mDe mIo mBe mFi mTu b_rd b_n b_Kd b_Wd b_Rw b_Op b_ms b_ow b_So b_Su b_Sr b_Es b_RA b_RO b_AR b_SPt b_SFt b_g b_gd b_st b_P b_Dp b_Vv b_Sl b_Bt b_NB b_Sm b_Gv b_Gf b_Cn b_Is b_NW b_mG b_mRs b_mHd b_mBi b_mDn b_mRe b_mX b_mY b_mDe b_mIo b_mBe b_mFi b_mTu hR hN _ _ _ hP hD hS (lv_sub hl [0, 1, 2, 3] rfl)
    · skip
      refine k_tabIn (k := 6) (tgt := 284) hx hb d_law_32 e32 (by decide) (by decide) rfl (by decide) ?_
      exact law_c6 hL C0 hA hbA hE hK (by omega) (ih (by omega)) rd fw ck n Kd Wd Rw Op Aa Ab Ac ms ow So Su Sr Es RA RO AR SPt SFt g gd st P Dp Vv Sl Bt NB Sm Gv Gf Cn Is NW mG mRs mOp mAa mAb mAc mHd mOf mFr mBi mDn mRe mX mY mDe mIo mBe mFi mTu b_rd b_n b_Kd b_Wd b_Rw b_Op b_ms b_ow b_So b_Su b_Sr b_Es b_RA b_RO b_AR b_SPt b_SFt b_g b_gd b_st b_P b_Dp b_Vv b_Sl b_Bt b_NB b_Sm b_Gv b_Gf b_Cn b_Is b_NW b_mG b_mRs b_mHd b_mBi b_mDn b_mRe b_mX b_mY b_mDe b_mIo b_mBe b_mFi b_mTu hR hN _ _ _ hP hD hS (lv_sub hl [0, 1, 2, 3] rfl)
    · skip
      refine k_tabIn (k := 7) (tgt := 317) hx hb d_law_32 e32 (by decide) (by decide) rfl (by decide) ?_
      exact law_c7 hL C0 hA hbA hE hK (by omega) (ih (by omega)) rd fw ck n Kd Wd Rw Op Aa Ab Ac ms ow So Su Sr Es RA RO AR SPt SFt g gd st P Dp Vv Sl Bt NB Sm Gv Gf Cn Is NW mG mRs mOp mAa mAb mAc mHd mOf mFr mBi mDn mRe mX mY mDe mIo mBe mFi mTu b_rd b_n b_Kd b_Wd b_Rw b_Op b_ms b_ow b_So b_Su b_Sr b_Es b_RA b_RO b_AR b_SPt b_SFt b_g b_gd b_st b_P b_Dp b_Vv b_Sl b_Bt b_NB b_Sm b_Gv b_Gf b_Cn b_Is b_NW b_mG b_mRs b_mHd b_mBi b_mDn b_mRe b_mX b_mY b_mDe b_mIo b_mBe b_mFi b_mTu hR hN _ _ _ hP hD hS (lv_sub hl [0, 1, 2, 3] rfl)
    · skip
      refine k_tabIn (k := 8) (tgt := 340) hx hb d_law_32 e32 (by decide) (by decide) rfl (by decide) ?_
      exact law_c8 hL C0 hA hbA hE hK (by omega) (ih (by omega)) rd fw ck n Kd Wd Rw Op Aa Ab Ac ms ow So Su Sr Es RA RO AR SPt SFt g gd st P Dp Vv Sl Bt NB Sm Gv Gf Cn Is NW mG mRs mOp mAa mAb mAc mHd mOf mFr mBi mDn mRe mX mY mDe mIo mBe mFi mTu b_rd b_n b_Kd b_Wd b_Rw b_Op b_ms b_ow b_So b_Su b_Sr b_Es b_RA b_RO b_AR b_SPt b_SFt b_g b_gd b_st b_P b_Dp b_Vv b_Sl b_Bt b_NB b_Sm b_Gv b_Gf b_Cn b_Is b_NW b_mG b_mRs b_mHd b_mBi b_mDn b_mRe b_mX b_mY b_mDe b_mIo b_mBe b_mFi b_mTu hR hN _ _ _ hP hD hS (lv_sub hl [0, 1, 2, 3] rfl)
    · skip
      refine k_tabIn (k := 9) (tgt := 353) hx hb d_law_32 e32 (by decide) (by decide) rfl (by decide) ?_
      exact law_c9 hL C0 hA hbA hE hK (by omega) (ih (by omega)) rd fw ck n Kd Wd Rw Op Aa Ab Ac ms ow So Su Sr Es RA RO AR SPt SFt g gd st P Dp Vv Sl Bt NB Sm Gv Gf Cn Is NW mG mRs mOp mAa mAb mAc mHd mOf mFr mBi mDn mRe mX mY mDe mIo mBe mFi mTu b_rd b_n b_Kd b_Wd b_Rw b_Op b_ms b_ow b_So b_Su b_Sr b_Es b_RA b_RO b_AR b_SPt b_SFt b_g b_gd b_st b_P b_Dp b_Vv b_Sl b_Bt b_NB b_Sm b_Gv b_Gf b_Cn b_Is b_NW b_mG b_mRs b_mHd b_mBi b_mDn b_mRe b_mX b_mY b_mDe b_mIo b_mBe b_mFi b_mTu hR hN _ _ _ hP hD hS (lv_sub hl [0, 1, 2, 3] rfl)
    · skip
      refine k_tabIn (k := 10) (tgt := 402) hx hb d_law_32 e32 (by decide) (by decide) rfl (by decide) ?_
      exact law_c10 hL C0 hA hbA hE hK (by omega) (ih (by omega)) rd fw ck n Kd Wd Rw Op Aa Ab Ac ms ow So Su Sr Es RA RO AR SPt SFt g gd st P Dp Vv Sl Bt NB Sm Gv Gf Cn Is NW mG mRs mOp mAa mAb mAc mHd mOf mFr mBi mDn mRe mX mY mDe mIo mBe mFi mTu b_rd b_n b_Kd b_Wd b_Rw b_Op b_ms b_ow b_So b_Su b_Sr b_Es b_RA b_RO b_AR b_SPt b_SFt b_g b_gd b_st b_P b_Dp b_Vv b_Sl b_Bt b_NB b_Sm b_Gv b_Gf b_Cn b_Is b_NW b_mG b_mRs b_mHd b_mBi b_mDn b_mRe b_mX b_mY b_mDe b_mIo b_mBe b_mFi b_mTu hR hN _ _ _ hP hD hS (lv_sub hl [0, 1, 2, 3] rfl)
    · skip
      refine k_tabIn (k := 11) (tgt := 435) hx hb d_law_32 e32 (by decide) (by decide) rfl (by decide) ?_
      exact law_c11 hL C0 hA hbA hE hK (by omega) (ih (by omega)) rd fw ck n Kd Wd Rw Op Aa Ab Ac ms ow So Su Sr Es RA RO AR SPt SFt g gd st P Dp Vv Sl Bt NB Sm Gv Gf Cn Is NW mG mRs mOp mAa mAb mAc mHd mOf mFr mBi mDn mRe mX mY mDe mIo mBe mFi mTu b_rd b_n b_Kd b_Wd b_Rw b_Op b_ms b_ow b_So b_Su b_Sr b_Es b_RA b_RO b_AR b_SPt b_SFt b_g b_gd b_st b_P b_Dp b_Vv b_Sl b_Bt b_NB b_Sm b_Gv b_Gf b_Cn b_Is b_NW b_mG b_mRs b_mHd b_mBi b_mDn b_mRe b_mX b_mY b_mDe b_mIo b_mBe b_mFi b_mTu hR hN _ _ _ hP hD hS (lv_sub hl [0, 1, 2, 3] rfl)
    · skip
      refine k_tabOut (tgt := 458) hx hb d_law_32 e32 (by omega) rfl (by decide) ?_
      refine lv_iinc (v := nI (i + 5)) (lv' := [(3, .int (nI (i + 5))), (0, .ref b), (1, .ref a_desk), (2, .ref a_mod)]) hx hb d_law_458 hl (k := 3) rfl (k_inc _ 5) (by decide) rfl (fun ls hl => ?_)
      refine lv_goto (tgt := 18) hx hb d_law_461 (by decide) ?_
      exact (ih (by omega)) rd fw ck n Kd Wd Rw Op Aa Ab Ac ms ow So Su Sr Es RA RO AR SPt SFt g gd st P Dp Vv Sl Bt NB Sm Gv Gf Cn Is NW mG mRs mOp mAa mAb mAc mHd mOf mFr mBi mDn mRe mX mY mDe mIo mBe mFi mTu (by omega) (by omega) b_Kd b_Wd b_Rw b_Op (by omega) (by omega) b_So b_Su b_Sr b_Es b_RA b_RO b_AR b_SPt b_SFt (by omega) (by omega) (by omega) b_P b_Dp b_Vv b_Sl b_Bt b_NB b_Sm b_Gv b_Gf b_Cn b_Is b_NW (by omega) b_mRs b_mHd b_mBi b_mDn b_mRe b_mX b_mY b_mDe b_mIo b_mBe b_mFi b_mTu hR hN _ _ _ hP hD hS (lv_sub hl [1, 2, 3, 0] rfl)
theorem law_all {p : Program} {l : Launch} {e : Env} {s : State} {m : MethodId} {below : List Frame} {meth : Method} {c : Code} {dC : Nat → ClassId} {dI : Nat → Nat → Nat} {cI cZ : ClassId} {A : Nat → Prop} {b L tt : Nat} {xs : Nat → Int32} {a_desk a_sig a_kind a_width a_rword a_sop a_sa a_sb a_sc a_stm a_sort a_subject a_source a_elseSeen a_chk a_rao a_ron a_aro a_sip a_sif a_net a_pairs a_depths a_values a_slots a_mkr a_bits a_nbits a_sums a_given a_gfirst a_cond a_insec a_nwords a_mod a_mkind a_mwidth a_mreset a_mop a_mka a_mkb a_mkc a_mheld a_msort a_mof a_mfrom a_mbit a_mdone a_mrests a_mxx a_myy a_mdepth a_mone a_mbefore a_mfirst a_mturned : Nat} (hL : L ≤ 2560) (C0 : lw_At p s m meth c b L xs) (hA : ∀ q, s.heap.size ≤ q → A q) (hbA : ¬ A b) (hE : EX tt A s s.heap) (hK : va_K (dC, dI) classes [(cI, .int), (cZ, .boolean)] s) (hAr : ∀ q, A q → s.heap.size ≤ q) : ∀ k i, L + 6 ≤ i + k → i ≤ L + 5 → LHd p l e s m below meth c dC dI cI cZ A b a_desk a_sig a_kind a_width a_rword a_sop a_sa a_sb a_sc a_stm a_sort a_subject a_source a_elseSeen a_chk a_rao a_ron a_aro a_sip a_sif a_net a_pairs a_depths a_values a_slots a_mkr a_bits a_nbits a_sums a_given a_gfirst a_cond a_insec a_nwords a_mod a_mkind a_mwidth a_mreset a_mop a_mka a_mkb a_mkc a_mheld a_msort a_mof a_mfrom a_mbit a_mdone a_mrests a_mxx a_myy a_mdepth a_mone a_mbefore a_mfirst a_mturned i
  | 0, i, h1, h2 => absurd h1 (by omega)
  | k + 1, i, h1, h2 => law_head hL C0 hA hbA hE hK hAr h2 (fun h => law_all hL C0 hA hbA hE hK hAr k (i + 5) (by omega) (by omega))
