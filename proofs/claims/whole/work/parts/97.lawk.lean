/-! the law: what its walk stands on -/
theorem hts_gw {args : Array Value} {s : State} (h : ∀ w ∈ lw_tbl, w.before args s = true) : ∀ w ∈ (Cond.initialized "CircuitDesk") :: lw_gw, w.before args s = true := fun w hw => by
  rcases List.mem_cons.mp hw with e | e
  · rw [e]; exact h _ (mt0 41 rfl)
  · exact h w (in_tb w e)
theorem law_arr {args : Array Value} {s : State} (h1 : (Cond.arrayClass .int).before args s = true) (h2 : (Cond.arrayClass .boolean).before args s = true) : ∃ cI cZ : ClassId, (ArrOfT s cI .int ∧ va_RA s cI .int) ∧ (ArrOfT s cZ .boolean ∧ va_RA s cZ .boolean) := by
  obtain ⟨c, k, comp, q1, q2, q3⟩ := Cond.arrayClass_spec h1
  obtain ⟨c', k', comp', w1, w2, w3⟩ := Cond.arrayClass_spec h2
  exact ⟨c, c', ⟨fun n z => ⟨fun k h => (by cases h), k, q2, comp, q3⟩, q1⟩, ⟨fun n z => ⟨fun k h => (by cases h), k', w2, comp', w3⟩, w1⟩⟩
theorem law_EX {args : Array Value} {s : State} (hts : ∀ w ∈ lw_tbl, w.before args s = true) (hg : (Jvm.Cond.and given_1 narrow_1).before args s = true) : ∃ tt, EX tt (fun q : Nat => s.heap.size ≤ q) s s.heap := by
  have hs := flat_of_before _ hg
  have hA : ∀ a : Nat, a < s.heap.size → ¬ (fun q : Nat => s.heap.size ≤ q) a := fun a h => Nat.not_le.mpr h
  obtain ⟨t, ht, hT⟩ := va_Tof (tm := Term.static "CircuitDesk" "SIGNALS_OF_OP" "[I") (f := fun j => .int (nI (tab j))) (N := 12) (A := fun q : Nat => s.heap.size ≤ q) (by decide) (hs (Cond.arrayOf (Term.static "CircuitDesk" "SIGNALS_OF_OP" "[I") .int) (by decide +kernel)) (va_eqt (hs (Cond.eq (.length (Term.static "CircuitDesk" "SIGNALS_OF_OP" "[I")) (.int 12)) (by decide +kernel))) (fun j hj => by
    rcases (show j = 0 ∨ j = 1 ∨ j = 2 ∨ j = 3 ∨ j = 4 ∨ j = 5 ∨ j = 6 ∨ j = 7 ∨ j = 8 ∨ j = 9 ∨ j = 10 ∨ j = 11 by omega) with rfl | rfl | rfl | rfl | rfl | rfl | rfl | rfl | rfl | rfl | rfl | rfl
    · exact va_eqt (hs (Cond.eq (.elem (Term.static "CircuitDesk" "SIGNALS_OF_OP" "[I") (.int 0)) (.int 1)) (by decide +kernel))
    · exact va_eqt (hs (Cond.eq (.elem (Term.static "CircuitDesk" "SIGNALS_OF_OP" "[I") (.int 1)) (.int 2)) (by decide +kernel))
    · exact va_eqt (hs (Cond.eq (.elem (Term.static "CircuitDesk" "SIGNALS_OF_OP" "[I") (.int 2)) (.int 2)) (by decide +kernel))
    · exact va_eqt (hs (Cond.eq (.elem (Term.static "CircuitDesk" "SIGNALS_OF_OP" "[I") (.int 3)) (.int 2)) (by decide +kernel))
    · exact va_eqt (hs (Cond.eq (.elem (Term.static "CircuitDesk" "SIGNALS_OF_OP" "[I") (.int 4)) (.int 2)) (by decide +kernel))
    · exact va_eqt (hs (Cond.eq (.elem (Term.static "CircuitDesk" "SIGNALS_OF_OP" "[I") (.int 5)) (.int 2)) (by decide +kernel))
    · exact va_eqt (hs (Cond.eq (.elem (Term.static "CircuitDesk" "SIGNALS_OF_OP" "[I") (.int 6)) (.int 2)) (by decide +kernel))
    · exact va_eqt (hs (Cond.eq (.elem (Term.static "CircuitDesk" "SIGNALS_OF_OP" "[I") (.int 7)) (.int 2)) (by decide +kernel))
    · exact va_eqt (hs (Cond.eq (.elem (Term.static "CircuitDesk" "SIGNALS_OF_OP" "[I") (.int 8)) (.int 2)) (by decide +kernel))
    · exact va_eqt (hs (Cond.eq (.elem (Term.static "CircuitDesk" "SIGNALS_OF_OP" "[I") (.int 9)) (.int 1)) (by decide +kernel))
    · exact va_eqt (hs (Cond.eq (.elem (Term.static "CircuitDesk" "SIGNALS_OF_OP" "[I") (.int 10)) (.int 3)) (by decide +kernel))
    · exact va_eqt (hs (Cond.eq (.elem (Term.static "CircuitDesk" "SIGNALS_OF_OP" "[I") (.int 11)) (.int 0)) (by decide +kernel))) hA
  exact ⟨t, va_Nw.of rfl (hts _ (mt0 278 rfl)), va_Nw.of rfl (hts _ (mt0 379 rfl)), va_Zref (hts _ (mt0 286 rfl)) (hts _ (mt0 41 rfl)) ht hA, hT⟩
/-- the constructor's premise: besides the world the links to the nest -/
theorem k_preX {D : va_G} {cl : List vw_C} {tys : List (ClassId × FieldType)} {s : State} {H : Heap} {A0 : Nat → Prop} {ws wc : va_W} {As : List Value} {tt : Nat} {locs : List Loc} (hK : va_K D cl tys s) (hP : va_P D cl ws H) (hD : va_D A0 ws) (hS : va_S A0 s.heap H locs) (hA : ∀ q, s.heap.size ≤ q → A0 q) (hE : EX tt A0 s s.heap) {y1 y2 y3 : MethodName} (hX : va_Nw (.methodLinkNest "CircuitDesk" 9 y1 "CircuitDesk") s ∧ va_Nw (.methodLinkNest "CircuitDesk" 18 y2 "CircuitDesk") s ∧ va_Nw (.methodLinkNest "CircuitDesk" 34 y3 "CircuitDesk") s) (isC : List Nat) (hn : va_nd isC = true) (hC : isC.map (fun i => ws[i]?) = wc.map some) :
    PreS s H (va_Pc As (fun U => PW D cl tys tt wc H.size U ∧ va_Nw (.methodLinkNest "CircuitDesk" 9 y1 "CircuitDesk") U ∧ va_Nw (.methodLinkNest "CircuitDesk" 18 y2 "CircuitDesk") U ∧ va_Nw (.methodLinkNest "CircuitDesk" 34 y3 "CircuitDesk") U)) As := by
  refine ⟨fun a U g mk q => ?_, fun U hU hW => ⟨rfl, ⟨by rw [hU], by rw [hU]; exact k_subP hP hC, va_K.moved hW.alike hK, (hD.sub isC hn hC).weaken (fun _ _ _ _ => trivial), hE.callee hS hU hW (va_free hD hS hA isC hC)⟩, va_Nw.warmM hW hX.1, va_Nw.warmM hW hX.2.1, va_Nw.warmM hW hX.2.2⟩⟩
  obtain ⟨q0, qw, q1, q2, q3⟩ := q
  have hb := pw_blind a U g mk ⟨q0, qw⟩
  exact ⟨hb.1, hb.2, va_Nw.same rfl rfl q1, va_Nw.same rfl rfl q2, va_Nw.same rfl rfl q3⟩
theorem cir_case {n ms : Nat} {Kd Wd Op So Su Sr : Nat → Nat} {Aa Ab Ac : Nat → Int32} (h : WFC n Kd Wd Op Aa Ab Ac So Su Sr ms) : ∃ (CB : Nat → Nat → Nat) (AG : Nat → List Nat) (K : List Nat) (rk : Nat → Nat), ((∀ z, z < n → ¬ Rch (Rl n (RM Kd Op Aa Ab Ac So Su Sr ms)) z z) → ∀ z, z < n → ∀ c, c ∈ AG z → GSp (QL n Kd) c) ∧ ((∀ z, z < n → ¬ Rch (Rl n (RM Kd Op Aa Ab Ac So Su Sr ms)) z z) → ∀ RA : Nat → Nat, (∀ z, z < n → RA z = RM Kd Op Aa Ab Ac So Su Sr ms z) → CIR n Kd Wd Op Aa Ab Ac So Su Sr ms CB AG K rk RA) := by
  rcases Classical.em (∀ z, z < n → ¬ Rch (Rl n (RM Kd Op Aa Ab Ac So Su Sr ms)) z z) with c | c
  · obtain ⟨CB, AG, K, rk, a, b⟩ := CIR_ex h c
    exact ⟨CB, AG, K, rk, fun _ => a, fun _ => b⟩
  · exact ⟨fun _ _ => 0, fun _ => [], [], fun _ => 0, fun q => absurd q c, fun q => absurd q c⟩
theorem WF_ha1 {n ms : Nat} {Kd Wd Op So Su Sr : Nat → Nat} {Aa Ab Ac : Nat → Int32} (h : WFC n Kd Wd Op Aa Ab Ac So Su Sr ms) : ∀ z, z < n → Kd z = 3 → (1 ≤ tab (Op z) → ∃ X, X < 14 ∧ Aa z = nI X) ∧ (2 ≤ tab (Op z) → ∃ X, X < 14 ∧ Ab z = nI X) ∧ (3 ≤ tab (Op z) → ∃ X, X < 14 ∧ Ac z = nI X) := fun z hz k => by
  have g := (h.2.2.2.2.2.2.1 z hz).2 k
  have hn := h.1
  exact ⟨fun t => by obtain ⟨X, a, b⟩ := g.2.1 t; exact ⟨X, Nat.lt_of_lt_of_le a hn, b⟩, fun t => by obtain ⟨X, a, b⟩ := g.2.2.1 t; exact ⟨X, Nat.lt_of_lt_of_le a hn, b⟩, fun t => by obtain ⟨X, a, b⟩ := g.2.2.2.1 t; exact ⟨X, Nat.lt_of_lt_of_le a hn, b⟩⟩
theorem WF_wx {n ms : Nat} {Kd Wd Op So Su Sr : Nat → Nat} {Aa Ab Ac : Nat → Int32} (h : WFC n Kd Wd Op Aa Ab Ac So Su Sr ms) : ∀ z, z < n → Kd z = 3 → (Op z = 0 → Wd z = Wd (ix (Aa z))) ∧ (Op z = 8 → Wd z = Wd (ix (Aa z)) + Wd (ix (Ab z))) ∧ (Op z = 9 → ix (Ab z) + Wd z ≤ Wd (ix (Aa z))) := fun z hz k => ((h.2.2.2.2.2.2.1 z hz).2 k).2.2.2.2.2.2.2.2.2
section RX
variable {n : Nat} {Kd Wd So : Nat → Nat} {ms : Nat} {Rw Op : Nat → Nat} {Aa Ab Ac : Nat → Int32} {Su Sr : Nat → Nat} {ow : Nat} {Es mRs : Nat → Nat} {mOp mAa mAb mAc mOf mFr : Nat → Int32}
theorem REL_ms (h : REL n Kd Wd So ms Rw Op Aa Ab Ac Su Sr ow Es mRs mOp mAa mAb mAc mOf mFr) : ∀ z, z < n → Kd z = 3 → mOp z = nI (Op z) ∧ Op z ≤ 11 ∧ mAa z = Aa z ∧ mAb z = Ab z ∧ mAc z = Ac z := fun z hz k =>
  ⟨by rw [h.2.2.2.2.1 z hz, if_pos k], ((h.1.2.2.2.2.2.2.1 z hz).2 k).1, h.2.2.2.2.2.1 z hz k⟩
theorem REL_of (h : REL n Kd Wd So ms Rw Op Aa Ab Ac Su Sr ow Es mRs mOp mAa mAb mAc mOf mFr) : ∀ k, k < ms → (So k = 0 ∨ So k = 1) → mOf k = nI (Su k) ∧ Su k < n := fun k hk q => ⟨h.2.2.2.2.2.2.1 k hk q, (h.1.2.2.2.2.2.2.2 k hk).1 q⟩
theorem REL_fr (h : REL n Kd Wd So ms Rw Op Aa Ab Ac Su Sr ow Es mRs mOp mAa mAb mAc mOf mFr) : ∀ k, k < ms → So k = 0 → mFr k = nI (Sr k) ∧ Sr k < n := fun k hk q => ⟨h.2.2.2.2.2.2.2 k hk q, ((h.1.2.2.2.2.2.2.2 k hk).2 q).1⟩
end RX
theorem REL_00 {Rw Op Su Sr Es mRs : Nat → Nat} {Aa Ab Ac mOp mAa mAb mAc mOf mFr : Nat → Int32} : REL 0 (fun _ => 0) (fun _ => 0) (fun _ => 0) 0 Rw Op Aa Ab Ac Su Sr 0 Es mRs mOp mAa mAb mAc mOf mFr :=
  ⟨⟨Nat.zero_le _, Nat.zero_le _, fun _ => Nat.zero_lt_succ _, fun _ => Nat.zero_lt_succ _, fun _ => Nat.zero_lt_succ _, fun k hk => absurd hk (Nat.not_lt_zero _), fun k hk => absurd hk (Nat.not_lt_zero _), fun k hk => absurd hk (Nat.not_lt_zero _)⟩, rfl, fun v hv => absurd hv (Nat.not_lt_zero _), fun k hk => absurd hk (Nat.not_lt_zero _), fun k hk => absurd hk (Nat.not_lt_zero _), fun k hk => absurd hk (Nat.not_lt_zero _), fun k hk => absurd hk (Nat.not_lt_zero _), fun k hk => absurd hk (Nat.not_lt_zero _)⟩
theorem NETR_00 {n : Nat} {Kd Wd Op : Nat → Nat} {Aa Ab Ac : Nat → Int32} {So Su Sr : Nat → Nat} {ms g gd : Nat} {P Sl Bt NB : Nat → Nat} {st mG : Nat} {mX mY mDe mBi mHd : Nat → Nat} : NETR n Kd Wd Op Aa Ab Ac So Su Sr ms 0 g gd P (fun _ => 0) Sl Bt NB st (fun _ => 0) mG mX mY mDe mBi mHd := NETR_n (fun _ _ => rfl) rfl (by decide)
