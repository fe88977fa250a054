/-! my own helpers: Nat-valued arrays, world predicates, call and loop wrappers -/
def nF (F : Nat → Nat) : Nat → Int32 := fun j => nI (F j)
def upN (F : Nat → Nat) (k v : Nat) : Nat → Nat := fun j => if j = k then v else F j
theorem upN_self (F : Nat → Nat) (k v : Nat) : upN F k v k = v := by unfold upN; rw [if_pos rfl]
theorem upN_ne (F : Nat → Nat) {k j : Nat} (v : Nat) (h : j ≠ k) : upN F k v j = F j := by unfold upN; rw [if_neg h]
theorem upN_lt {F : Nat → Nat} {B k v : Nat} (h : ∀ j, F j < B) (hv : v < B) : ∀ j, upN F k v j < B := by
  intro j
  unfold upN
  split
  · exact hv
  · exact h j
theorem nF_upd (F : Nat → Nat) (k v : Nat) : upd (nF F) k (nI v) = nF (upN F k v) := by
  funext j
  unfold upd nF upN
  split <;> rfl
theorem nI_bv (a : Nat) : (nI a).toBitVec = BitVec.ofNat 32 a := rfl
theorem nI_or (a b : Nat) : nI a ||| nI b = nI (a ||| b) := by
  apply Int32.toBitVec_inj.1
  show BitVec.ofNat 32 a ||| BitVec.ofNat 32 b = BitVec.ofNat 32 (a ||| b)
  apply BitVec.eq_of_getLsbD_eq
  intro i hi
  simp [hi]
theorem nI_and (a b : Nat) : nI a &&& nI b = nI (a &&& b) := by
  apply Int32.toBitVec_inj.1
  show BitVec.ofNat 32 a &&& BitVec.ofNat 32 b = BitVec.ofNat 32 (a &&& b)
  apply BitVec.eq_of_getLsbD_eq
  intro i hi
  simp [hi]
theorem nI_xor (a b : Nat) : nI a ^^^ nI b = nI (a ^^^ b) := by
  apply Int32.toBitVec_inj.1
  show BitVec.ofNat 32 a ^^^ BitVec.ofNat 32 b = BitVec.ofNat 32 (a ^^^ b)
  apply BitVec.eq_of_getLsbD_eq
  intro i hi
  simp [hi]
theorem nI_smod : ∀ n, n < 32 → ((nI n &&& 31).toBitVec.smod 32).toNat = n := by decide +kernel
theorem nI_shl (a : Nat) {k : Nat} (hk : k < 32) : nI a <<< (nI k &&& 31) = nI (a * 2 ^ k) := by
  apply Int32.toBitVec_inj.1
  rw [Int32.toBitVec_shiftLeft]
  show (BitVec.ofNat 32 a <<< ((nI k &&& 31).toBitVec.smod 32).toNat) = BitVec.ofNat 32 (a * 2 ^ k)
  rw [nI_smod k hk]
  apply BitVec.eq_of_toNat_eq
  simp [BitVec.toNat_shiftLeft, Nat.shiftLeft_eq]
theorem nI_shr {a : Nat} (ha : a < 2147483648) {k : Nat} (hk : k < 32) : nI a >>> (nI k &&& 31) = nI (a / 2 ^ k) := pk_shrN ha _ k (nI_smod k hk)
theorem nI_c : nI 1 = 1 := rfl
theorem nI_eq0 {a : Nat} (ha : a < 2147483648) : nI a = 0 ↔ a = 0 := by
  rw [← nI_0]; exact nI_eq ha (by decide)
theorem nI_lt0 {a : Nat} (ha : a < 2147483648) : nI a < 0 ↔ False := ⟨fun h => nI_pos ha h, False.elim⟩
theorem nI_ge0 {a : Nat} (ha : a < 2147483648) : 0 ≤ nI a ↔ True := ⟨fun _ => trivial, fun _ => nI_pos' ha⟩
theorem nI_gt0 {a : Nat} (ha : a < 2147483648) : 0 < nI a ↔ 0 < a := by
  rw [← nI_0]; exact nI_ltI (by decide) ha
theorem nI_le0 {a : Nat} (ha : a < 2147483648) : nI a ≤ 0 ↔ a = 0 := by
  rw [← nI_0, nI_leI ha (by decide)]; omega
theorem vp_narZ {v : Nat} (h : v ≤ 1) : vp_nar .boolean (nI v) = nI v := by
  rcases (show v = 0 ∨ v = 1 by omega) with rfl | rfl <;> rfl
def tab (j : Nat) : Nat := [1, 2, 2, 2, 2, 2, 2, 2, 2, 1, 3, 0].getD j 0
/-- what is known of the class's own statics and of its nest's links -/
def EX (tt : Nat) (A : Nat → Prop) (U : State) (H : Heap) : Prop := va_Nw (.methodLinkNest "CircuitDesk$Signals" 41 ⟨"CircuitDesk", "maskOf", "(I)I"⟩ "CircuitDesk") U ∧ va_Nw (.fieldLinkNest "CircuitDesk$Signals" 62 "CircuitDesk" "SIGNALS_OF_OP" "[I" "CircuitDesk") U ∧ va_Z "CircuitDesk" "SIGNALS_OF_OP" "[I" (.ref tt) A U H ∧ va_T .int tt 12 (fun j => .int (nI (tab j))) A U H
theorem EX.calls {tt : Nat} {A : Nat → Prop} {U : State} {H : Heap} (h : EX tt A U H) (g : JFrame) (mk : MethodId) (a : Array Value) : EX tt A (U.calling g mk a) H :=
  ⟨va_Nw.same rfl rfl h.1, va_Nw.same rfl rfl h.2.1, va_Z.moved (u := U) (U := U.calling g mk a) (Vm.Alike.refl U.vm) h.2.2.1, va_T.moved (u := U) (U := U.calling g mk a) (Vm.Alike.refl U.vm) h.2.2.2⟩
theorem EX.callee {tt : Nat} {A B : Nat → Prop} {s U : State} {H : Heap} {locs : List Loc} (h : EX tt A s s.heap) (hS : va_S A s.heap H locs) (hU : U.heap = H) (hW : s.WarmedH U.vm) (hF : ∀ q, B q → A q) : EX tt B U U.heap := by
  rw [hU]
  exact ⟨va_Nw.warmM hW h.1, va_Nw.warmF hW h.2.1, ((va_Z.moved hW.alike h.2.2.1).kept hS.2.1).narrow hF, ((va_T.moved hW.alike h.2.2.2).kept hS.2.1).narrow hF⟩
def PW (D : va_G) (cl : List vw_C) (tys : List (ClassId × FieldType)) (tt : Nat) (wc : va_W) (sz : Nat) : State → Prop := fun U => U.heap.size = sz ∧ va_P D cl wc U.heap ∧ va_K D cl tys U ∧ va_D (fun _ => True) wc ∧ EX tt (va_A wc sz) U U.heap
def AT {S : Type} (D : va_G) (cl : List vw_C) (tys : List (ClassId × FieldType)) (A : Nat → Prop) (wf : S → va_W) : S → State → Prop := fun u t => va_P D cl (wf u) t.heap ∧ va_K D cl tys t ∧ va_D A (wf u)
theorem pw_blind {D : va_G} {cl : List vw_C} {tys : List (ClassId × FieldType)} {wc : va_W} {tt sz : Nat} {av : List Value} : FrameBlind (va_Pc av (PW D cl tys tt wc sz)) := by
  intro a U g mk q
  obtain ⟨q0, q1, qP, qK, qD, qE⟩ := q
  exact ⟨q0, q1, qP, va_K.moved (u := U) (U := U.calling g mk a) (Vm.Alike.refl U.vm) qK, qD, qE.calls g mk a⟩
theorem k_at {ws w : va_W} {is : List Nat} (hs : is.map (fun i => ws[i]?) = w.map some) (k : Nat) (q : Nat × va_E) (hq : w[k]? = some q) : ∃ i, is[k]? = some i ∧ ws[i]? = some q := by
  have h1 : (is.map (fun i => ws[i]?))[k]? = some (some q) := by rw [hs, List.getElem?_map, hq]; rfl
  rw [List.getElem?_map] at h1
  cases hi : is[k]? with
  | none => rw [hi] at h1; cases h1
  | some i => rw [hi] at h1; exact ⟨i, rfl, Option.some.inj h1⟩
theorem k_subP {D : va_G} {cl : List vw_C} {ws w : va_W} {H : Heap} {is : List Nat} (h : va_P D cl ws H) (hs : is.map (fun i => ws[i]?) = w.map some) : va_P D cl w H := by
  intro k q hq
  obtain ⟨i, -, h2⟩ := k_at hs k q hq
  exact h i q h2
theorem k_preS {D : va_G} {cl : List vw_C} {tys : List (ClassId × FieldType)} {s : State} {H : Heap} {A0 : Nat → Prop} {ws wc : va_W} {As : List Value} {tt : Nat} {locs : List Loc} (hK : va_K D cl tys s) (hP : va_P D cl ws H) (hD : va_D A0 ws) (hS : va_S A0 s.heap H locs) (hA : ∀ q, s.heap.size ≤ q → A0 q) (hE : EX tt A0 s s.heap) (isC : List Nat) (hn : va_nd isC = true) (hC : isC.map (fun i => ws[i]?) = wc.map some) :
    PreS s H (va_Pc As (PW D cl tys tt wc H.size)) As := by
  refine ⟨pw_blind, fun U hU hW => ⟨rfl, by rw [hU], by rw [hU]; exact k_subP hP hC, va_K.moved hW.alike hK, (hD.sub isC hn hC).weaken (fun _ _ _ _ => trivial), hE.callee hS hU hW (va_free hD hS hA isC hC)⟩⟩
theorem k_preV {D : va_G} {cl : List vw_C} {tys : List (ClassId × FieldType)} {s : State} {H : Heap} {A0 : Nat → Prop} {ws wc : va_W} {As : List Value} {q : vw_C} {b : Nat} {fs : List Value} {tt : Nat} {locs : List Loc} (hK : va_K D cl tys s) (hP : va_P D cl ws H) (hD : va_D A0 ws) (hS : va_S A0 s.heap H locs) (hA : ∀ q, s.heap.size ≤ q → A0 q) (hE : EX tt A0 s s.heap) (isC : List Nat) (hn : va_nd isC = true) (hC : isC.map (fun i => ws[i]?) = wc.map some)
    (ci q0 : Nat) (hc : cl[ci]? = some q) (he : ws[q0]? = some (b, .inr (ci, fs))) :
    PreV s H q.1 b (va_Pc (.ref b :: As) (PW D cl tys tt wc H.size)) As := by
  refine ⟨pw_blind, va_recv hK hP hc he, fun U hU hW => ⟨rfl, by rw [hU], by rw [hU]; exact k_subP hP hC, va_K.moved hW.alike hK, (hD.sub isC hn hC).weaken (fun _ _ _ _ => trivial), hE.callee hS hU hW (va_free hD hS hA isC hC)⟩⟩
theorem k_narZ {v : Nat} (h : v ≤ 1) : narrow .boolean (.int (nI v)) = .int (nI v) := by
  rcases (show v = 0 ∨ v = 1 by omega) with rfl | rfl <;> rfl
theorem k_fitZ {v : Nat} (h : v ≤ 1) : fits .boolean (.int (nI v)) = true := by
  rcases (show v = 0 ∨ v = 1 by omega) with rfl | rfl <;> rfl
theorem k_max {a b : Nat} (ha : a < 2147483648) (hb : b < 2147483648) : (if nI a < nI b then nI b else nI a) = nI (max a b) := by
  by_cases h : a < b
  · rw [if_pos ((nI_ltI ha hb).mpr h), Nat.max_eq_right (by omega)]
  · rw [if_neg (fun q => h ((nI_ltI ha hb).mp q)), Nat.max_eq_left (by omega)]
theorem k_inc (a c : Nat) : nI a + Int32.ofInt (c : Int) = nI (a + c) := nI_add a c
theorem k_dec {a : Nat} (h : 1 ≤ a) : nI a + Int32.ofInt (-1) = nI (a - 1) := by
  obtain ⟨b, rfl⟩ : ∃ b, a = b + 1 := ⟨a - 1, by omega⟩
  exact pk_m1 b
section KH
variable {p : Program} {l : Launch} {e : Env} {R : Room} {s : State} {m : MethodId} {args : Array Value} {below : List Frame} {meth : Method} {c : Code} {H : Heap} {locs : List Loc} {cells slots : Nat} {Q : State → Prop}
variable {cc : ByteArray} {pc : Nat} {ls : Array Slot} {rest st0 : List Value} {D : va_G} {cl : List vw_C} {A : Nat → Prop} {a : Nat} {tys : List (ClassId × FieldType)} {ws : va_W} {H0 : Heap}
theorem k_top {x y : Int32} (h : x = y) (k : W p l e R s m args below meth c H locs cells slots Q (F0 m pc ls (.int y :: rest))) : W p l e R s m args below meth c H locs cells slots Q (F0 m pc ls (.int x :: rest)) := h ▸ k
theorem k_ild (hexec : p.tables.exec = Jvm.exec) (hb : c.code = cc) (hK : va_K D cl tys s) (hP : va_P D cl ws H) (q0 t0 : Nat) {cA : ClassId} {n : Nat} {F : Nat → Nat} (ha : ws[q0]? = some (a, .inl (cA, n, .inl (nF F)))) (ht : tys[t0]? = some (cA, .int)) {I : Nat} (hI : I < n) (hn : n < 2147483648) (hdg : decode cc pc = .ok (.iaload, 1))
    (kk : W p l e R s m args below meth c H locs cells slots Q (F0 m (pc + 1) ls (.int (nI (F I)) :: rest))) : W p l e R s m args below meth c H locs cells slots Q (F0 m pc ls (.int (nI I) :: .ref a :: rest)) := by
  refine va_iald hexec hb hK hP q0 t0 ha ht (vp_in_nI hI hn) hdg ?_
  rw [nI_clamp (show I < 2 ^ 31 by omega)]
  exact kk
theorem k_zld (hexec : p.tables.exec = Jvm.exec) (hb : c.code = cc) (hK : va_K D cl tys s) (hP : va_P D cl ws H) (q0 t0 : Nat) {cA : ClassId} {n : Nat} {F : Nat → Nat} (ha : ws[q0]? = some (a, .inl (cA, n, .inl (nF F)))) (ht : tys[t0]? = some (cA, .boolean)) {I : Nat} (hI : I < n) (hn : n < 2147483648) (hdg : decode cc pc = .ok (.baload, 1))
    (kk : W p l e R s m args below meth c H locs cells slots Q (F0 m (pc + 1) ls (.int (nI (F I)) :: rest))) : W p l e R s m args below meth c H locs cells slots Q (F0 m pc ls (.int (nI I) :: .ref a :: rest)) := by
  refine va_zald hexec hb hK hP q0 t0 ha ht (vp_in_nI hI hn) hdg ?_
  rw [nI_clamp (show I < 2 ^ 31 by omega)]
  exact kk
/-- a load from an array that isn't known by Nats -/
theorem k_rld (hexec : p.tables.exec = Jvm.exec) (hb : c.code = cc) (hK : va_K D cl tys s) (hP : va_P D cl ws H) (q0 t0 : Nat) {cA : ClassId} {n : Nat} {f : Nat → Int32} (ha : ws[q0]? = some (a, .inl (cA, n, .inl f))) (ht : tys[t0]? = some (cA, .int)) {I : Nat} (hI : I < n) (hn : n < 2147483648) (hdg : decode cc pc = .ok (.iaload, 1))
    (kk : W p l e R s m args below meth c H locs cells slots Q (F0 m (pc + 1) ls (.int (f I) :: rest))) : W p l e R s m args below meth c H locs cells slots Q (F0 m pc ls (.int (nI I) :: .ref a :: rest)) := by
  refine va_iald hexec hb hK hP q0 t0 ha ht (vp_in_nI hI hn) hdg ?_
  rw [nI_clamp (show I < 2 ^ 31 by omega)]
  exact kk
theorem k_ist (hexec : p.tables.exec = Jvm.exec) (hb : c.code = cc) (hK : va_K D cl tys s) (hP : va_P D cl ws H) (hD : va_D A ws) (hS : va_S A H0 H locs) (q0 t0 : Nat) {cA : ClassId} {n : Nat} {F : Nat → Nat} (ha : ws[q0]? = some (a, .inl (cA, n, .inl (nF F)))) (ht : tys[t0]? = some (cA, .int)) {I v : Nat} (hI : I < n) (hn : n < 2147483648) (hdg : decode cc pc = .ok (.iastore, 1))
    (kk : ∀ (H1 : Heap) (locs1 : List Loc), va_P D cl (ws.set q0 (a, .inl (cA, n, .inl (nF (upN F I v))))) H1 → va_D A (ws.set q0 (a, .inl (cA, n, .inl (nF (upN F I v))))) → va_S A H0 H1 locs1 → W p l e R s m args below meth c H1 locs1 cells slots Q (F0 m (pc + 1) ls rest)) : W p l e R s m args below meth c H locs cells slots Q (F0 m pc ls (.int (nI v) :: .int (nI I) :: .ref a :: rest)) := by
  refine va_iast hexec hb hK hP hD hS q0 t0 ha ht (vp_in_nI hI hn) hdg ?_
  rw [nI_clamp (show I < 2 ^ 31 by omega), nF_upd]
  exact kk
theorem k_rst (hexec : p.tables.exec = Jvm.exec) (hb : c.code = cc) (hK : va_K D cl tys s) (hP : va_P D cl ws H) (hD : va_D A ws) (hS : va_S A H0 H locs) (q0 t0 : Nat) {cA : ClassId} {n : Nat} {f : Nat → Int32} (ha : ws[q0]? = some (a, .inl (cA, n, .inl f))) (ht : tys[t0]? = some (cA, .int)) {I : Nat} {v : Int32} (hI : I < n) (hn : n < 2147483648) (hdg : decode cc pc = .ok (.iastore, 1))
    (kk : ∀ (H1 : Heap) (locs1 : List Loc), va_P D cl (ws.set q0 (a, .inl (cA, n, .inl (upd f I v)))) H1 → va_D A (ws.set q0 (a, .inl (cA, n, .inl (upd f I v)))) → va_S A H0 H1 locs1 → W p l e R s m args below meth c H1 locs1 cells slots Q (F0 m (pc + 1) ls rest)) : W p l e R s m args below meth c H locs cells slots Q (F0 m pc ls (.int v :: .int (nI I) :: .ref a :: rest)) := by
  refine va_iast hexec hb hK hP hD hS q0 t0 ha ht (vp_in_nI hI hn) hdg ?_
  rw [nI_clamp (show I < 2 ^ 31 by omega)]
  exact kk
theorem k_zst (hexec : p.tables.exec = Jvm.exec) (hb : c.code = cc) (hK : va_K D cl tys s) (hP : va_P D cl ws H) (hD : va_D A ws) (hS : va_S A H0 H locs) (q0 t0 : Nat) {cA : ClassId} {n : Nat} {F : Nat → Nat} (ha : ws[q0]? = some (a, .inl (cA, n, .inl (nF F)))) (ht : tys[t0]? = some (cA, .boolean)) {I v : Nat} (hI : I < n) (hn : n < 2147483648) (hv : v ≤ 1) (hdg : decode cc pc = .ok (.bastore, 1))
    (kk : ∀ (H1 : Heap) (locs1 : List Loc), va_P D cl (ws.set q0 (a, .inl (cA, n, .inl (nF (upN F I v))))) H1 → va_D A (ws.set q0 (a, .inl (cA, n, .inl (nF (upN F I v))))) → va_S A H0 H1 locs1 → W p l e R s m args below meth c H1 locs1 cells slots Q (F0 m (pc + 1) ls rest)) : W p l e R s m args below meth c H locs cells slots Q (F0 m pc ls (.int (nI v) :: .int (nI I) :: .ref a :: rest)) := by
  refine va_zast hexec hb hK hP hD hS q0 t0 ha ht (vp_in_nI hI hn) hdg ?_
  rw [nI_clamp (show I < 2 ^ 31 by omega), vp_narZ hv, nF_upd]
  exact kk
/-- behind a call with an int: the world in the caller's own order again -/
theorem k_i {S : Type} {post : Int32 → S → Prop} {wf w2 : S → va_W} {wc wr : va_W} {av : Array Value} {mc ms : Nat} (hr : va_Run p l e R s m args below meth c H locs cells slots mc ms (F0 m pc ls st0) rest (va_Qi post (AT D cl tys (va_A wc H.size) wf) (va_A wc H.size) av) (va_A wc H.size))
    (hP : va_P D cl ws H) (hD : va_D A ws) (hS : va_S A H0 H locs) (hA : ∀ q, H0.size ≤ q → A q) (isC isR is2 : List Nat) (hC : isC.map (fun i => ws[i]?) = wc.map some) (hR : isR.map (fun i => ws[i]?) = wr.map some) (hn : va_nd isR = true) (hdis : ∀ i ∈ isR, i ∉ isC) (hn2 : va_nd is2 = true) (h2 : ∀ u, is2.map (fun i => (wr ++ wf u)[i]?) = (w2 u).map some)
    (kk : ∀ (r : Int32) (u : S) (H1 : Heap) (locs1 : List Loc), post r u → va_P D cl (w2 u) H1 → va_D A (w2 u) → va_S A H0 H1 locs1 → W p l e R s m args below meth c H1 locs1 (cells + mc) (slots + ms) Q (F0 m (pc + 3) ls (.int r :: rest))) : W p l e R s m args below meth c H locs cells slots Q (F0 m pc ls st0) := by
  have hF := va_free (wc := wc) hD hS hA isC hC
  refine va_calli hr hS (fun q _ h => hF q h) hF (fun r u t H1 locs1 ht hvm hw hB hz hk hS1 => ?_)
  obtain ⟨hP1, hK1, hD1⟩ := hB
  rw [ht] at hP1
  obtain ⟨hP2, hD2⟩ := va_join (wr := wr) (w1 := wf u) hP hD isC isR hC hR hn hdis hk hF hP1 hD1
  exact kk r u H1 locs1 hw (k_subP hP2 (h2 u)) (hD2.sub is2 hn2 (h2 u)) hS1
theorem k_v {S : Type} {post : S → Prop} {wf w2 : S → va_W} {wc wr : va_W} {av : Array Value} {mc ms : Nat} (hr : va_Run p l e R s m args below meth c H locs cells slots mc ms (F0 m pc ls st0) rest (va_Qv post (AT D cl tys (va_A wc H.size) wf) (va_A wc H.size) av) (va_A wc H.size))
    (hP : va_P D cl ws H) (hD : va_D A ws) (hS : va_S A H0 H locs) (hA : ∀ q, H0.size ≤ q → A q) (isC isR is2 : List Nat) (hC : isC.map (fun i => ws[i]?) = wc.map some) (hR : isR.map (fun i => ws[i]?) = wr.map some) (hn : va_nd isR = true) (hdis : ∀ i ∈ isR, i ∉ isC) (hn2 : va_nd is2 = true) (h2 : ∀ u, is2.map (fun i => (wr ++ wf u)[i]?) = (w2 u).map some)
    (kk : ∀ (u : S) (H1 : Heap) (locs1 : List Loc), post u → va_P D cl (w2 u) H1 → va_D A (w2 u) → va_S A H0 H1 locs1 → W p l e R s m args below meth c H1 locs1 (cells + mc) (slots + ms) Q (F0 m (pc + 3) ls rest)) : W p l e R s m args below meth c H locs cells slots Q (F0 m pc ls st0) := by
  have hF := va_free (wc := wc) hD hS hA isC hC
  refine va_callv hr hS (fun q _ h => hF q h) hF (fun u t H1 locs1 ht hvm hw hB hz hk hS1 => ?_)
  obtain ⟨hP1, hK1, hD1⟩ := hB
  rw [ht] at hP1
  obtain ⟨hP2, hD2⟩ := va_join (wr := wr) (w1 := wf u) hP hD isC isR hC hR hn hdis hk hF hP1 hD1
  exact kk u H1 locs1 hw (k_subP hP2 (h2 u)) (hD2.sub is2 hn2 (h2 u)) hS1
/-- a loop: an invariant, a measure that falls -/
theorem k_loop {σ : Type} {nL : Nat} {st : List Value} (wsF : σ → va_W) (lvF : σ → List (Nat × Value)) (I : σ → Prop) (μ : σ → Nat)
    (step : ∀ x : σ, I x → (∀ y : σ, I y → μ y < μ x → ∀ (H : Heap) (locs : List Loc) (ls : Array Slot), va_P D cl (wsF y) H → va_D A (wsF y) → va_S A H0 H locs → lv_has ls nL (lvF y) → W p l e R s m args below meth c H locs cells slots Q (F0 m pc ls st)) →
      ∀ (H : Heap) (locs : List Loc) (ls : Array Slot), va_P D cl (wsF x) H → va_D A (wsF x) → va_S A H0 H locs → lv_has ls nL (lvF x) → W p l e R s m args below meth c H locs cells slots Q (F0 m pc ls st))
    (x0 : σ) (hI : I x0) (hP : va_P D cl (wsF x0) H) (hD : va_D A (wsF x0)) (hS : va_S A H0 H locs) (hl : lv_has ls nL (lvF x0)) : W p l e R s m args below meth c H locs cells slots Q (F0 m pc ls st) := by
  have key : ∀ (n : Nat) (x : σ), μ x < n → I x → ∀ (H : Heap) (locs : List Loc) (ls : Array Slot), va_P D cl (wsF x) H → va_D A (wsF x) → va_S A H0 H locs → lv_has ls nL (lvF x) → W p l e R s m args below meth c H locs cells slots Q (F0 m pc ls st) := by
    intro n
    induction n with
    | zero => intro x h; omega
    | succ n ih =>
      intro x hx hIx
      exact step x hIx (fun y hy hm => ih y (by omega) hy)
  exact key (μ x0 + 1) x0 (by omega) hI H locs ls hP hD hS hl
theorem k_tabIn (hexec : p.tables.exec = Jvm.exec) (hb : c.code = cc) {dflt hi : Int} {offs : Array Int} {len X k : Nat} {off : Int} {tgt : Nat} (hdg : decode cc pc = .ok (.tableswitch dflt 0 hi offs, len)) (ek : X = k) (hk : k < 2147483648) (hh : (k : Int) ≤ hi) (ho : offs[k]? = some off) (ht : (pc : Int) + off = (tgt : Int))
    (kk : W p l e R s m args below meth c H locs cells slots Q (F0 m tgt ls rest)) : W p l e R s m args below meth c H locs cells slots Q (F0 m pc ls (.int (nI X) :: rest)) := by
  subst ek
  have hz : (nI X).toInt = (X : Int) := nI_toInt (show X < 2 ^ 31 by omega)
  exact lv_tableIn hexec hb hdg (by rw [hz]; omega) (by rw [hz]; omega) (by rw [hz]; simpa using ho) ht kk
theorem k_tabOut (hexec : p.tables.exec = Jvm.exec) (hb : c.code = cc) {dflt hi : Int} {offs : Array Int} {len X k : Nat} {tgt : Nat} (hdg : decode cc pc = .ok (.tableswitch dflt 0 hi offs, len)) (ek : k < X) (hX : X < 2147483648) (hh : hi = (k : Int)) (ht : (pc : Int) + dflt = (tgt : Int))
    (kk : W p l e R s m args below meth c H locs cells slots Q (F0 m tgt ls rest)) : W p l e R s m args below meth c H locs cells slots Q (F0 m pc ls (.int (nI X) :: rest)) := by
  have hz : (nI X).toInt = (X : Int) := nI_toInt (show X < 2 ^ 31 by omega)
  exact lv_tableOut hexec hb hdg (Or.inr (by rw [hz, hh]; omega)) ht kk
end KH
