/-! the row of STATEMENTS: levels, what is open, what is SURE, what each SIGNAL RESTS ON -/
/-- in how many WHENS statement k lies -/
def dp (So : Nat → Nat) : Nat → Nat
  | 0 => 0
  | k + 1 => if So k = 1 then dp So k + 1 else if So k = 3 then dp So k - 1 else dp So k
/-- whether the WHEN that is open at level d has had its ELSE ahead of k -/
def es (So : Nat → Nat) : Nat → Nat → Nat
  | 0, _ => 0
  | k + 1, d => if So k = 1 ∧ d = dp So k + 1 then 0 else if So k = 2 ∧ d = dp So k then 1 else es So k d
/-- a row that state lets be -/
def LG (So : Nat → Nat) (ms : Nat) : Prop := ∀ k, k < ms → (So k = 1 → dp So k < 4) ∧ (So k = 3 → 0 < dp So k) ∧ (So k = 2 → 0 < dp So k ∧ es So k (dp So k) = 0)
theorem dp_le {So : Nat → Nat} {ms : Nat} (h : LG So ms) : ∀ k, k ≤ ms → dp So k ≤ 4
  | 0, _ => by unfold dp; omega
  | k + 1, hk => by
    have i := dp_le h k (by omega)
    have g := h k (by omega)
    unfold dp
    split
    · have := g.1 (by assumption)
      omega
    · split <;> omega
/-- sets of SIGNALS that are SURE in the part at level d, and in its first part -/
def mPF (So Su : Nat → Nat) : Nat → Nat → Nat × Nat
  | 0, _ => (0, 0)
  | k + 1, d =>
    if So k = 0 then (if d = dp So k then ((mPF So Su k d).1 ||| 2 ^ Su k, (mPF So Su k d).2) else mPF So Su k d)
    else if So k = 1 then (if d = dp So k + 1 then (0, 0) else mPF So Su k d)
    else if So k = 2 then (if d = dp So k then (0, (mPF So Su k d).1) else mPF So Su k d)
    else (if d + 1 = dp So k then ((mPF So Su k d).1 ||| ((mPF So Su k (d + 1)).2 &&& (mPF So Su k (d + 1)).1), (mPF So Su k d).2) else mPF So Su k d)
/-- the conditions of all WHENS open up to level d -/
def arM (So Su : Nat → Nat) : Nat → Nat → Nat
  | 0, _ => 0
  | k + 1, d => if So k = 1 ∧ d = dp So k + 1 then arM So Su k (dp So k) ||| 2 ^ Su k else arM So Su k d
def raM (B Kd So Su Sr : Nat → Nat) : Nat → Nat → Nat
  | 0, s => B s
  | k + 1, s => if So k = 0 ∧ Kd (Su k) = 1 ∧ s = Su k then raM B Kd So Su Sr k s ||| (arM So Su k (dp So k) ||| 2 ^ Sr k) else raM B Kd So Su Sr k s
def raB (Kd Op : Nat → Nat) (Aa Ab Ac : Nat → Int32) (s : Nat) : Nat := if Kd s = 3 then amk (tab (Op s)) (ix (Aa s)) (ix (Ab s)) (ix (Ac s)) else 0
/-- closing: one step through t for the first s rows; through the first t -/
def wI (t : Nat) (R : Nat → Nat) : Nat → Nat → Nat
  | 0 => R
  | s + 1 => if wI t R s s / 2 ^ t % 2 = 1 then upN (wI t R s) s (wI t R s s ||| wI t R s t) else wI t R s
def wO (n : Nat) (R : Nat → Nat) : Nat → Nat → Nat
  | 0 => R
  | t + 1 => wI t (wO n R t) n
/-- the least one with Q, or NONE -/
def Lst (Q : Nat → Prop) (n : Nat) (r : Int32) : Prop := (r = -2 ∧ ∀ z, z < n → ¬ Q z) ∨ ∃ z, z < n ∧ r = nI z ∧ Q z ∧ ∀ y, y < z → ¬ Q y
theorem or14 {a b : Nat} (ha : a < 16384) (hb : b < 16384) : a ||| b < 16384 := Nat.or_lt_two_pow (n := 14) ha hb
theorem an14 {a : Nat} (b : Nat) (ha : a < 16384) : a &&& b < 16384 := Nat.lt_of_le_of_lt Nat.and_le_left ha
theorem p14 {x : Nat} (h : x < 14) : 2 ^ x < 16384 := Nat.pow_lt_pow_right (by decide) h
theorem p14' {x : Nat} (h : x < 14) : 1 * 2 ^ x < 16384 := by rw [Nat.one_mul]; exact p14 h
def cpN (F G : Nat → Nat) (sp q n : Nat) : Nat → Nat := fun k => if q ≤ k ∧ k < q + n then F (sp + (k - q)) else G k
theorem cpN_nF (F G : Nat → Nat) (sp q n : Nat) : va_cpy (nF F) (nF G) sp q n = nF (cpN F G sp q n) := by
  funext k
  unfold va_cpy nF cpN
  split <;> rfl
theorem cpN_lt {F G : Nat → Nat} {B sp q n : Nat} (hF : ∀ j, F j < B) (hG : ∀ j, G j < B) : ∀ j, cpN F G sp q n j < B := by
  intro j
  unfold cpN
  split
  · exact hF _
  · exact hG _
section KC
variable {p : Program} {l : Launch} {e : Env} {R : Room} {s : State} {m : MethodId} {args : Array Value} {below : List Frame} {meth : Method} {c : Code} {H : Heap} {locs : List Loc} {cells slots : Nat} {Q : State → Prop}
variable {cc : ByteArray} {pc : Nat} {ls : Array Slot} {rest : List Value} {D : va_G} {cl : List vw_C} {A : Nat → Prop} {a : Nat} {tys : List (ClassId × FieldType)} {ws : va_W} {H0 : Heap}
theorem k_copy (hexec : p.tables.exec = Jvm.exec) (hb : c.code = cc) (hml : c.maxLocals = ls.size) {own : String} {index : Nat} (hown : s.vm.findClass own = some m.cls) (hlink : (Cond.methodLink own index arraycopyName).before args s = true) (hnat : (Cond.native arraycopyName).before args s = true) (hstat : (Cond.static arraycopyName).before args s = true) (hini : (Cond.initialized "java/lang/System").before args s = true)
    (hK : va_K D cl tys s) (hP : va_P D cl ws H) (hD : va_D A ws) (hS : va_S A H0 H locs) (q0 q1 t0 : Nat) {a0 : Nat} {cA : ClassId} {n0 n1 : Nat} {F G : Nat → Nat} (ha0 : ws[q0]? = some (a0, .inl (cA, n0, .inl (nF F)))) (ha1 : ws[q1]? = some (a, .inl (cA, n1, .inl (nF G)))) (ht0 : tys[t0]? = some (cA, .int))
    {sp q n : Nat} (h1 : sp < 2147483648) (h2 : q < 2147483648) (h3 : n < 2147483648) (h4 : sp + n ≤ n0) (h5 : q + n ≤ n1)
    (hframes : 1 ≤ R.frames) (hlocals : (rest.map fun v => v.category).sum + (nativeFrameWords "java/lang/System" "arraycopy" 5 + 11) ≤ R.locals) (hdg : decode cc pc = .ok (.invokestatic index, 3))
    (kk : ∀ (H1 : Heap) (locs1 : List Loc), va_P D cl (ws.set q1 (a, .inl (cA, n1, .inl (nF (cpN F G sp q n))))) H1 → va_D A (ws.set q1 (a, .inl (cA, n1, .inl (nF (cpN F G sp q n))))) → va_S A H0 H1 locs1 → W p l e R s m args below meth c H1 locs1 cells slots Q (F0 m (pc + 3) ls rest)) : W p l e R s m args below meth c H locs cells slots Q (F0 m pc ls (.int (nI n) :: .int (nI q) :: .ref a :: .int (nI sp) :: .ref a0 :: rest)) := by
  refine va_copyi hexec hb hml hown hlink hnat hstat hini hK hP hD hS q0 q1 t0 t0 ha0 ha1 ht0 ht0 rfl (nI_pos h1) (nI_pos h2) (nI_pos h3) (by rw [nI_clamp h1, nI_clamp h3]; exact h4) (by rw [nI_clamp h2, nI_clamp h3]; exact h5) (fun i _ => rfl) hframes hlocals hdg ?_
  rw [nI_clamp h1, nI_clamp h2, nI_clamp h3, cpN_nF]
  exact kk
end KC
theorem dp_o {So : Nat → Nat} {k : Nat} (h1 : ¬ So k = 1) (h3 : ¬ So k = 3) : dp So (k + 1) = dp So k := by
  show (if So k = 1 then dp So k + 1 else if So k = 3 then dp So k - 1 else dp So k) = _
  rw [if_neg h1, if_neg h3]
theorem dp_w {So : Nat → Nat} {k : Nat} (h1 : So k = 1) : dp So (k + 1) = dp So k + 1 := by
  show (if So k = 1 then dp So k + 1 else if So k = 3 then dp So k - 1 else dp So k) = _
  rw [if_pos h1]
theorem dp_e {So : Nat → Nat} {k : Nat} (h3 : So k = 3) : dp So (k + 1) = dp So k - 1 := by
  show (if So k = 1 then dp So k + 1 else if So k = 3 then dp So k - 1 else dp So k) = _
  rw [if_neg (by omega), if_pos h3]
section MS
variable {So Su S1 F1 : Nat → Nat} {k d : Nat}
def MI (So Su S1 F1 : Nat → Nat) (k : Nat) : Prop := ∀ z, z ≤ dp So k → S1 z = (mPF So Su k z).1 ∧ (0 < z → F1 z = (mPF So Su k z).2)
theorem mPF_0 (h : So k = 0) (z : Nat) : mPF So Su (k + 1) z = (if z = dp So k then ((mPF So Su k z).1 ||| 2 ^ Su k, (mPF So Su k z).2) else mPF So Su k z) := by
  conv => lhs; unfold mPF
  rw [if_pos h]
theorem mPF_1 (h : So k = 1) (z : Nat) : mPF So Su (k + 1) z = (if z = dp So k + 1 then (0, 0) else mPF So Su k z) := by
  conv => lhs; unfold mPF
  rw [if_neg (by omega), if_pos h]
theorem mPF_2 (h : So k = 2) (z : Nat) : mPF So Su (k + 1) z = (if z = dp So k then (0, (mPF So Su k z).1) else mPF So Su k z) := by
  conv => lhs; unfold mPF
  rw [if_neg (by omega), if_neg (by omega), if_pos h]
theorem mPF_3 (h : ¬ So k = 0 ∧ ¬ So k = 1 ∧ ¬ So k = 2) (z : Nat) : mPF So Su (k + 1) z = (if z + 1 = dp So k then ((mPF So Su k z).1 ||| ((mPF So Su k (z + 1)).2 &&& (mPF So Su k (z + 1)).1), (mPF So Su k z).2) else mPF So Su k z) := by
  conv => lhs; unfold mPF
  rw [if_neg h.1, if_neg h.2.1, if_neg h.2.2]
theorem mS_0 (hs : MI So Su S1 F1 k) (hd : d = dp So k) (h : So k = 0) : MI So Su (upN S1 d (S1 d ||| 1 * 2 ^ Su k)) F1 (k + 1) := by
  intro z hz
  rw [dp_o (by omega) (by omega)] at hz
  rw [mPF_0 h, Nat.one_mul]
  by_cases e : z = dp So k
  · rw [if_pos e, e, ← hd, upN_self]
    have := hs d (by omega)
    exact ⟨by rw [this.1], this.2⟩
  · rw [if_neg e, upN_ne _ _ (by omega)]
    exact hs z hz
theorem mS_1 (hs : MI So Su S1 F1 k) (hd : d = dp So k) (h : So k = 1) : MI So Su (upN S1 (d + 1) 0) (upN F1 (d + 1) 0) (k + 1) := by
  intro z hz
  rw [dp_w h] at hz
  rw [mPF_1 h]
  by_cases e : z = dp So k + 1
  · rw [if_pos e, e, ← hd, upN_self, upN_self]
    exact ⟨rfl, fun _ => rfl⟩
  · rw [if_neg e, upN_ne _ _ (by omega), upN_ne _ _ (by omega)]
    exact hs z (by omega)
theorem mS_2 (hs : MI So Su S1 F1 k) (hd : d = dp So k) (h : So k = 2) : MI So Su (upN S1 d 0) (upN F1 d (S1 d)) (k + 1) := by
  intro z hz
  rw [dp_o (by omega) (by omega)] at hz
  rw [mPF_2 h]
  by_cases e : z = dp So k
  · rw [if_pos e, e, ← hd, upN_self, upN_self]
    have := hs d (by omega)
    exact ⟨rfl, fun _ => this.1⟩
  · rw [if_neg e, upN_ne _ _ (by omega), upN_ne _ _ (by omega)]
    exact hs z hz
theorem mS_3 (hs : MI So Su S1 F1 k) (hd : d = dp So k) (h : So k = 3) (h0 : 0 < dp So k) : MI So Su (upN S1 (d - 1) (S1 (d - 1) ||| (F1 (d - 1 + 1) &&& S1 (d - 1 + 1)))) F1 (k + 1) := by
  intro z hz
  rw [dp_e h] at hz
  rw [mPF_3 (by omega)]
  by_cases e : z + 1 = dp So k
  · have ez : z = d - 1 := by omega
    have a1 := hs (d - 1) (by omega)
    have a2 := hs (d - 1 + 1) (by omega)
    rw [if_pos e, ez, upN_self]
    exact ⟨by rw [a1.1, a2.1, a2.2 (by omega)], fun q => by rw [a1.2 q]⟩
  · rw [if_neg e, upN_ne _ _ (by omega)]
    exact hs z (by omega)
end MS
theorem amk_lt {t x y z : Nat} (hx : 1 ≤ t → x < 14) (hy : 2 ≤ t → y < 14) (hz : 3 ≤ t → z < 14) : amk t x y z < 16384 := by
  unfold amk
  refine or14 ?_ (or14 ?_ ?_)
  · split
    · decide
    · exact p14 (hx (by omega))
  · split
    · decide
    · exact p14 (hy (by omega))
  · split
    · decide
    · exact p14 (hz (by omega))
theorem ix_lt {x : Int32} (h : ∃ X, X < 14 ∧ x = nI X) : ix x < 14 := by
  obtain ⟨X, h1, h2⟩ := h
  rw [ix_of h2 (by omega)]
  exact h1
section AS
variable {So Su A2 : Nat → Nat} {k d : Nat}
theorem arM_1 (h : So k = 1) (z : Nat) : arM So Su (k + 1) z = if z = dp So k + 1 then arM So Su k (dp So k) ||| 2 ^ Su k else arM So Su k z := by
  conv => lhs; unfold arM
  by_cases e : z = dp So k + 1
  · rw [if_pos ⟨h, e⟩, if_pos e]
  · rw [if_neg (fun q => e q.2), if_neg e]
theorem arM_n (h : ¬ So k = 1) (z : Nat) : arM So Su (k + 1) z = arM So Su k z := by
  conv => lhs; unfold arM
  rw [if_neg (fun q => h q.1)]
theorem aS_1 (hA : ∀ z, z ≤ dp So k → A2 z = arM So Su k z) (hd : d = dp So k) (h : So k = 1) : ∀ z, z ≤ dp So (k + 1) → upN A2 (d + 1) (A2 (d + 1 - 1) ||| 1 * 2 ^ Su k) z = arM So Su (k + 1) z := by
  intro z hz
  rw [dp_w h] at hz
  rw [arM_1 h, Nat.one_mul]
  by_cases e : z = dp So k + 1
  · rw [if_pos e, e, ← hd, upN_self, hA _ (by omega), show d + 1 - 1 = d by omega]
  · rw [if_neg e, upN_ne _ _ (by omega)]
    exact hA z (by omega)
theorem aS_3 (hA : ∀ z, z ≤ dp So k → A2 z = arM So Su k z) (h : So k = 3) : ∀ z, z ≤ dp So (k + 1) → A2 z = arM So Su (k + 1) z := by
  intro z hz
  rw [dp_e h] at hz
  rw [arM_n (by omega)]
  exact hA z (by omega)
theorem aS_0 (hA : ∀ z, z ≤ dp So k → A2 z = arM So Su k z) (h1 : ¬ So k = 1) (h3 : ¬ So k = 3) : ∀ z, z ≤ dp So (k + 1) → A2 z = arM So Su (k + 1) z := by
  intro z hz
  rw [dp_o h1 h3] at hz
  rw [arM_n h1]
  exact hA z hz
theorem rS_n {B Kd Sr R2 : Nat → Nat} {n : Nat} (hR : ∀ z, z < n → R2 z = raM B Kd So Su Sr k z) (h : ¬ (So k = 0 ∧ Kd (Su k) = 1)) : ∀ z, z < n → R2 z = raM B Kd So Su Sr (k + 1) z := by
  intro z hz
  conv => rhs; unfold raM
  rw [if_neg (fun q => h ⟨q.1, q.2.1⟩)]
  exact hR z hz
theorem rS_y {B Kd Sr R2 : Nat → Nat} {n : Nat} (hR : ∀ z, z < n → R2 z = raM B Kd So Su Sr k z) (h0 : So k = 0) (h1 : Kd (Su k) = 1) (hA : A2 d = arM So Su k d) (hd : d = dp So k) : ∀ z, z < n → upN R2 (Su k) (R2 (Su k) ||| (A2 d ||| 1 * 2 ^ Sr k)) z = raM B Kd So Su Sr (k + 1) z := by
  intro z hz
  conv => rhs; unfold raM
  by_cases e : z = Su k
  · rw [if_pos ⟨h0, h1, e⟩, e, upN_self, hA, hd, Nat.one_mul, hR _ (by omega)]
  · rw [if_neg (fun q => e q.2.2), upN_ne _ _ e]
    exact hR z hz
end AS
