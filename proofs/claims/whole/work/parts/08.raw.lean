/-! ints that aren't known to be small -/
theorem ri_lt {x y : Int32} {a b : Int} (hx : x.toInt = a) (hy : y.toInt = b) : x < y ↔ a < b := by
  rw [Int32.lt_iff_toInt_lt, hx, hy]
theorem ri_le {x y : Int32} {a b : Int} (hx : x.toInt = a) (hy : y.toInt = b) : x ≤ y ↔ a ≤ b := by
  rw [Int32.le_iff_toInt_le, hx, hy]
theorem ri_eq {x y : Int32} {a b : Int} (hx : x.toInt = a) (hy : y.toInt = b) : x = y ↔ a = b := by
  rw [← Int32.toInt_inj, hx, hy]
theorem raw_nat {x : Int32} (h : 0 ≤ x.toInt) : ∃ X : Nat, x = nI X ∧ (X : Int) = x.toInt ∧ X < 2147483648 := by
  obtain ⟨j, h1, h2⟩ := nI_of (x := x) (fun q => by
    have := (ri_lt (x := x) (y := 0) rfl rfl).mp q
    have e : (0 : Int32).toInt = 0 := rfl
    omega)
  refine ⟨j, h2, ?_, h1⟩
  rw [h2, nI_toInt h1]
theorem nI_ti {n : Nat} (h : n < 2147483648) : (nI n).toInt = (n : Int) := nI_toInt h
theorem tab_le (o : Nat) : tab o ≤ 3 := by
  unfold tab
  match o with
  | 0 | 1 | 2 | 3 | 4 | 5 | 6 | 7 | 8 | 9 | 10 | 11 => decide
  | n + 12 => simp
def ix (x : Int32) : Nat := x.toNatClampNeg
theorem ix_nI {n : Nat} (h : n < 2147483648) : ix (nI n) = n := nI_clamp h
/-- 1 if x is the number of one of n things -/
def hs (n : Nat) (x : Int32) : Nat := if 0 ≤ x.toInt ∧ x.toInt < n then 1 else 0
theorem hs_of {n : Nat} {x : Int32} (h : ¬ hs n x = 0) : ∃ X : Nat, x = nI X ∧ X < n ∧ X < 2147483648 := by
  unfold hs at h
  split at h
  · next c =>
    obtain ⟨X, h1, h2, h3⟩ := raw_nat c.1
    exact ⟨X, h1, by omega, h3⟩
  · exact absurd rfl h
theorem hs_nI {n X : Nat} (h : X < n) (hX : X < 2147483648) : hs n (nI X) = 1 := by
  unfold hs
  rw [nI_ti hX, if_pos (by omega)]
theorem hs_le (n : Nat) (x : Int32) : hs n x ≤ 1 := by
  unfold hs
  split <;> omega
/-- the lowest w bits -/
def lowb (x : Int32) (w : Nat) : Nat := x.toBitVec.toNat % 2 ^ w
theorem lowb_lt (x : Int32) (w : Nat) : lowb x w < 2 ^ w := Nat.mod_lt _ (Nat.two_pow_pos w)
theorem lowb_row (x : Int32) {w : Nat} (h : w ≤ 8) : x &&& nI (2 ^ w - 1) = nI (lowb x w) := by
  refine pk_and x w ?_
  have := pow8 h
  exact pk_tn (by omega)
/-- the WIDTH that a NODE would have, of SIGNALS that are there; 0 where its numbers do not fit -/
def wdo (Wd : Nat → Nat) (o : Nat) (x y z : Int32) : Nat :=
  if o = 0 then Wd (ix x) else if o = 1 ∨ o = 2 ∨ o = 3 ∨ o = 5 then max (Wd (ix x)) (Wd (ix y)) else if o = 4 then max (Wd (ix x)) (Wd (ix y)) + 1
  else if o = 6 ∨ o = 7 then 1 else if o = 8 then Wd (ix x) + Wd (ix y)
  else if o = 9 then (if 0 ≤ y.toInt ∧ 1 ≤ z.toInt ∧ y.toInt ≤ 8 ∧ z.toInt ≤ 8 ∧ y.toInt + z.toInt ≤ Wd (ix x) then ix z else 0)
  else if o = 10 then (if Wd (ix x) = 1 then max (Wd (ix y)) (Wd (ix z)) else 0)
  else if o = 11 then (if 1 ≤ y.toInt ∧ y.toInt ≤ 8 ∧ 0 ≤ x.toInt ∧ x.toInt < ((2 ^ ix y : Nat) : Int) then ix y else 0) else 0
/-- the set of the first t of three, as bits -/
def amk (t x y z : Nat) : Nat := (if t < 1 then 0 else 2 ^ x) ||| ((if t < 2 then 0 else 2 ^ y) ||| (if t < 3 then 0 else 2 ^ z))
theorem ix_of {x : Int32} {X : Nat} (h : x = nI X) (hX : X < 2147483648) : ix x = X := by rw [h, ix_nI hX]
