/-! what the calls take and refuse -/
def sgOK (x w y : Int32) : Prop := 0 ≤ x.toInt ∧ x.toInt ≤ 2 ∧ 1 ≤ w.toInt ∧ w.toInt ≤ 8 ∧ (x.toInt = 2 → 0 ≤ y.toInt ∧ y.toInt ≤ 255)
/-- the WIDTH of the NODE that is asked for, 0 if an ARGUMENT is not there or does not fit -/
def nwd (n : Nat) (Wd : Nat → Nat) (o x y z : Int32) : Nat :=
  if 0 ≤ o.toInt ∧ o.toInt ≤ 11 ∧ (tab (ix o) < 1 ∨ hs n x = 1) ∧ (tab (ix o) < 2 ∨ hs n y = 1) ∧ (tab (ix o) < 3 ∨ hs n z = 1) then wdo Wd (ix o) x y z else 0
theorem nwd_0 {n : Nat} {Wd : Nat → Nat} {o x y z : Int32} (h : ¬ (0 ≤ o.toInt ∧ o.toInt ≤ 11 ∧ (tab (ix o) < 1 ∨ hs n x = 1) ∧ (tab (ix o) < 2 ∨ hs n y = 1) ∧ (tab (ix o) < 3 ∨ hs n z = 1))) : nwd n Wd o x y z = 0 := if_neg h
theorem nwd_1 {n : Nat} {Wd : Nat → Nat} {o x y z : Int32} (h : 0 ≤ o.toInt ∧ o.toInt ≤ 11 ∧ (tab (ix o) < 1 ∨ hs n x = 1) ∧ (tab (ix o) < 2 ∨ hs n y = 1) ∧ (tab (ix o) < 3 ∨ hs n z = 1)) : nwd n Wd o x y z = wdo Wd (ix o) x y z := if_pos h
theorem wdo_le {Wd : Nat → Nat} (h : ∀ j, Wd j < 9) (o : Nat) (x y z : Int32) : wdo Wd o x y z < 100 := by
  have h1 := h (ix x)
  have h2 := h (ix y)
  have h3 := h (ix z)
  have h4 : z.toInt ≤ 8 → 1 ≤ z.toInt → ix z ≤ 8 := fun a b => by
    obtain ⟨Z, e, e2, e3⟩ := raw_nat (x := z) (by omega)
    rw [ix_of e e3]; omega
  have h5 : y.toInt ≤ 8 → 1 ≤ y.toInt → ix y ≤ 8 := fun a b => by
    obtain ⟨Z, e, e2, e3⟩ := raw_nat (x := y) (by omega)
    rw [ix_of e e3]; omega
  unfold wdo
  repeat' split
  all_goals first | omega | (have := h4 (by omega) (by omega); omega) | (have := h5 (by omega) (by omega); omega)
