def stOK (q x y : Int32) (n : Nat) (Kd Wd : Nat → Nat) : Prop := (q.toInt = 0 ∧ hs n x = 1 ∧ (Kd (ix x) = 1 ∨ Kd (ix x) = 2) ∧ hs n y = 1) ∨ (q.toInt = 1 ∧ hs n x = 1 ∧ Wd (ix x) = 1) ∨ q.toInt = 2 ∨ q.toInt = 3
def stN (q : Int32) (ow : Nat) (Es : Nat → Nat) : Prop := (q.toInt = 2 ∧ (ow = 0 ∨ ¬ Es (ow - 1) = 0)) ∨ (q.toInt = 3 ∧ ow = 0)
def stF (q : Int32) (ms ow : Nat) : Prop := ms = 20 ∨ (q.toInt = 1 ∧ ow = 4)
theorem ix_ti {x : Int32} {k : Nat} (h : x.toInt = (k : Int)) : ix x = k := by
  obtain ⟨X, e, e2, e3⟩ := raw_nat (x := x) (by omega)
  rw [ix_of e e3]
  omega
/-- the words that an INPUT or REGISTER starts with -/
def swV (V Kd Rw : Nat → Nat) : Nat → Nat → Nat
  | 0 => V
  | i + 1 => if Kd i = 2 then putW (swV V Kd Rw i) i (Rw i) 8 else if Kd i = 0 then putW (swV V Kd Rw i) i 0 8 else swV V Kd Rw i
theorem swV_2 {V Kd Rw : Nat → Nat} {i : Nat} (h : Kd i = 2) : swV V Kd Rw (i + 1) = putW (swV V Kd Rw i) i (Rw i) 8 := by
  conv => lhs; unfold swV
  rw [if_pos h]
theorem swV_0 {V Kd Rw : Nat → Nat} {i : Nat} (h : Kd i = 0) : swV V Kd Rw (i + 1) = putW (swV V Kd Rw i) i 0 8 := by
  conv => lhs; unfold swV
  rw [if_neg (by omega), if_pos h]
theorem swV_n {V Kd Rw : Nat → Nat} {i : Nat} (h : ¬ Kd i = 2) (h0 : ¬ Kd i = 0) : swV V Kd Rw (i + 1) = swV V Kd Rw i := by
  conv => lhs; unfold swV
  rw [if_neg h, if_neg h0]
/-- REGISTERS get new words -/
def swW (V Kd f : Nat → Nat) : Nat → Nat → Nat
  | 0 => V
  | i + 1 => if Kd i = 2 then putW (swW V Kd f i) i (f i) 8 else swW V Kd f i
theorem swW_2 {V Kd f : Nat → Nat} {i : Nat} (h : Kd i = 2) : swW V Kd f (i + 1) = putW (swW V Kd f i) i (f i) 8 := by
  conv => lhs; unfold swW
  rw [if_pos h]
theorem swW_n {V Kd f : Nat → Nat} {i : Nat} (h : ¬ Kd i = 2) : swW V Kd f (i + 1) = swW V Kd f i := by
  conv => lhs; unfold swW
  rw [if_neg h]
theorem putW_lt {V : Nat → Nat} {S w b : Nat} (h : ∀ j, V j < 2) : ∀ j, putW V S w b j < 2 := by
  intro j
  unfold putW
  split
  · exact Nat.mod_lt _ (by decide)
  · exact h j
