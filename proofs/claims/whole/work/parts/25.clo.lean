theorem wI_y {t k : Nat} {R : Nat → Nat} (h : wI t R k k / 2 ^ t % 2 = 1) : wI t R (k + 1) = upN (wI t R k) k (wI t R k k ||| wI t R k t) := by
  conv => lhs; unfold wI
  rw [if_pos h]
theorem wI_n {t k : Nat} {R : Nat → Nat} (h : ¬ wI t R k k / 2 ^ t % 2 = 1) : wI t R (k + 1) = wI t R k := by
  conv => lhs; unfold wI
  rw [if_neg h]
