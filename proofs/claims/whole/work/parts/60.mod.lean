/-! the reference: numbers -/
def inr (v lo hi : Int) : Nat := if lo ≤ v ∧ v ≤ hi then 1 else 0
theorem inr_le (v lo hi : Int) : inr v lo hi ≤ 1 := by
  unfold inr
  split <;> omega
theorem inr_1 {v lo hi : Int} (h : ¬ inr v lo hi = 0) : lo ≤ v ∧ v ≤ hi := Classical.byContradiction (fun q => h (if_neg q))
theorem inr_0 {v lo hi : Int} (h : inr v lo hi = 0) : ¬ (lo ≤ v ∧ v ≤ hi) := fun q => by
  unfold inr at h
  rw [if_pos q] at h
  omega
theorem upN_upN (F : Nat → Nat) (k a b : Nat) : upN (upN F k a) k b = upN F k b := by
  funext j
  unfold upN
  split <;> rfl
theorem upd_upd (f : Nat → Int32) (k : Nat) (a b : Int32) : upd (upd f k a) k b = upd f k b := by
  funext j
  unfold upd
  split <;> rfl
