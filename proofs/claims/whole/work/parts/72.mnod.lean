/-! the reference's NODEs -/
theorem catL_nil : ∀ w, catL (fun _ => ([] : List Nat)) w = []
  | 0 => rfl
  | w + 1 => by
    show catL (fun _ => ([] : List Nat)) w ++ [] = []
    rw [catL_nil w]
    rfl
theorem Out_up8 {B B2 : Nat → Nat} {S j v : Nat} (h : Out B B2 S) (hj : j < 8) : Out B (upN B2 (8 * S + j) v) S := by
  intro i hi
  rw [upN_ne _ _ (by omega)]
  exact h i hi
