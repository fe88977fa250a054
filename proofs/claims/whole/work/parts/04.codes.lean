/-! trees of gates as numbers: a node is 0 (FALSE), 2k+1 (leaf k), or twice a pair of literals; a literal is twice a node, 1 more for the opposite -/
def tzF : Nat → Nat → Nat
  | 0, _ => 0
  | f + 1, n => if n % 2 = 0 then tzF f (n / 2) + 1 else 0
theorem tzF_le : ∀ f n, tzF f n ≤ f
  | 0, n => by unfold tzF; omega
  | f + 1, n => by
    unfold tzF
    have := tzF_le f (n / 2)
    split <;> omega
theorem tzF_pow (y : Nat) : ∀ (x f : Nat), x < f → tzF f (2 ^ x * (2 * y + 1)) = x
  | 0, 0, h => by omega
  | x + 1, 0, h => by omega
  | 0, f + 1, _ => by
    unfold tzF
    rw [Nat.pow_zero, Nat.one_mul, if_neg (by omega)]
  | x + 1, f + 1, h => by
    unfold tzF
    have e : 2 ^ (x + 1) * (2 * y + 1) = 2 * (2 ^ x * (2 * y + 1)) := by rw [Nat.pow_succ, Nat.mul_comm (2 ^ x) 2, Nat.mul_assoc]
    rw [e, if_pos (by omega), Nat.mul_div_cancel_left _ (by omega : 0 < 2), tzF_pow y x f (by omega)]
def pr (x y : Nat) : Nat := 2 ^ x * (2 * y + 1)
theorem pr_gt (x y : Nat) : x < pr x y ∧ y < pr x y := by
  unfold pr
  have h1 : x < 2 ^ x := Nat.lt_two_pow_self
  have h2 : 2 ^ x * 1 ≤ 2 ^ x * (2 * y + 1) := Nat.mul_le_mul_left _ (by omega)
  have h3 : 1 * (2 * y + 1) ≤ 2 ^ x * (2 * y + 1) := Nat.mul_le_mul_right _ (by omega)
  omega
def p1 (n : Nat) : Nat := tzF n n
def p2 (n : Nat) : Nat := (n / 2 ^ p1 n) / 2
theorem p1_pr (x y : Nat) : p1 (pr x y) = x := tzF_pow y x _ (pr_gt x y).1
theorem p2_pr (x y : Nat) : p2 (pr x y) = y := by
  unfold p2
  rw [p1_pr]
  unfold pr
  rw [Nat.mul_div_cancel_left _ (Nat.two_pow_pos x)]
  omega
theorem p1_le (n : Nat) : p1 n ≤ n := tzF_le n n
theorem p2_le (n : Nat) : p2 n ≤ n := by
  unfold p2
  have h : n / 2 ^ p1 n ≤ n := Nat.div_le_self _ _
  omega
theorem pr_inj {x y x' y' : Nat} (h : pr x y = pr x' y') : x = x' ∧ y = y' := by
  have h1 := p1_pr x y
  have h2 := p2_pr x y
  rw [h, p1_pr] at h1
  rw [h, p2_pr] at h2
  exact ⟨h1.symm, h2.symm⟩
def op1 (x : Nat) : Nat := if x % 2 = 0 then x + 1 else x - 1
theorem xor_1 (x : Nat) : x ^^^ 1 = op1 x := by
  have h1 : (x ^^^ 1) / 2 = x / 2 := by rw [Nat.xor_div_two]; simp
  have h2 : (x ^^^ 1) % 2 = 1 ↔ ¬ (x % 2 = 1 ↔ 1 % 2 = 1) := Nat.xor_mod_two_eq_one
  unfold op1
  by_cases c : x % 2 = 0
  · rw [if_pos c]
    have : (x ^^^ 1) % 2 = 1 := h2.mpr (by omega)
    omega
  · rw [if_neg c]
    have : ¬ (x ^^^ 1) % 2 = 1 := fun h => h2.mp h (by omega)
    omega
theorem op1_op1 (x : Nat) : op1 (op1 x) = x := by
  unfold op1
  split <;> split <;> omega
theorem op1_half (x : Nat) : op1 x / 2 = x / 2 := by
  unfold op1
  split <;> omega
theorem op1_mod (x : Nat) : op1 x % 2 = 1 - x % 2 := by
  unfold op1
  split <;> omega
def gN (x y : Nat) : Nat := 2 * pr (min x y) (max x y)
theorem gN_comm (x y : Nat) : gN x y = gN y x := by
  unfold gN
  rw [Nat.min_comm, Nat.max_comm]
theorem gN_inj {x y x' y' : Nat} (h : gN x y = gN x' y') : (x = x' ∧ y = y') ∨ (x = y' ∧ y = x') := by
  unfold gN at h
  have h1 := pr_inj (Nat.eq_of_mul_eq_mul_left (by omega : 0 < 2) h)
  omega
theorem gN_gt (x y : Nat) : x < gN x y ∧ y < gN x y := by
  unfold gN
  have := pr_gt (min x y) (max x y)
  omega
theorem gN_even (x y : Nat) : gN x y % 2 = 0 := by
  unfold gN
  omega
/-- TO JOIN, on literals' numbers; and the gate that it makes, if any -/
def jn (x y : Nat) : Nat := if x = 0 ∨ y = 0 ∨ x = op1 y then 0 else if x = 1 then y else if y = 1 ∨ x = y then x else 2 * gN x y
def jq (x y : Nat) : Prop := ¬ (x = 0 ∨ y = 0 ∨ x = op1 y) ∧ ¬ x = 1 ∧ ¬ (y = 1 ∨ x = y)
def ei (x y : Nat) : Nat := op1 (jn (op1 x) (op1 y))
def pk (c x y : Nat) : Nat := if x = y then x else ei (jn c x) (jn (op1 c) y)
def df (x y : Nat) : Nat := jn (op1 (jn x y)) (op1 (jn (op1 x) (op1 y)))
def evF (env : Nat → Nat) : Nat → Nat → Nat
  | 0, _ => 0
  | f + 1, c => if c = 0 then 0 else if c % 2 = 1 then env (c / 2) else
      ((evF env f (p1 (c / 2) / 2) + p1 (c / 2) % 2) % 2) * ((evF env f (p2 (c / 2) / 2) + p2 (c / 2) % 2) % 2)
theorem evF_st (env : Nat → Nat) : ∀ (f g c : Nat), c < f → c < g → evF env f c = evF env g c
  | 0, g, c, h, _ => by omega
  | f + 1, 0, c, _, h => by omega
  | f + 1, g + 1, c, h1, h2 => by
    unfold evF
    by_cases hc : c = 0
    · rw [if_pos hc, if_pos hc]
    · rw [if_neg hc, if_neg hc]
      have a1 := p1_le (c / 2)
      have a2 := p2_le (c / 2)
      rw [evF_st env f g (p1 (c / 2) / 2) (by omega) (by omega), evF_st env f g (p2 (c / 2) / 2) (by omega) (by omega)]
/-- the value of a node, of a literal -/
def evn (env : Nat → Nat) (c : Nat) : Nat := evF env (c + 1) c
def evl (env : Nat → Nat) (x : Nat) : Nat := (evn env (x / 2) + x % 2) % 2
theorem evn_0 (env : Nat → Nat) : evn env 0 = 0 := rfl
theorem evn_leaf (env : Nat → Nat) (k : Nat) : evn env (2 * k + 1) = env k := by
  unfold evn evF
  rw [if_neg (by omega), if_pos (by omega), show (2 * k + 1) / 2 = k by omega]
theorem evn_gate (env : Nat → Nat) (x y : Nat) : evn env (gN x y) = evl env x * evl env y := by
  have hp : 0 < pr (min x y) (max x y) := Nat.lt_of_le_of_lt (Nat.zero_le _) (pr_gt (min x y) (max x y)).1
  have hq := pr_gt (min x y) (max x y)
  have e : gN x y / 2 = pr (min x y) (max x y) := by unfold gN; omega
  have z : gN x y = 2 * pr (min x y) (max x y) := rfl
  unfold evn evF
  rw [if_neg (by omega), if_neg (by omega), e, p1_pr, p2_pr]
  rw [evF_st env (gN x y) (min x y / 2 + 1) (min x y / 2) (by omega) (by omega), evF_st env (gN x y) (max x y / 2 + 1) (max x y / 2) (by omega) (by omega)]
  show evl env (min x y) * evl env (max x y) = _
  rcases Nat.le_total x y with h | h
  · rw [Nat.min_eq_left h, Nat.max_eq_right h]
  · rw [Nat.min_eq_right h, Nat.max_eq_left h, Nat.mul_comm]
def dpF : Nat → Nat → Nat
  | 0, _ => 0
  | f + 1, c => if c = 0 ∨ c % 2 = 1 then 0 else 1 + max (dpF f (p1 (c / 2) / 2)) (dpF f (p2 (c / 2) / 2))
theorem dpF_st : ∀ (f g c : Nat), c < f → c < g → dpF f c = dpF g c
  | 0, g, c, h, _ => by omega
  | f + 1, 0, c, _, h => by omega
  | f + 1, g + 1, c, h1, h2 => by
    unfold dpF
    by_cases hc : c = 0 ∨ c % 2 = 1
    · rw [if_pos hc, if_pos hc]
    · rw [if_neg hc, if_neg hc]
      have a1 := p1_le (c / 2)
      have a2 := p2_le (c / 2)
      rw [dpF_st f g (p1 (c / 2) / 2) (by omega) (by omega), dpF_st f g (p2 (c / 2) / 2) (by omega) (by omega)]
/-- the DEPTH of a node, of a literal -/
def dpn (c : Nat) : Nat := dpF (c + 1) c
def dpl (x : Nat) : Nat := dpn (x / 2)
theorem dpn_0 : dpn 0 = 0 := rfl
theorem dpn_leaf (k : Nat) : dpn (2 * k + 1) = 0 := by
  unfold dpn dpF
  rw [if_pos (by omega)]
theorem dpn_gate (x y : Nat) : dpn (gN x y) = 1 + max (dpl x) (dpl y) := by
  have hp : 0 < pr (min x y) (max x y) := Nat.lt_of_le_of_lt (Nat.zero_le _) (pr_gt (min x y) (max x y)).1
  have hq := pr_gt (min x y) (max x y)
  have e : gN x y / 2 = pr (min x y) (max x y) := by unfold gN; omega
  have z : gN x y = 2 * pr (min x y) (max x y) := rfl
  unfold dpn dpF
  rw [if_neg (by omega), e, p1_pr, p2_pr]
  rw [dpF_st (gN x y) (min x y / 2 + 1) (min x y / 2) (by omega) (by omega), dpF_st (gN x y) (max x y / 2 + 1) (max x y / 2) (by omega) (by omega)]
  show 1 + max (dpl (min x y)) (dpl (max x y)) = _
  rcases Nat.le_total x y with h | h
  · rw [Nat.min_eq_left h, Nat.max_eq_right h]
  · rw [Nat.min_eq_right h, Nat.max_eq_left h, Nat.max_comm]
