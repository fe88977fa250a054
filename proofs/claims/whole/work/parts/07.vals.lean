/-! words and values -/
theorem pair_hi {a b : Nat} (h : b < 4096) : (a * 4096 + b) / 2 ^ 12 / 2 ^ 1 = a / 2 := by
  rw [show (2 : Nat) ^ 12 = 4096 from rfl, show (2 : Nat) ^ 1 = 2 from rfl]
  omega
theorem pair_lo {a b : Nat} (h : b < 4096) : ((a * 4096 + b) &&& 4095) / 2 ^ 1 = b / 2 := by
  rw [and4095, show (2 : Nat) ^ 1 = 2 from rfl]
  omega
theorem bx1 {a b : Nat} (ha : a < 2) (hb : b < 2) : a ^^^ b = (a + b) % 2 := by
  rcases (show a = 0 ∨ a = 1 by omega) with rfl | rfl <;> rcases (show b = 0 ∨ b = 1 by omega) with rfl | rfl <;> rfl
theorem ba1 {a b : Nat} (ha : a < 2) (hb : b < 2) : a &&& b = a * b := by
  rcases (show a = 0 ∨ a = 1 by omega) with rfl | rfl <;> rcases (show b = 0 ∨ b = 1 by omega) with rfl | rfl <;> rfl
/-- the word of bits f 0, f 1, .. -/
def wrd (f : Nat → Nat) : Nat → Nat
  | 0 => 0
  | n + 1 => wrd f n + f n * 2 ^ n
theorem wrd_lt {f : Nat → Nat} (h : ∀ j, f j < 2) : ∀ n, wrd f n < 2 ^ n
  | 0 => by unfold wrd; decide
  | n + 1 => by
    unfold wrd
    have i := wrd_lt h n
    have b := h n
    rw [Nat.pow_succ]
    rcases (show f n = 0 ∨ f n = 1 by omega) with e | e <;> rw [e] <;> omega
theorem wrd_or {f : Nat → Nat} (h : ∀ j, f j < 2) (n : Nat) : wrd f n ||| f n * 2 ^ n = wrd f (n + 1) := by
  have i := wrd_lt h n
  have := Nat.two_pow_add_eq_or_of_lt (i := n) (b := wrd f n) i (f n)
  rw [Nat.or_comm, Nat.mul_comm (f n), ← this]
  show _ = wrd f n + f n * 2 ^ n
  rw [Nat.mul_comm (f n), Nat.add_comm]
theorem wrd_congr {f f2 : Nat → Nat} : ∀ n, (∀ j, j < n → f j = f2 j) → wrd f n = wrd f2 n
  | 0, _ => rfl
  | n + 1, h => by
    unfold wrd
    rw [wrd_congr n (fun j hj => h j (by omega)), h n (by omega)]
theorem pow8 {n : Nat} (h : n ≤ 8) : 2 ^ n ≤ 256 := by
  have := Nat.pow_le_pow_right (show 0 < 2 by decide) h
  exact this
/-- a word's bits put into the values -/
def putW (V : Nat → Nat) (S w b : Nat) : Nat → Nat := fun j => if 1 + S * 8 ≤ j ∧ j < 1 + S * 8 + b then w / 2 ^ (j - (1 + S * 8)) % 2 else V j
theorem putW_0 (V : Nat → Nat) (S w : Nat) : V = putW V S w 0 := by
  funext j
  unfold putW
  rw [if_neg (by omega)]
theorem putW_s (V : Nat → Nat) (S w b : Nat) : upN (putW V S w b) (1 + S * 8 + b) (w / 2 ^ b &&& 1) = putW V S w (b + 1) := by
  funext j
  unfold upN
  by_cases e : j = 1 + S * 8 + b
  · rw [if_pos e, and1]
    unfold putW
    rw [if_pos (by omega), show j - (1 + S * 8) = b by omega]
  · rw [if_neg e]
    unfold putW
    by_cases c : 1 + S * 8 ≤ j ∧ j < 1 + S * 8 + b
    · rw [if_pos c, if_pos (by omega)]
    · rw [if_neg c, if_neg (by omega)]
def cnt (f : Nat → Nat) : Nat → Nat
  | 0 => 0
  | n + 1 => cnt f n + f n
theorem cnt_le {f : Nat → Nat} (h : ∀ j, f j < 2) : ∀ n, cnt f n ≤ n
  | 0 => Nat.le_refl 0
  | n + 1 => by
    unfold cnt
    have := cnt_le h n
    have := h n
    omega
theorem ev_lit {E V T : Nat → Nat} {x : Nat} (h : V (x / 2) = evn E (T (x / 2))) : (V (x / 2) + x % 2) % 2 = evl E (LT T x) := by
  unfold evl LT
  rw [h, show (2 * T (x / 2) + x % 2) / 2 = T (x / 2) by omega, show (2 * T (x / 2) + x % 2) % 2 = x % 2 by omega]
theorem ev_base {g : Nat} {P Dp Sl T V E : Nat → Nat} (h : NI g P Dp Sl T) (h0 : V 0 = 0) (hb : ∀ k, k < 112 → V (k + 1) = E k) {n : Nat} (hn : n < 113) : V n = evn E (T n) := by
  rcases Nat.eq_zero_or_pos n with z | z
  · subst z
    rw [h0, h.1, evn_0]
  · have e := h.2.1 (n - 1) (by omega)
    have e2 := hb (n - 1) (by omega)
    rw [show n - 1 + 1 = n by omega] at e e2
    rw [e2, e, evn_leaf]
theorem evl_lt (E : Nat → Nat) (x : Nat) : evl E x < 2 := Nat.mod_lt _ (by decide)
theorem ev_and (E : Nat → Nat) (x y : Nat) : evl E x * evl E y < 2 := by
  have h1 := evl_lt E x
  have h2 := evl_lt E y
  rcases (show evl E x = 0 ∨ evl E x = 1 by omega) with e | e <;> rw [e] <;> omega
