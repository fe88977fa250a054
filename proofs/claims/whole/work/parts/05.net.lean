/-! the net's own invariant, and what its table of slots finds -/
def hsh (q : Nat) : Nat := (nI q * (-1640531535)).toBitVec.toNat / 2097152
theorem hsh_lt (q : Nat) : hsh q < 2048 := by
  unfold hsh
  have h := (nI q * (-1640531535)).toBitVec.isLt
  omega
theorem nI_self (x : Int32) : nI x.toBitVec.toNat = x := by
  apply Int32.toBitVec_inj.1
  show BitVec.ofNat 32 x.toBitVec.toNat = x.toBitVec
  simp
theorem hsh_row (q : Nat) : ((nI q * (-1640531535)).toUInt32 >>> ((nI 21).toUInt32 &&& Int32.toUInt32 31)).toInt32 = nI (hsh q) := by
  have h := pk_ushr (nI q * (-1640531535)) (nI 21) 21 (by decide)
  rw [← nI_self (((nI q * (-1640531535)).toUInt32 >>> ((nI 21).toUInt32 &&& Int32.toUInt32 31)).toInt32), h]
  rfl
/-- the number of a literal: of its node's tree and its sign -/
def LT (T : Nat → Nat) (x : Nat) : Nat := 2 * T (x / 2) + x % 2
theorem LT_op (T : Nat → Nat) (x : Nat) : LT T (op1 x) = op1 (LT T x) := by
  unfold LT
  rw [op1_half, op1_mod]
  unfold op1
  split <;> omega
theorem pigeon : ∀ (M N : Nat) (f : Nat → Nat), (∀ i, i < N → f i < M) → (∀ i j, i < N → j < N → f i = f j → i = j) → N ≤ M
  | 0, N, f, h, _ => by
    rcases Nat.eq_zero_or_pos N with h0 | h0
    · omega
    · exact absurd (h 0 h0) (by omega)
  | M + 1, 0, f, _, _ => by omega
  | M + 1, N + 1, f, h, inj => by
    have key : N ≤ M := by
      refine pigeon M N (fun i => if f i = M then f N else f i) ?_ ?_
      · intro i hi
        have h1 := h i (by omega)
        have h2 := h N (by omega)
        show (if f i = M then f N else f i) < M
        split
        · next e =>
          have : f N ≠ M := fun e2 => by
            have := inj i N (by omega) (by omega) (by rw [e, e2])
            omega
          omega
        · omega
      · intro i j hi hj e
        have e : (if f i = M then f N else f i) = (if f j = M then f N else f j) := e
        split at e <;> split at e
        · next a b => exact inj i j (by omega) (by omega) (by rw [a, b])
        · next a b => have := inj N j (by omega) (by omega) e; omega
        · next a b => have := inj i N (by omega) (by omega) e; omega
        · exact inj i j (by omega) (by omega) e
    omega
def NI (g : Nat) (P Dp Sl T : Nat → Nat) : Prop :=
  T 0 = 0 ∧ (∀ k, k < 112 → T (k + 1) = 2 * k + 1) ∧
  (∀ n, 113 ≤ n → n < 113 + g → ∃ a b, P n = a * 4096 + b ∧ a < b ∧ b < 2 * n ∧ T n = gN (LT T a) (LT T b) ∧ jq (LT T a) (LT T b)) ∧
  (∀ n n', n < 113 + g → n' < 113 + g → T n = T n' → n = n') ∧
  (∀ n, n < 113 + g → Dp n = dpn (T n)) ∧
  (∀ k, k < 2048 → Sl k = 0 ∨ (113 ≤ Sl k ∧ Sl k < 113 + g)) ∧
  (∀ k k', k < 2048 → k' < 2048 → Sl k ≠ 0 → Sl k = Sl k' → k = k') ∧
  (∀ n, 113 ≤ n → n < 113 + g → ∃ d, d < 2048 ∧ Sl ((hsh (P n) + d) % 2048) = n ∧ ∀ d', d' < d → Sl ((hsh (P n) + d') % 2048) ≠ 0)
theorem NI_free {g : Nat} {P Dp Sl T : Nat → Nat} (h : NI g P Dp Sl T) (hg : g ≤ 1280) (k : Nat) : ∃ d, d < 2048 ∧ Sl ((k + d) % 2048) = 0 := by
  obtain ⟨-, -, -, -, -, h6, h7, -⟩ := h
  apply Classical.byContradiction
  intro hn
  have hz : ∀ i, i < 2048 → Sl i ≠ 0 := by
    intro i hi he
    apply hn
    refine ⟨(i + 2048 - k % 2048) % 2048, Nat.mod_lt _ (by omega), ?_⟩
    rw [show (k + (i + 2048 - k % 2048) % 2048) % 2048 = i by omega]
    exact he
  have hp := pigeon g 2048 (fun i => Sl i - 113) (fun i hi => by
    have := hz i hi
    have := h6 i hi
    show Sl i - 113 < g
    omega) (fun i j hi hj e => by
    have e : Sl i - 113 = Sl j - 113 := e
    have a1 := hz i hi
    have a2 := h6 i hi
    have a3 := hz j hj
    have a4 := h6 j hj
    exact h7 i j hi hj a1 (by omega))
  omega
theorem NI_lit {g : Nat} {P Dp Sl T : Nat → Nat} (h : NI g P Dp Sl T) {x y : Nat} (hx : x < 2 * (113 + g)) (hy : y < 2 * (113 + g)) (e : LT T x = LT T y) : x = y := by
  unfold LT at e
  have h1 := h.2.2.2.1 (x / 2) (y / 2) (by omega) (by omega) (by omega)
  omega
theorem NI_new {g : Nat} {P Dp Sl T : Nat → Nat} (h : NI g P Dp Sl T) {a b : Nat} (hab : a < b) (hb : b < 2 * (113 + g)) (hn : ∀ n, 113 ≤ n → n < 113 + g → P n ≠ a * 4096 + b) : ∀ n, n < 113 + g → T n ≠ gN (LT T a) (LT T b) := by
  intro n hlt e
  have hpos := gN_gt (LT T a) (LT T b)
  have hev := gN_even (LT T a) (LT T b)
  rcases Nat.lt_or_ge n 113 with h0 | h0
  · rcases Nat.eq_zero_or_pos n with z | z
    · subst z
      rw [h.1] at e
      omega
    · have := h.2.1 (n - 1) (by omega)
      rw [show n - 1 + 1 = n by omega] at this
      omega
  · obtain ⟨a', b', e1, e2, e3, e4, -⟩ := h.2.2.1 n h0 hlt
    rw [e] at e4
    rcases gN_inj e4 with ⟨q1, q2⟩ | ⟨q1, q2⟩
    · have r1 := NI_lit h (by omega) (by omega) q1
      have r2 := NI_lit h (by omega) (by omega) q2
      subst r1
      subst r2
      exact hn n h0 hlt e1
    · have r1 := NI_lit h (by omega) (by omega) q1
      have r2 := NI_lit h (by omega) (by omega) q2
      omega
theorem LT_up {T : Nat → Nat} {n v x : Nat} (h : x / 2 ≠ n) : LT (upN T n v) x = LT T x := by
  unfold LT
  rw [upN_ne _ _ h]
theorem NI_add {g : Nat} {P Dp Sl T : Nat → Nat} (h : NI g P Dp Sl T) {a b k : Nat} (hab : a < b) (hb : b < 2 * (113 + g)) (hq : jq (LT T a) (LT T b)) (hn : ∀ n, 113 ≤ n → n < 113 + g → P n ≠ a * 4096 + b)
    (hk : k < 2048) (hk0 : Sl k = 0) {d : Nat} (hd : d < 2048) (hkd : k = (hsh (a * 4096 + b) + d) % 2048) (hpath : ∀ d', d' < d → Sl ((hsh (a * 4096 + b) + d') % 2048) ≠ 0) :
    NI (g + 1) (upN P (113 + g) (a * 4096 + b)) (upN Dp (113 + g) (1 + max (Dp (a / 2)) (Dp (b / 2)))) (upN Sl k (113 + g)) (upN T (113 + g) (gN (LT T a) (LT T b))) := by
  have hnew := NI_new h hab hb hn
  obtain ⟨h1, h2, h3, h4, h5, h6, h7, h8⟩ := h
  refine ⟨?_, ?_, ?_, ?_, ?_, ?_, ?_, ?_⟩
  · rw [upN_ne _ _ (by omega), h1]
  · intro j hj
    rw [upN_ne _ _ (by omega), h2 j hj]
  · intro n n1 n2
    rcases Nat.lt_or_ge n (113 + g) with c | c
    · obtain ⟨a', b', e1, e2, e3, e4, e5⟩ := h3 n n1 c
      refine ⟨a', b', ?_, e2, e3, ?_, ?_⟩
      · rw [upN_ne _ _ (by omega), e1]
      · rw [upN_ne _ _ (by omega), LT_up (by omega), LT_up (by omega), e4]
      · rw [LT_up (by omega), LT_up (by omega)]
        exact e5
    · have e : n = 113 + g := by omega
      subst e
      refine ⟨a, b, ?_, hab, by omega, ?_, ?_⟩
      · rw [upN_self]
      · rw [upN_self, LT_up (by omega), LT_up (by omega)]
      · rw [LT_up (by omega), LT_up (by omega)]
        exact hq
  · intro n n' l1 l2 e
    rcases Nat.lt_or_ge n (113 + g) with c | c <;> rcases Nat.lt_or_ge n' (113 + g) with c' | c'
    · rw [upN_ne _ _ (by omega), upN_ne _ _ (by omega)] at e
      exact h4 n n' c c' e
    · have z : n' = 113 + g := by omega
      subst z
      rw [upN_ne _ _ (by omega), upN_self] at e
      exact absurd e (hnew n c)
    · have z : n = 113 + g := by omega
      subst z
      rw [upN_self, upN_ne _ _ (by omega)] at e
      exact absurd e.symm (hnew n' c')
    · omega
  · intro n hlt
    rcases Nat.lt_or_ge n (113 + g) with c | c
    · rw [upN_ne _ _ (by omega), upN_ne _ _ (by omega), h5 n c]
    · have e : n = 113 + g := by omega
      subst e
      rw [upN_self, upN_self, dpn_gate]
      have q1 : dpl (LT T a) = Dp (a / 2) := by
        unfold dpl LT
        rw [h5 _ (by omega)]
        congr 1
        omega
      have q2 : dpl (LT T b) = Dp (b / 2) := by
        unfold dpl LT
        rw [h5 _ (by omega)]
        congr 1
        omega
      rw [q1, q2]
  · intro j hj
    by_cases c : j = k
    · subst c
      rw [upN_self]
      omega
    · rw [upN_ne _ _ c]
      have := h6 j hj
      omega
  · intro j j' hj hj' n0 e
    by_cases c : j = k <;> by_cases c' : j' = k
    · omega
    · subst c
      rw [upN_self, upN_ne _ _ c'] at e
      have := h6 j' hj'
      omega
    · subst c'
      rw [upN_self, upN_ne _ _ c] at e
      have := h6 j hj
      omega
    · rw [upN_ne _ _ c] at n0
      rw [upN_ne _ _ c, upN_ne _ _ c'] at e
      exact h7 j j' hj hj' n0 e
  · intro n n1 n2
    have keep : ∀ q, Sl q ≠ 0 → upN Sl k (113 + g) q = Sl q := fun q hq0 => upN_ne _ _ (fun z => hq0 (by rw [z]; exact hk0))
    have keep0 : ∀ q, Sl q ≠ 0 → upN Sl k (113 + g) q ≠ 0 := fun q hq0 => by rw [keep q hq0]; exact hq0
    rcases Nat.lt_or_ge n (113 + g) with c | c
    · obtain ⟨d0, g1, g2, g3⟩ := h8 n n1 c
      refine ⟨d0, g1, ?_, ?_⟩
      · rw [upN_ne P _ (by omega), keep _ (by rw [g2]; omega), g2]
      · intro d' hd'
        rw [upN_ne P _ (by omega)]
        exact keep0 _ (g3 d' hd')
    · have e : n = 113 + g := by omega
      subst e
      refine ⟨d, hd, ?_, ?_⟩
      · rw [upN_self, ← hkd, upN_self]
      · intro d' hd'
        rw [upN_self]
        exact keep0 _ (hpath d' hd')
/-- what slotOf finds: the first place on the way that is free or has the pair -/
def Fnd (P Sl : Nat → Nat) (q k : Nat) : Prop := ∃ d, d < 2048 ∧ k = (hsh q + d) % 2048 ∧ (∀ d', d' < d → Sl ((hsh q + d') % 2048) ≠ 0 ∧ P (Sl ((hsh q + d') % 2048)) ≠ q) ∧ (Sl k = 0 ∨ P (Sl k) = q)
theorem Fnd_free {g : Nat} {P Dp Sl T : Nat → Nat} (h : NI g P Dp Sl T) {q k : Nat} (hf : Fnd P Sl q k) (h0 : Sl k = 0) : ∀ n, 113 ≤ n → n < 113 + g → P n ≠ q := by
  intro n n1 n2 e
  obtain ⟨d, hd, hk, hp, -⟩ := hf
  obtain ⟨d0, g1, g2, g3⟩ := h.2.2.2.2.2.2.2 n n1 n2
  rw [e] at g2 g3
  rcases Nat.lt_trichotomy d d0 with c | c | c
  · have := g3 d c
    rw [← hk] at this
    exact this h0
  · subst c
    rw [← hk, h0] at g2
    omega
  · have := (hp d0 c).2
    rw [g2] at this
    exact this e
