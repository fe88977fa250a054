/-! closing the table finds just what is reached -/
theorem wI_eq {t : Nat} {R : Nat → Nat} : ∀ s z, wI t R s z = if z < s ∧ R z / 2 ^ t % 2 = 1 then R z ||| R t else R z
  | 0, z => by
    rw [if_neg (by omega)]
    rfl
  | s + 1, z => by
    have ih := wI_eq (t := t) (R := R) s
    have e1 : wI t R s s = R s := by rw [ih s, if_neg (by omega)]
    have e2 : wI t R s t = R t := by
      rw [ih t]
      split
      · exact Nat.or_self _
      · rfl
    by_cases c : wI t R s s / 2 ^ t % 2 = 1
    · rw [wI_y c]
      have c2 : R s / 2 ^ t % 2 = 1 := by rw [e1] at c; exact c
      by_cases e : z = s
      · rw [e, upN_self, e1, e2, if_pos ⟨by omega, c2⟩]
      · rw [upN_ne _ _ e, ih z]
        by_cases q : z < s ∧ R z / 2 ^ t % 2 = 1
        · rw [if_pos q, if_pos ⟨by omega, q.2⟩]
        · rw [if_neg q, if_neg (fun w => q ⟨by omega, w.2⟩)]
    · rw [wI_n c]
      have c2 : ¬ R s / 2 ^ t % 2 = 1 := by rw [e1] at c; exact c
      rw [ih z]
      by_cases q : z < s ∧ R z / 2 ^ t % 2 = 1
      · rw [if_pos q, if_pos ⟨by omega, q.2⟩]
      · rw [if_neg q, if_neg (fun w => q ⟨by
          by_cases e : z = s
          · subst e; exact absurd w.2 c2
          · omega, w.2⟩)]
theorem wO_s {n t : Nat} {B : Nat → Nat} {z u : Nat} (hz : z < n) : mb (wO n B (t + 1) z) u ↔ mb (wO n B t z) u ∨ (mb (wO n B t z) t ∧ mb (wO n B t t) u) := by
  show mb (wI t (wO n B t) n z) u ↔ _
  rw [wI_eq]
  by_cases c : mb (wO n B t z) t
  · rw [if_pos ⟨hz, c⟩, mb_or2]
    exact ⟨fun h => h.elim Or.inl (fun q => Or.inr ⟨c, q⟩), fun h => h.elim Or.inl (fun q => Or.inr q.2)⟩
  · rw [if_neg (fun q => c q.2)]
    exact ⟨Or.inl, fun h => h.resolve_right (fun q => c q.1)⟩
theorem wO_in {n : Nat} {B : Nat → Nat} {z u : Nat} (hz : z < n) (h : mb (B z) u) : ∀ t, mb (wO n B t z) u
  | 0 => h
  | t + 1 => (wO_s hz).mpr (Or.inl (wO_in hz h t))
theorem wO_tr {n : Nat} {B : Nat → Nat} : ∀ k, k ≤ n → ∀ x, x < k → ∀ z u, z < n → mb (wO n B k z) x → mb (wO n B k x) u → mb (wO n B k z) u
  | 0, _, x, hx, _, _, _, _, _ => by omega
  | k + 1, hk, x, hx, z, u, hz, h1, h2 => by
    have ih := wO_tr (n := n) (B := B) k (by omega)
    rw [wO_s hz] at h1
    rw [wO_s (show x < n by omega)] at h2
    rw [wO_s hz]
    by_cases e : x = k
    · subst e
      have a : mb (wO n B x z) x := h1.elim id (fun q => q.1)
      have b : mb (wO n B x x) u := h2.elim id (fun q => q.2)
      exact Or.inr ⟨a, b⟩
    · have hx2 : x < k := by omega
      rcases h1 with a | a
      · rcases h2 with b | b
        · exact Or.inl (ih x hx2 z u hz a b)
        · exact Or.inr ⟨ih x hx2 z k hz a b.1, b.2⟩
      · rcases h2 with b | b
        · exact Or.inr ⟨a.1, ih x hx2 k u (by omega) a.2 b⟩
        · exact Or.inr ⟨a.1, b.2⟩
def Rl (n : Nat) (M : Nat → Nat) : Nat → Nat → Prop := fun z t => z < n ∧ mb (M z) t
theorem Rl_n {n : Nat} {M : Nat → Nat} (hn : n ≤ 14) (hM : ∀ z, z < n → ∀ t, mb (M z) t → t < n) {z u : Nat} (h : Rch (Rl n M) z u) : u < n := h (fun t => t < n) (fun t _ r => hM z r.1 t r.2) (fun t v _ _ _ r => hM t r.1 v r.2)
theorem Rl_z {n : Nat} {M : Nat → Nat} {z u : Nat} (h : Rch (Rl n M) z u) : z < n := h (fun _ => z < n) (fun _ _ r => r.1) (fun _ _ _ _ c _ => c)
theorem wO_sd {n : Nat} {B : Nat → Nat} (hn : n ≤ 14) (hM : ∀ z, z < n → ∀ t, mb (B z) t → t < n) : ∀ k, k ≤ n → ∀ z u, z < n → mb (wO n B k z) u → Rch (Rl n B) z u
  | 0, _, z, u, hz, h => Rch_1 (by have := hM z hz u h; omega) ⟨hz, h⟩
  | k + 1, hk, z, u, hz, h => by
    have ih := wO_sd hn hM k (by omega)
    rcases (wO_s hz).mp h with a | a
    · exact ih z u hz a
    · exact Rch_tr (by omega) (ih z k hz a.1) (ih k u (by omega) a.2)
theorem wO_loop {n : Nat} {B M : Nat → Nat} (hn : n ≤ 14) (hB : ∀ z, z < n → B z = M z) (hM : ∀ z, z < n → ∀ t, mb (M z) t → t < n) {z : Nat} (hz : z < n) : wO n B n z / 2 ^ z % 2 = 1 ↔ Rch (Rl n M) z z := by
  have hM2 : ∀ z, z < n → ∀ t, mb (B z) t → t < n := fun z hz t h => hM z hz t (by rw [← hB z hz]; exact h)
  have e : ∀ z u, Rch (Rl n B) z u → Rch (Rl n M) z u := fun z u h C c1 c2 => h C (fun t ht r => c1 t ht ⟨r.1, by rw [← hB z r.1]; exact r.2⟩) (fun t v ht hv c r => c2 t v ht hv c ⟨r.1, by rw [← hB t r.1]; exact r.2⟩)
  refine ⟨fun h => e z z (wO_sd hn hM2 n (Nat.le_refl _) z z hz h), fun h => ?_⟩
  exact h (fun t => mb (wO n B n z) t) (fun t _ r => wO_in hz (by rw [hB z hz]; exact r.2) n) (fun t v _ _ c r => wO_tr n (Nat.le_refl _) t r.1 z v hz c (wO_in r.1 (by rw [hB t r.1]; exact r.2) n))
/-! a rank, where nothing goes round in itself -/
/-- 1 where it holds -/
noncomputable def bN (p : Prop) : Nat := @ite Nat p (Classical.propDecidable p) 1 0
theorem bN_1 {p : Prop} (h : p) : bN p = 1 := by
  unfold bN
  rw [if_pos h]
theorem bN_0 {p : Prop} (h : ¬ p) : bN p = 0 := by
  unfold bN
  rw [if_neg h]
theorem bN_le (p : Prop) : bN p ≤ 1 := by
  rcases Classical.em p with h | h
  · rw [bN_1 h]; exact Nat.le_refl _
  · rw [bN_0 h]; exact Nat.zero_le _
noncomputable def rkF (n : Nat) (M : Nat → Nat) (z : Nat) : Nat := cnt (fun t => bN (Rch (Rl n M) z t)) n
theorem rk_ok {n : Nat} {M : Nat → Nat} (hn : n ≤ 14) (hM : ∀ z, z < n → ∀ t, mb (M z) t → t < n) (hl : ∀ z, z < n → ¬ Rch (Rl n M) z z) : ∀ z, z < n → rkF n M z < n ∧ ∀ t, mb (M z) t → t < n ∧ rkF n M t < rkF n M z := by
  intro z hz
  have c1 : ∀ m, cnt (fun _ => 1) m = m := fun m => by
    induction m with
    | zero => rfl
    | succ m ih => show cnt (fun _ => 1) m + 1 = _; rw [ih]
  refine ⟨?_, fun t ht => ?_⟩
  · have h := cnt_lt (f := fun t => bN (Rch (Rl n M) z t)) (g := fun _ => 1) n (fun j _ => bN_le _) ⟨z, hz, by show bN _ < 1; rw [bN_0 (hl z hz)]; omega⟩
    rw [c1] at h
    exact h
  · have htn := hM z hz t ht
    have r1 : Rch (Rl n M) z t := Rch_1 (by omega) ⟨hz, ht⟩
    refine ⟨htn, cnt_lt n (fun j _ => ?_) ⟨t, htn, ?_⟩⟩
    · show bN (Rch (Rl n M) t j) ≤ bN (Rch (Rl n M) z j)
      rcases Classical.em (Rch (Rl n M) t j) with c | c
      · rw [bN_1 c, bN_1 (Rch_tr (by omega) r1 c)]
        exact Nat.le_refl _
      · rw [bN_0 c]
        exact Nat.zero_le _
    · show bN (Rch (Rl n M) t t) < bN (Rch (Rl n M) z t)
      rw [bN_0 (hl t htn), bN_1 r1]
      omega
