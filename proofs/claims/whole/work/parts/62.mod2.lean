theorem nwd_k {n : Nat} {Wd : Nat → Nat} {o x y z : Int32} (k : Nat) (h : o.toInt = (k : Int)) (hk : k ≤ 11) (hx : tab k < 1 ∨ hs n x = 1) (hy : tab k < 2 ∨ hs n y = 1) (hz : tab k < 3 ∨ hs n z = 1) : nwd n Wd o x y z = wdo Wd k x y z := by
  have e := ix_ti h
  rw [nwd_1 (by rw [e]; exact ⟨by omega, by omega, hx, hy, hz⟩), e]
theorem nwd_kn {n : Nat} {Wd : Nat → Nat} {o x y z : Int32} (k : Nat) (h : o.toInt = (k : Int)) (hn : ¬ ((tab k < 1 ∨ hs n x = 1) ∧ (tab k < 2 ∨ hs n y = 1) ∧ (tab k < 3 ∨ hs n z = 1))) : nwd n Wd o x y z = 0 :=
  nwd_0 (fun q => hn (by have e := ix_ti h; rw [e] at q; exact q.2.2))
theorem nwd_lt {n : Nat} {Wd : Nat → Nat} (h : ∀ j, Wd j < 9) (o x y z : Int32) : nwd n Wd o x y z < 100 := by
  unfold nwd
  split
  · exact wdo_le h _ _ _ _
  · decide
theorem k_m1 {a : Nat} (h : 1 ≤ a) : nI a + (-1 : Int32) = nI (a - 1) := k_dec h
theorem dp_pos {So : Nat → Nat} {k : Nat} (h : 0 < dp So k) : 0 < k := by
  rcases Nat.eq_zero_or_pos k with e | e
  · rw [e] at h
    exact absurd h (Nat.lt_irrefl 0)
  · exact e
/-- going back: the level stays, nothing of the WHEN's own is met -/
theorem back_dp {So : Nat → Nat} {k N : Nat} (h : N ≤ dp So (k + 1)) (h1 : ¬ (So k = 1 ∧ dp So k = N - 1)) (hN : 0 < N) : N ≤ dp So k := by
  by_cases c : So k = 1
  · rw [dp_w c] at h
    have : ¬ dp So k = N - 1 := fun e => h1 ⟨c, e⟩
    omega
  · by_cases c3 : So k = 3
    · rw [dp_e c3] at h
      omega
    · rw [dp_o c c3] at h
      exact h
theorem back_es {So : Nat → Nat} {k N : Nat} (h1 : ¬ (So k = 1 ∧ dp So k = N - 1)) (h2 : ¬ (So k = 2 ∧ dp So k = N)) (hN : 0 < N) : es So (k + 1) N = es So k N := by
  by_cases c : So k = 1
  · rw [es_1 c, if_neg (fun e => h1 ⟨c, by omega⟩)]
  · by_cases c2 : So k = 2
    · rw [es_2 c2, if_neg (fun e => h2 ⟨c2, e.symm⟩)]
    · exact es_n c c2 N
theorem tab_10 {o : Nat} (h : o ≤ 10) : 1 ≤ tab o := by
  unfold tab
  match o, h with
  | 0, _ | 1, _ | 2, _ | 3, _ | 4, _ | 5, _ | 6, _ | 7, _ | 8, _ | 9, _ | 10, _ => decide
theorem tab_2 {o : Nat} (h : o ≤ 10) (h0 : o ≠ 0) (h9 : o ≠ 9) : 2 ≤ tab o := by
  unfold tab
  match o, h with
  | 0, _ => exact absurd rfl h0
  | 9, _ => exact absurd rfl h9
  | 1, _ | 2, _ | 3, _ | 4, _ | 5, _ | 6, _ | 7, _ | 8, _ | 10, _ => decide
