/-! the reference's values -/
def mV (Hd Io : Nat → Nat) (z : Nat) : Nat := if z = 0 then 0 else if z < 113 then Hd ((z - 1) / 8) / 2 ^ ((z - 1) % 8) % 2 else Io (z - 113)
theorem mV_0 {Hd Io : Nat → Nat} {z : Nat} (h : z = 0) : mV Hd Io z = 0 := by
  unfold mV
  rw [if_pos h]
theorem mV_b {Hd Io : Nat → Nat} {z : Nat} (h : z ≠ 0) (h2 : z < 113) : mV Hd Io z = Hd ((z - 1) / 8) / 2 ^ ((z - 1) % 8) % 2 := by
  unfold mV
  rw [if_neg h, if_pos h2]
theorem mV_g {Hd Io : Nat → Nat} {z : Nat} (h : 113 ≤ z) : mV Hd Io z = Io (z - 113) := by
  unfold mV
  rw [if_neg (by omega), if_neg (by omega)]
theorem mV_ev {g : Nat} {P Dp Sl T Hd Io : Nat → Nat} (h : NI g P Dp Sl T) {m : Nat} (hm : m ≤ g) (hI : ∀ j, j < m → Io j = evn (eH Hd) (T (113 + j))) {z : Nat} (hz : z < 113 + m) : mV Hd Io z = evn (eH Hd) (T z) := by
  rcases Nat.lt_or_ge z 113 with c | c
  · rcases Nat.eq_zero_or_pos z with q | q
    · rw [mV_0 q, q, h.1, evn_0]
    · have e := h.2.1 (z - 1) (by omega)
      rw [show z - 1 + 1 = z by omega] at e
      rw [mV_b (by omega) c, e, evn_leaf]
      rfl
  · rw [mV_g c, hI _ (by omega), show 113 + (z - 113) = z by omega]
theorem back_cl {So Su : Nat → Nat} {k N : Nat} (h1 : ¬ (So k = 1 ∧ dp So k = N - 1)) (hN : 0 < N) : cL So Su (k + 1) N = cL So Su k N := by
  by_cases c : So k = 1
  · rw [cL_1 c, if_neg (fun e => h1 ⟨c, by omega⟩)]
  · exact cL_n c N
