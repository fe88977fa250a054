/-! the reference's way through the STATEMENTS -/
def mVf (v d : Nat) (B : Nat → Nat) : Nat → Nat := fun z => if z = d then v else B z
theorem mVf_d (v d : Nat) (B : Nat → Nat) : mVf v d B d = v := by unfold mVf; rw [if_pos rfl]
theorem mVf_n {v d z : Nat} {B : Nat → Nat} (h : z ≠ d) : mVf v d B z = B z := by unfold mVf; rw [if_neg h]
def sh (F : Nat → Nat) : Nat → Nat := fun z => F (z - 1)
theorem GI_congr {So Su Sr : Nat → Nat} {S : Nat} {src cnd : Nat → Nat} {v0 k : Nat} {Lc T V1 F1 C1 I1 T1 V2 F2 C2 I2 : Nat → Nat} {g g1 : Nat} (h : GI So Su Sr S src cnd Lc T g v0 k V1 F1 C1 I1 T1 g1) (hV : ∀ z, z ≤ dp So k → V2 z = V1 z) (hF : ∀ z, 0 < z → z ≤ dp So k → F2 z = F1 z) (hC : ∀ z, 0 < z → z ≤ dp So k → C2 z = C1 z) (hI : ∀ z, 0 < z → z ≤ dp So k → I2 z = I1 z) : GI So Su Sr S src cnd Lc T g v0 k V2 F2 C2 I2 T1 g1 := by
  obtain ⟨h1, h2, h3, q, h4, h5⟩ := h
  refine ⟨h1, fun z hz => by rw [hV z hz]; exact h2 z hz, fun z z0 hz => by rw [hF z z0 hz, hC z z0 hz, hI z z0 hz]; exact h3 z z0 hz, q, h4, fun z zq hz => ?_⟩
  rw [hV z hz, hV (z - 1) (by omega), hF z (by omega) hz]
  exact h5 z zq hz
theorem cL_lt {So Su : Nat → Nat} {ms : Nat} (h : ∀ k, k < ms → So k = 1 → Su k < 14) : ∀ k, k ≤ ms → ∀ z, cL So Su k z < 14
  | 0, _, z => by unfold cL; omega
  | k + 1, hk, z => by
    have i := cL_lt h k (by omega) z
    by_cases c : So k = 1
    · rw [cL_1 c]
      split
      · exact h k (by omega) c
      · exact i
    · rw [cL_n c]
      exact i
