/-! compile: what is needed of a circuit without a loop -/
def RM (Kd Op : Nat → Nat) (Aa Ab Ac : Nat → Int32) (So Su Sr : Nat → Nat) (ms : Nat) : Nat → Nat := raM (raB Kd Op Aa Ab Ac) Kd So Su Sr ms
def CIR (n : Nat) (Kd Wd Op : Nat → Nat) (Aa Ab Ac : Nat → Int32) (So Su Sr : Nat → Nat) (ms : Nat) (CB : Nat → Nat → Nat) (AG : Nat → List Nat) (K : List Nat) (rk RA : Nat → Nat) : Prop :=
  K.length ≤ 1280 ∧ (∀ z, z < n → ∀ c, c ∈ AG z → c ∈ K) ∧ AGL n Kd Wd Op Aa Ab Ac So Su Sr ms CB AG ∧ SOL n Kd Wd Op Aa Ab Ac So Su Sr ms CB ∧ NDK n Kd Wd Op Aa Ab Ac RA ∧
  (∀ z, z < n → rk z < n ∧ ∀ t, mb (RA z) t → t < n ∧ rk t < rk z) ∧
  (∀ z, z < n → Kd z = 1 → ∀ k, k < ms → So k = 0 → Su k = z → mb (RA z) (Sr k) ∧ ∀ y, 0 < y → y ≤ dp So k → mb (RA z) (cL So Su k y)) ∧
  (∀ z, z < n → Kd z = 2 → ∀ k, k < ms → So k = 0 → Su k = z → Sr k < n ∧ ∀ y, 0 < y → y ≤ dp So k → cL So Su k y < n) ∧
  (∀ z, z < n → ∀ j, j < Wd z → Spl (QL n Kd) (CB z j)) ∧ (∀ z, z < n → Kd z = 2 → ∀ j, j < Wd z → Spl (QL n Kd) (skC So Su Sr Kd CB ms z j))
/-- the least unset WIRE, the least SIGNAL in a loop, or NONE -/
def uLst (n : Nat) (Kd So Su : Nat → Nat) (ms : Nat) (r : Int32) : Prop := Lst (fun z => Kd z = 1 ∧ (mPF So Su ms 0).1 / 2 ^ z % 2 = 0) n r
def lLst (n : Nat) (RMf : Nat → Nat) (r : Int32) : Prop := ∃ B, (∀ z, z < n → B z = RMf z) ∧ Lst (fun z => wO n B n z / 2 ^ z % 2 = 1) n r
theorem nI_ne2 {z : Nat} (h : z < 2147483648) : ¬ nI z = (-2 : Int32) := fun e => by
  have h1 := nI_ti h
  rw [e] at h1
  have h2 : (-2 : Int32).toInt = -2 := by decide
  omega
theorem Lst_no {Q : Nat → Prop} {n : Nat} {r : Int32} (h : Lst Q n r) (hn : n ≤ 14) (e : r = (-2 : Int32)) : ∀ z, z < n → ¬ Q z := by
  rcases h with ⟨_, h⟩ | ⟨z, z1, z2, _⟩
  · exact h
  · exact absurd (z2.symm.trans e) (nI_ne2 (by omega))
