/-! making the whole net -/
def mb (M t : Nat) : Prop := M / 2 ^ t % 2 = 1
theorem mb_tb {M t : Nat} : mb M t ↔ M.testBit t = true := by
  unfold mb
  rw [Nat.testBit_eq_decide_div_mod_eq, decide_eq_true_iff]
theorem mb_or (M t z : Nat) : mb (M ||| 1 * 2 ^ t) z ↔ mb M z ∨ z = t := by
  rw [mb_tb, mb_tb, Nat.one_mul, Nat.testBit_or, Nat.testBit_two_pow, Bool.or_eq_true, decide_eq_true_iff]
  constructor
  · rintro (h | h)
    · exact Or.inl h
    · exact Or.inr h.symm
  · rintro (h | h)
    · exact Or.inl h
    · exact Or.inr h.symm
theorem mb_lt {M t : Nat} (h : M < 16384) (ht : mb M t) : t < 14 := by
  apply Classical.byContradiction
  intro hn
  have h2 : M < 2 ^ t := Nat.lt_of_lt_of_le (show M < 2 ^ 14 from h) (Nat.pow_le_pow_right (by decide) (by omega))
  unfold mb at ht
  rw [Nat.div_eq_of_lt h2] at ht
  omega
def andn (a b : Nat) : Nat := a &&& (b ^^^ 16383)
theorem andn_tb (a b i : Nat) : (andn a b).testBit i = (a.testBit i && (b.testBit i ^^ decide (i < 14))) := by
  unfold andn
  rw [Nat.testBit_and, Nat.testBit_xor, show (16383 : Nat) = 2 ^ 14 - 1 from rfl, Nat.testBit_two_pow_sub_one]
theorem andn_row {a : Nat} (b : Nat) (ha : a < 16384) : nI a &&& (nI b ^^^ (-1 : Int32)) = nI (andn a b) := by
  apply Int32.toBitVec_inj.1
  show BitVec.ofNat 32 a &&& (BitVec.ofNat 32 b ^^^ BitVec.allOnes 32) = BitVec.ofNat 32 (andn a b)
  apply BitVec.eq_of_getLsbD_eq
  intro i hi
  rw [BitVec.getLsbD_and, BitVec.getLsbD_xor, BitVec.getLsbD_ofNat, BitVec.getLsbD_ofNat, BitVec.getLsbD_ofNat, BitVec.getLsbD_allOnes, andn_tb]
  by_cases h : i < 14
  · simp [hi, h]
  · have : a.testBit i = false := Nat.testBit_lt_two_pow (Nat.lt_of_lt_of_le (show a < 2 ^ 14 from ha) (Nat.pow_le_pow_right (by decide) (by omega)))
    simp [this]
theorem andn_le {a : Nat} (b : Nat) (ha : a < 16384) : andn a b < 16384 := an14 _ ha
theorem andn_0 {a b : Nat} (ha : a < 16384) : andn a b = 0 ↔ ∀ t, mb a t → mb b t := by
  constructor
  · intro e t ht
    have h14 := mb_lt ha ht
    have h := andn_tb a b t
    rw [e, Nat.zero_testBit, mb_tb.mp ht] at h
    rw [mb_tb]
    simpa [h14] using h.symm
  · intro h
    apply Nat.eq_of_testBit_eq
    intro i
    rw [andn_tb, Nat.zero_testBit]
    cases hq : a.testBit i with
    | false => rfl
    | true =>
      have h1 := mb_tb.mp (h i (mb_tb.mpr hq))
      have h2 := mb_lt ha (mb_tb.mpr hq)
      simp [h1, h2]
def T0 (z : Nat) : Nat := if z = 0 then 0 else 2 * (z - 1) + 1
theorem NJ_0 {P Dp Sl : Nat → Nat} (hS : ∀ j, j < 2048 → Sl j = 0) (hD : ∀ z, z < 113 → Dp z = 0) : NJ 0 0 P Dp Sl T0 := by
  refine ⟨⟨rfl, fun k hk => ?_, fun n h1 h2 => by omega, fun n n' h1 h2 e => ?_, fun n hn => ?_, fun k hk => Or.inl (hS k hk), fun k k' hk hk' h0 => absurd (hS k hk) h0, fun n h1 h2 => by omega⟩, fun n h1 h2 => by omega, Or.inl rfl⟩
  · unfold T0
    rw [if_neg (by omega)]
    omega
  · unfold T0 at e
    split at e <;> split at e <;> omega
  · rw [hD n hn]
    unfold T0
    split
    · rfl
    · rw [dpn_leaf]
theorem AL_0 {K : List Nat} (h : K.length ≤ 1280) (T : Nat → Nat) : AL K T 0 := ⟨h, fun c ⟨n, h1, h2, _⟩ => by omega⟩
/-- the SIGNALS of M are made; the gates are theirs -/
def MKI (n : Nat) (Kd Wd : Nat → Nat) (CB : Nat → Nat → Nat) (AG : Nat → List Nat) (M : Nat) (T : Nat → Nat) (g : Nat) (B : Nat → Nat) : Prop :=
  (∀ z, z < n → mb M z → ∀ j, OKc T g (lit B Wd z j) (CB z j)) ∧ ∀ c, GS T g c ↔ ∃ z, z < n ∧ mb M z ∧ Kd z ≠ 2 ∧ c ∈ AG z
theorem MK_0 (n : Nat) (Kd Wd : Nat → Nat) (CB : Nat → Nat → Nat) (AG : Nat → List Nat) (B : Nat → Nat) : MKI n Kd Wd CB AG 0 T0 0 B := by
  refine ⟨fun z _ h => ?_, fun c => ⟨fun ⟨n, h1, h2, _⟩ => by omega, fun ⟨z, _, h, _⟩ => ?_⟩⟩
  · unfold mb at h
    rw [Nat.zero_div] at h
    omega
  · unfold mb at h
    rw [Nat.zero_div] at h
    omega
theorem MK_step {n : Nat} {Kd Wd : Nat → Nat} {CB : Nat → Nat → Nat} {AG : Nat → List Nat} {M S g g2 gd2 : Nat} {T T2 B B2 P2 D2 S2 : Nat → Nat} {L : List Nat} (h : MKI n Kd Wd CB AG M T g B) (hS : S < n) (hN : NJ g2 gd2 P2 D2 S2 T2) (hst : ST T g T2 g2 L) (hL : ∀ c, c ∈ L ↔ (Kd S ≠ 2 ∧ c ∈ AG S)) (hO : Out B B2 S) (hW : ∀ j, Wd j < 9)
    (hB : ∀ j, j < Wd S → OKc T2 g2 (B2 (S * 8 + j)) (CB S j)) (h0 : ∀ j, Wd S ≤ j → CB S j = 0) : MKI n Kd Wd CB AG (M ||| 1 * 2 ^ S) T2 g2 B2 := by
  refine ⟨fun z hz hm j => ?_, fun c => ?_⟩
  · by_cases e : z = S
    · subst e
      unfold lit
      by_cases c : j < Wd z
      · rw [if_pos c]
        exact hB j c
      · rw [if_neg c, h0 j (by omega)]
        exact ⟨by omega, LT_0 hN.1⟩
    · have hm2 := ((mb_or M S z).mp hm).resolve_right e
      exact OK_out (h.1 z hz hm2 j) hst hO hW e
  · rw [hst.2.2 c, h.2 c, hL]
    constructor
    · rintro (⟨z, z1, z2, z3⟩ | z)
      · exact ⟨z, z1, (mb_or M S z).mpr (Or.inl z2), z3⟩
      · exact ⟨S, hS, (mb_or M S S).mpr (Or.inr rfl), z⟩
    · rintro ⟨z, z1, z2, z3⟩
      rcases (mb_or M S z).mp z2 with q | q
      · exact Or.inl ⟨z, z1, q, z3⟩
      · subst q
        exact Or.inr z3
theorem leaf_ok {g gd : Nat} {P D Sl T B Wd : Nat → Nat} (hN : NJ g gd P D Sl T) {S j : Nat} (hS : S < 14) (hj : j < 8) (hw : j < Wd S) : OKc T g (mBt B S (Wd S) (S * 8 + j)) (2 * (2 * (S * 8 + j) + 1)) := by
  have e : mBt B S (Wd S) (S * 8 + j) = 2 * (1 + (S * 8 + j)) := by
    unfold mBt
    rw [if_pos (by omega)]
  rw [e]
  refine ⟨by omega, ?_⟩
  unfold LT
  rw [show 2 * (1 + (S * 8 + j)) / 2 = S * 8 + j + 1 by omega, hN.1.2.1 (S * 8 + j) (by omega)]
  omega
theorem Out_mBt {B : Nat → Nat} {S w : Nat} (hw : w ≤ 8) : Out B (mBt B S w) S := by
  intro i hi
  unfold mBt
  rw [if_neg (by omega)]
/-- CB is what the bits of all SIGNALS are -/
def SOL (n : Nat) (Kd Wd Op : Nat → Nat) (Aa Ab Ac : Nat → Int32) (So Su Sr : Nat → Nat) (ms : Nat) (CB : Nat → Nat → Nat) : Prop :=
  ∀ z, z < n → (∀ j, Wd z ≤ j → CB z j = 0) ∧ ∀ j, j < Wd z → CB z j = if Kd z = 1 then skC So Su Sr Kd CB ms z j else if Kd z = 3 then nc Wd CB (Op z) (Aa z) (Ab z) (Ac z) j else 2 * (2 * (z * 8 + j) + 1)
def AGL (n : Nat) (Kd Wd Op : Nat → Nat) (Aa Ab Ac : Nat → Int32) (So Su Sr : Nat → Nat) (ms : Nat) (CB : Nat → Nat → Nat) (AG : Nat → List Nat) : Prop :=
  ∀ z, z < n → (Kd z = 1 ∨ Kd z = 2 → AG z = catL (skL So Su Sr Kd CB ms z) (Wd z)) ∧ (Kd z = 3 → AG z = ncL Wd CB (Op z) (Aa z) (Ab z) (Ac z) (Wd z)) ∧ (Kd z = 0 → AG z = [])
/-- what is known of the SIGNALS, and of what they REST ON at once -/
def NDK (n : Nat) (Kd Wd Op : Nat → Nat) (Aa Ab Ac : Nat → Int32) (RA : Nat → Nat) : Prop :=
  ∀ z, z < n → 1 ≤ Wd z ∧ (Kd z = 3 → (1 ≤ tab (Op z) → (∃ X, X < 14 ∧ Aa z = nI X) ∧ mb (RA z) (ix (Aa z))) ∧ (2 ≤ tab (Op z) → (∃ X, X < 14 ∧ Ab z = nI X) ∧ mb (RA z) (ix (Ab z))) ∧ (3 ≤ tab (Op z) → (∃ X, X < 14 ∧ Ac z = nI X) ∧ mb (RA z) (ix (Ac z))) ∧
    (Op z = 9 → ∃ X, X ≤ 8 ∧ Ab z = nI X) ∧ (Op z = 11 → ∃ X, X < 256 ∧ Aa z = nI X) ∧ (Op z = 4 → Wd z = max (Wd (ix (Aa z))) (Wd (ix (Ab z))) + 1) ∧ (Op z = 5 → Wd z = max (Wd (ix (Aa z))) (Wd (ix (Ab z)))) ∧ (Op z = 6 ∨ Op z = 7 → Wd z = 1))
