/-! the reference makes its net -/
def MKD (n : Nat) (Kd Wd : Nat → Nat) (CB : Nat → Nat → Nat) (AG : Nat → List Nat) (D : Nat → Prop) (T : Nat → Nat) (g : Nat) (B : Nat → Nat) : Prop :=
  (∀ z, z < n → D z → ∀ j, OKc T g (lit B Wd z j) (CB z j)) ∧ ∀ c, GS T g c ↔ ∃ z, z < n ∧ D z ∧ Kd z ≠ 2 ∧ c ∈ AG z
theorem MKD_step {n : Nat} {Kd Wd : Nat → Nat} {CB : Nat → Nat → Nat} {AG : Nat → List Nat} {D D2 : Nat → Prop} {S g g2 gd2 : Nat} {T T2 B B2 P2 Dp2 S2 : Nat → Nat} {L : List Nat} (h : MKD n Kd Wd CB AG D T g B) (hS : S < n) (hN : NJ g2 gd2 P2 Dp2 S2 T2) (hst : ST T g T2 g2 L) (hL : ∀ c, c ∈ L ↔ (Kd S ≠ 2 ∧ c ∈ AG S)) (hO : Out B B2 S) (hW : ∀ j, Wd j < 9)
    (hB : ∀ j, j < Wd S → OKc T2 g2 (B2 (8 * S + j)) (CB S j)) (h0 : ∀ j, Wd S ≤ j → CB S j = 0) (hD : ∀ z, z < n → (D2 z ↔ D z ∨ z = S)) : MKD n Kd Wd CB AG D2 T2 g2 B2 := by
  refine ⟨fun z hz hm j => ?_, fun c => ?_⟩
  · by_cases e : z = S
    · subst e
      unfold lit
      by_cases c : j < Wd z
      · rw [if_pos c, show z * 8 + j = 8 * z + j by omega]
        exact hB j c
      · rw [if_neg c, h0 j (by omega)]
        exact ⟨by omega, LT_0 hN.1⟩
    · have hm2 := ((hD z hz).mp hm).resolve_right e
      exact OK_out (h.1 z hz hm2 j) hst hO hW e
  · rw [hst.2.2 c, h.2 c, hL]
    constructor
    · rintro (⟨z, z1, z2, z3⟩ | z)
      · exact ⟨z, z1, (hD z z1).mpr (Or.inl z2), z3⟩
      · exact ⟨S, hS, (hD S hS).mpr (Or.inr rfl), z⟩
    · rintro ⟨z, z1, z2, z3⟩
      rcases (hD z z1).mp z2 with q | q
      · exact Or.inl ⟨z, z1, q, z3⟩
      · subst q
        exact Or.inr z3
theorem MKD_0 {n ms g : Nat} {Kd Wd Op So Su Sr B : Nat → Nat} {Aa Ab Ac : Nat → Int32} {CB : Nat → Nat → Nat} {AG : Nat → List Nat} {D : Nat → Prop} (hn : n ≤ 14) (hg : g = 0) (hW : ∀ j, Wd j < 9) (hB : ∀ j, j < 8 * n → B j = 2 * (j + 1)) (hD : ∀ z, z < n → (D z ↔ Kd z = 0 ∨ Kd z = 2))
    (hS : SOL n Kd Wd Op Aa Ab Ac So Su Sr ms CB) (hA : AGL n Kd Wd Op Aa Ab Ac So Su Sr ms CB AG) : MKD n Kd Wd CB AG D T0 g B := by
  subst hg
  refine ⟨fun z hz hd j => ?_, fun c => ⟨fun ⟨n, h1, h2, _⟩ => by omega, fun ⟨z, z1, z2, z3, z4⟩ => ?_⟩⟩
  · have hk := (hD z hz).mp hd
    have hw := hW z
    unfold lit
    by_cases c : j < Wd z
    · rw [if_pos c, hB _ (by omega), (hS z hz).2 j c, if_neg (by omega), if_neg (by omega)]
      refine ⟨by omega, ?_⟩
      unfold LT T0
      rw [if_neg (by omega)]
      omega
    · rw [if_neg c, (hS z hz).1 j (by omega)]
      exact ⟨by omega, rfl⟩
  · have hk := (hD z z1).mp z2
    rw [(hA z z1).2.2 (by omega)] at z4
    exact absurd z4 List.not_mem_nil
def CANp (R Dn : Nat → Nat) (s t can : Nat) : Prop := (can = 1 ∧ ∀ z, z < t → R (14 * s + z) = 1 → Dn z = 1) ∨ (can = 0 ∧ ∃ z, z < t ∧ R (14 * s + z) = 1 ∧ ¬ Dn z = 1)
theorem CAN_i (R Dn : Nat → Nat) (s : Nat) : CANp R Dn s 0 1 := Or.inl ⟨rfl, fun z h => absurd h (by omega)⟩
theorem CAN_k {R Dn : Nat → Nat} {s t can : Nat} (h : CANp R Dn s t can) (hk : R (14 * s + t) = 1 → Dn t = 1) : CANp R Dn s (t + 1) can := by
  rcases h with ⟨h1, h2⟩ | ⟨h1, z, z1, z2⟩
  · exact Or.inl ⟨h1, fun z hz q => by
      by_cases e : z = t
      · rw [e] at q ⊢; exact hk q
      · exact h2 z (by omega) q⟩
  · exact Or.inr ⟨h1, z, by omega, z2⟩
theorem CAN_n {R Dn : Nat → Nat} {s t : Nat} (h1 : R (14 * s + t) = 1) (h2 : ¬ Dn t = 1) : CANp R Dn s (t + 1) 0 := Or.inr ⟨rfl, t, by omega, h1, h2⟩
theorem CAN_y {R Dn : Nat → Nat} {s t can : Nat} (h : CANp R Dn s t can) (hc : ¬ can = 0) : ∀ z, z < t → R (14 * s + z) = 1 → Dn z = 1 := by
  rcases h with h | h
  · exact h.2
  · exact absurd h.1 hc
theorem CAN_no {R Dn : Nat → Nat} {s t can : Nat} (h : CANp R Dn s t can) (hc : can = 0) : ∃ z, z < t ∧ R (14 * s + z) = 1 ∧ ¬ Dn z = 1 := by
  rcases h with h | h
  · exact absurd h.1 (by omega)
  · exact h.2
def UDN (n : Nat) (RA Dn : Nat → Nat) (s mo : Nat) : Prop := mo = 0 → ∀ z, z < s → Dn z = 1 ∨ ∃ t, t < n ∧ mb (RA z) t ∧ ¬ Dn t = 1
theorem UDN_y {n : Nat} {RA Dn : Nat → Nat} {s mo : Nat} (h : UDN n RA Dn s mo) (hq : Dn s = 1 ∨ ∃ t, t < n ∧ mb (RA s) t ∧ ¬ Dn t = 1) : UDN n RA Dn (s + 1) mo := fun e z hz => by
  by_cases c : z = s
  · rw [c]; exact hq
  · exact h e z (by omega)
theorem UDN_all {n : Nat} {RA Dn rk : Nat → Nat} (h : UDN n RA Dn n 0) (hrk : ∀ z, z < n → rk z < n ∧ ∀ t, mb (RA z) t → t < n ∧ rk t < rk z) : ∀ r z, z < n → rk z < r → Dn z = 1
  | 0, z, _, h2 => by omega
  | r + 1, z, hz, h2 => by
    rcases h rfl z hz with q | ⟨t, t1, t2, t3⟩
    · exact q
    · have := (hrk z hz).2 t t2
      exact absurd (UDN_all h hrk r t t1 (by omega)) t3
def ADN (n : Nat) (Dn : Nat → Nat) (mo : Nat) : Prop := mo = 0 → ∀ z, z < n → Dn z = 1
theorem cu_up {n s : Nat} {D : Nat → Nat} (hs : s < n) (h0 : D s = 0) : cnt (fun y => 1 - upN D s 1 y) n + 1 ≤ cnt (fun y => 1 - D y) n := by
  refine cnt_lt n (fun j _ => ?_) ⟨s, hs, ?_⟩
  · show 1 - upN D s 1 j ≤ 1 - D j
    unfold upN
    split <;> omega
  · show 1 - upN D s 1 s < 1 - D s
    rw [upN_self]
    omega
theorem upN_1 {D : Nat → Nat} {s z : Nat} : upN D s 1 z = 1 ↔ D z = 1 ∨ z = s := by
  unfold upN
  by_cases e : z = s
  · rw [if_pos e]; exact ⟨fun _ => Or.inr e, fun _ => rfl⟩
  · rw [if_neg e]; exact ⟨Or.inl, fun h => h.resolve_right e⟩
theorem OK_8 {B Wd T : Nat → Nat} {g z v : Nat} (h : OKc T g (lit B Wd z 0) v) (hw : 1 ≤ Wd z) : OKc T g (B (8 * z)) v := by
  unfold lit at h
  rw [if_pos (by omega), show z * 8 + 0 = 8 * z by omega] at h
  exact h
/-- nothing but the next bits of S has changed -/
def Out2 (B B2 : Nat → Nat) (S : Nat) : Prop := ∀ i, (i < 112 + 8 * S ∨ 112 + 8 * S + 8 ≤ i) → B2 i = B i
theorem Out2_up {B B2 : Nat → Nat} {S j v : Nat} (h : Out2 B B2 S) (hj : j < 8) : Out2 B (upN B2 (112 + 8 * S + j) v) S := by
  intro i hi
  rw [upN_ne _ _ (by omega)]
  exact h i hi
theorem OK_out2 {B B2 Wd T T2 : Nat → Nat} {S z j v g g2 : Nat} {L : List Nat} (h : OKc T g (lit B Wd z j) v) (hst : ST T g T2 g2 L) (hO : Out2 B B2 S) (hW : ∀ j, Wd j < 9) (hz : z < 14) : OKc T2 g2 (lit B2 Wd z j) v := by
  have e : lit B2 Wd z j = lit B Wd z j := by
    unfold lit
    by_cases c : j < Wd z
    · rw [if_pos c, if_pos c]
      have := hW z
      exact hO _ (by omega)
    · rw [if_neg c, if_neg c]
  rw [e]
  exact OKc_st h hst
