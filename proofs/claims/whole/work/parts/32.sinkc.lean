def skC (So Su Sr Kd : Nat → Nat) (CB : Nat → Nat → Nat) (ms S j : Nat) : Nat := (gVF So Su Sr S (fun z => CB z j) (fun z => CB z 0) (if Kd S = 2 then CB S j else 0) ms 0).1
def skL (So Su Sr Kd : Nat → Nat) (CB : Nat → Nat → Nat) (ms S j : Nat) : List Nat := gL So Su Sr S (fun z => CB z j) (fun z => CB z 0) (if Kd S = 2 then CB S j else 0) ms
/-- nothing but the bits of S has changed -/
def Out (B B2 : Nat → Nat) (S : Nat) : Prop := ∀ i, (i < S * 8 ∨ S * 8 + 8 ≤ i) → B2 i = B i
theorem Out_rf (B : Nat → Nat) (S : Nat) : Out B B S := fun _ _ => rfl
theorem Out_up {B B2 : Nat → Nat} {S j v : Nat} (h : Out B B2 S) (hj : j < 8) : Out B (upN B2 (S * 8 + j) v) S := by
  intro i hi
  rw [upN_ne _ _ (by omega)]
  exact h i hi
theorem lit_out {B B2 Wd : Nat → Nat} {S z : Nat} (h : Out B B2 S) (hW : ∀ j, Wd j < 9) (hz : z ≠ S) (j : Nat) : lit B2 Wd z j = lit B Wd z j := by
  unfold lit
  by_cases c : j < Wd z
  · rw [if_pos c, if_pos c]
    have := hW z
    exact h _ (by omega)
  · rw [if_neg c, if_neg c]
theorem OK_out {B B2 Wd T T2 : Nat → Nat} {S z j v g g2 : Nat} {L : List Nat} (h : OKc T g (lit B Wd z j) v) (hst : ST T g T2 g2 L) (hO : Out B B2 S) (hW : ∀ j, Wd j < 9) (hz : z ≠ S) : OKc T2 g2 (lit B2 Wd z j) v := by
  rw [lit_out hO hW hz]
  exact OKc_st h hst
theorem sum_all {X Y T : Nat → Nat} {c0 g w : Nat} {Sm B : Nat → Nat} {S : Nat} (h : ∀ j, j < w → OKc T g (Sm j) (sm X Y c0 j)) : ∀ j, j < w → OKc T g (cpN Sm B 0 (S * 8) w (S * 8 + j)) (sm X Y c0 j) := by
  intro j hj
  unfold cpN
  rw [if_pos (by omega), show 0 + (S * 8 + j - S * 8) = j by omega]
  exact h j hj
theorem Out_cp {Sm B : Nat → Nat} {S w : Nat} (hw : w ≤ 8) : Out B (cpN Sm B 0 (S * 8) w) S := by
  intro i hi
  unfold cpN
  rw [if_neg (by omega)]
