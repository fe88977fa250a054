/-! reaching: what a SIGNAL rests on, through others -/
def Rch (R : Nat → Nat → Prop) (z u : Nat) : Prop := ∀ C : Nat → Prop, (∀ t, t < 14 → R z t → C t) → (∀ t v, t < 14 → v < 14 → C t → R t v → C v) → C u
theorem Rch_1 {R : Nat → Nat → Prop} {z t : Nat} (ht : t < 14) (h : R z t) : Rch R z t := fun _ c1 _ => c1 t ht h
theorem Rch_s {R : Nat → Nat → Prop} {z t v : Nat} (h : Rch R z t) (ht : t < 14) (hv : v < 14) (r : R t v) : Rch R z v := fun C c1 c2 => c2 t v ht hv (h C c1 c2) r
theorem Rch_tr {R : Nat → Nat → Prop} {z t u : Nat} (ht : t < 14) (h1 : Rch R z t) (h2 : Rch R t u) : Rch R z u := fun C c1 c2 => h2 C (fun v hv r => c2 t v ht hv (h1 C c1 c2) r) c2
def RQ (R : Nat → Nat → Prop) (R1 : Nat → Nat) : Prop := (∀ z t, z < 14 → t < 14 → R z t → R1 (14 * z + t) = 1) ∧ ∀ z t, z < 14 → t < 14 → R1 (14 * z + t) = 1 → Rch R z t
theorem RQ_0 {R : Nat → Nat → Prop} {R1 : Nat → Nat} (h : TB R1 R) : RQ R R1 := ⟨fun z t hz ht r => (h z t hz ht).mpr r, fun z t hz ht e => Rch_1 ht ((h z t hz ht).mp e)⟩
theorem RQ_step {R : Nat → Nat → Prop} {R1 R2 : Nat → Nat} {S : Nat} (h : RQ R R1) (hS : S < 14) (hO : OTH R1 R2 S) (hI : INC R1 R2 S) (hSd : SND R1 R2 S) (hC : CLo R1 R2 S) : RQ R R2 ∧ (R2 (14 * S + S) = 1 ↔ Rch R S S) := by
  have hs : ∀ t, t < 14 → R2 (14 * S + t) = 1 → Rch R S t := fun t ht e => hSd (fun t => Rch R S t) (fun t ht e => h.2 S t hS ht e) (fun t v ht hv c e => Rch_tr ht c (h.2 t v ht hv e)) t ht e
  have hc : ∀ t, t < 14 → R S t → R2 (14 * S + t) = 1 := fun t ht r => hI t ht (h.1 S t hS ht r)
  refine ⟨⟨fun z t hz ht r => ?_, fun z t hz ht e => ?_⟩, ⟨fun e => hs S hS e, fun r => ?_⟩⟩
  · by_cases q : z = S
    · subst q
      exact hc t ht r
    · rw [hO _ (by omega)]
      exact h.1 z t hz ht r
  · by_cases q : z = S
    · subst q
      exact hs t ht e
    · rw [hO _ (by omega)] at e
      exact h.2 z t hz ht e
  · exact r (fun t => R2 (14 * S + t) = 1) hc (fun t v ht hv c e => hC t v ht hv c (h.1 t v ht hv e))
/-- the reference's net when it is ready -/
def MRD (n : Nat) (Kd Wd : Nat → Nat) (g gd : Nat) (P Dp Sl T X Y De Bi : Nat → Nat) (CB NX : Nat → Nat → Nat) : Prop :=
  NJ g gd P Dp Sl T ∧ MXY g X Y De P Dp ∧ (∀ z, z < n → ∀ j, OKc T g (lit Bi Wd z j) (CB z j)) ∧ ∀ z, z < n → Kd z = 2 → ∀ j, j < Wd z → OKc T g (Bi (112 + 8 * z + j)) (NX z j)
theorem h0W_up {Kd Rs H : Nat → Nat} {i v : Nat} (h : ∀ z, z < i → H z = h0W Kd Rs z) (hv : v = h0W Kd Rs i) : ∀ z, z < i + 1 → upN H i v z = h0W Kd Rs z := fun z hz => by
  by_cases e : z = i
  · rw [e, upN_self]; exact hv
  · rw [upN_ne _ _ e]; exact h z (by omega)
theorem mx_le {f : Nat → Nat} {b : Nat} : ∀ n, (∀ j, j < n → f j ≤ b) → mx f n ≤ b
  | 0, _ => Nat.zero_le _
  | n + 1, h => by
    unfold mx
    exact Nat.max_le.mpr ⟨mx_le n (fun j hj => h j (by omega)), h n (by omega)⟩
theorem le_mx {f : Nat → Nat} : ∀ n j, j < n → f j ≤ mx f n
  | n + 1, j, hj => by
    unfold mx
    by_cases e : j = n
    · rw [e]; exact Nat.le_max_right _ _
    · exact Nat.le_trans (le_mx n j (by omega)) (Nat.le_max_left _ _)
theorem mx_gd {g gd : Nat} {P Dp Sl T X Y De : Nat → Nat} (h : NJ g gd P Dp Sl T) (hx : MXY g X Y De P Dp) : mx De g = gd := by
  have hd : ∀ i, i < g → De i = dpn (T (113 + i)) := fun i hi => by rw [(hx i hi).2.2.2]; exact h.1.2.2.2.2.1 _ (by omega)
  refine Nat.le_antisymm (mx_le g (fun j hj => by rw [hd j hj]; exact h.2.1 _ (by omega) (by omega))) ?_
  rcases h.2.2 with e | ⟨n, n1, n2, e⟩
  · rw [e]; exact Nat.zero_le _
  · have := le_mx (f := De) g (n - 113) (by omega)
    rw [hd _ (by omega), show 113 + (n - 113) = n by omega, e] at this
    exact this
/-- what the reference reads -/
theorem mr_val {g gd w a : Nat} {P Dp Sl T Hd Io L : Nat → Nat} {f : Nat → Nat} (h : NJ g gd P Dp Sl T) (hI : ∀ j, j < g → Io j = evn (eH Hd) (T (113 + j))) (hf : ∀ j, j < w → OKc T g (L (a + j)) (f j)) :
    wrd (fun j => (mV Hd Io (L (a + j) / 2) + L (a + j) % 2) % 2) w = wrd (fun j => evl (eH Hd) (f j)) w :=
  wrd_congr _ (fun j hj => wv_ok (fun z hz => mV_ev h.1 (Nat.le_refl _) hI hz) (hf j hj))
theorem ckS_up {n i v : Nat} {Kd Wd H H1 : Nat → Nat} {NX : Nat → Nat → Nat} (h : H1 = fun z => if Kd z = 2 ∧ z < i then wrd (fun j => evl (eH H) (NX z j)) (Wd z) else H z) (hk : Kd i = 2) (hv : v = wrd (fun j => evl (eH H) (NX i j)) (Wd i)) : upN H1 i v = fun z => if Kd z = 2 ∧ z < i + 1 then wrd (fun j => evl (eH H) (NX z j)) (Wd z) else H z := by
  funext z
  by_cases e : z = i
  · rw [e, upN_self, if_pos ⟨hk, by omega⟩]; exact hv
  · rw [upN_ne _ _ e, h]
    show (if Kd z = 2 ∧ z < i then _ else _) = _
    by_cases c : Kd z = 2 ∧ z < i
    · rw [if_pos c, if_pos ⟨c.1, by omega⟩]
    · rw [if_neg c, if_neg (by omega)]
theorem ckS_sk {i : Nat} {Kd Wd H H1 : Nat → Nat} {NX : Nat → Nat → Nat} (h : H1 = fun z => if Kd z = 2 ∧ z < i then wrd (fun j => evl (eH H) (NX z j)) (Wd z) else H z) (hk : ¬ Kd i = 2) : H1 = fun z => if Kd z = 2 ∧ z < i + 1 then wrd (fun j => evl (eH H) (NX z j)) (Wd z) else H z := by
  rw [h]
  funext z
  by_cases c : Kd z = 2 ∧ z < i
  · rw [if_pos c, if_pos ⟨c.1, by omega⟩]
  · rw [if_neg c, if_neg (fun q => by
      by_cases e : z = i
      · subst e; exact hk q.1
      · omega)]
theorem lt2_iff {g gd : Nat} {P Dp Sl T : Nat → Nat} {x v : Nat} (h : NJ g gd P Dp Sl T) (ho : OKc T g x v) : x < 2 ↔ v = 0 ∨ v = 1 := by
  have a := LT_e0 h.1 ho.1
  have b := LT_e1 h.1 ho.1
  rw [ho.2] at a b
  omega
theorem dp_lit {g gd : Nat} {P Dp Sl T : Nat → Nat} {x v : Nat} (h : NJ g gd P Dp Sl T) (ho : OKc T g x v) : Dp (x / 2) = dpl v := by
  rw [h.1.2.2.2.2.1 _ (by have := ho.1; omega), ← ho.2]
  unfold dpl LT
  congr 1
  omega
theorem upd_self (f : Nat → Int32) (k : Nat) (v : Int32) : upd f k v k = v := by
  unfold upd
  rw [if_pos rfl]
theorem upd_ne (f : Nat → Int32) {k j : Nat} (v : Int32) (h : j ≠ k) : upd f k v j = f j := by
  unfold upd
  rw [if_neg h]
