/-! answers of value, tell, count -/
theorem val_ok {n g gd st X : Nat} {Kd Wd P Dp Sl T Bt NB V HW Vs L : Nat → Nat} {CB NX : Nat → Nat → Nat} (hR : RDY n Kd Wd g gd P Dp Sl T Bt NB CB NX st V HW) (hs : ∀ z, z < 113 + g → Vs z = evn (fun k => V (k + 1)) (T z)) {f : Nat → Nat} (hf : ∀ j, j < Wd X → OKc T g (L (X * 8 + j)) (f j) ∧ Spl (QL n Kd) (f j)) :
    wrd (fun j => (Vs (L (X * 8 + j) / 2) + L (X * 8 + j) % 2) % 2) (Wd X) = wrd (fun j => evl (eH HW) (f j)) (Wd X) :=
  wrd_congr _ (fun j hj => by
    rw [wv_ok hs (hf j hj).1]
    exact ev_H hR.2.2.2.2.2.1 (hf j hj).2)
theorem rdy_vs {n g gd st : Nat} {Kd Wd P Dp Sl T Bt NB V HW Vs : Nat → Nat} {CB NX : Nat → Nat → Nat} (hR : RDY n Kd Wd g gd P Dp Sl T Bt NB CB NX st V HW) (hn : n ≤ 14) (hs : ∀ z, z < 113 + g → Vs z = evn (fun k => V (k + 1)) (T z)) : RDY n Kd Wd g gd P Dp Sl T Bt NB CB NX 1 Vs HW :=
  ⟨hR.1, hR.2.1, hR.2.2.1, hR.2.2.2.1, hR.2.2.2.2.1, vs_vok hR.1.1 hn hR.2.2.2.2.2.1 hs, vs_set hR.1.1 hR.2.2.2.2.2.1.1 hs 1⟩
theorem lit_bt {Bt Wd T : Nat → Nat} {g X j v : Nat} (h : OKc T g (lit Bt Wd X j) v) (hj : j < Wd X) : OKc T g (Bt (X * 8 + j)) v := by
  unfold lit at h
  rw [if_pos hj] at h
  exact h
def tlA (x y : Int32) (n : Nat) (Kd Wd Op : Nat → Nat) (rd : Nat) (CB : Nat → Nat → Nat) : Int32 :=
  if y.toInt < 0 ∨ 4 < y.toInt then -1 else if ¬ hs n x = 1 then -2 else if y.toInt = 0 then nI (Kd (ix x)) else if y.toInt = 1 then nI (Wd (ix x))
  else if y.toInt = 2 then (if Kd (ix x) = 3 then nI (Op (ix x)) else -2) else if rd = 0 then -2
  else if y.toInt = 3 then nI (cnt (fun z => if CB (ix x) z = 0 ∨ CB (ix x) z = 1 then 1 else 0) (Wd (ix x))) else nI (mx (fun z => dpl (CB (ix x) z)) (Wd (ix x)))
theorem cnt_congr {f f2 : Nat → Nat} : ∀ n, (∀ j, j < n → f j = f2 j) → cnt f n = cnt f2 n
  | 0, _ => rfl
  | n + 1, h => by
    unfold cnt
    rw [cnt_congr n (fun j hj => h j (by omega)), h n (by omega)]
theorem mx_congr {f f2 : Nat → Nat} : ∀ n, (∀ j, j < n → f j = f2 j) → mx f n = mx f2 n
  | 0, _ => rfl
  | n + 1, h => by
    unfold mx
    rw [mx_congr n (fun j hj => h j (by omega)), h n (by omega)]
theorem fx_ok {n g gd st X : Nat} {Kd Wd P Dp Sl T Bt NB V HW : Nat → Nat} {CB NX : Nat → Nat → Nat} (hR : RDY n Kd Wd g gd P Dp Sl T Bt NB CB NX st V HW) (hX : X < n) : cnt (fun z => if lit Bt Wd X z = 0 ∨ lit Bt Wd X z = 1 then 1 else 0) (Wd X) = cnt (fun z => if CB X z = 0 ∨ CB X z = 1 then 1 else 0) (Wd X) :=
  cnt_congr _ (fun j hj => by
    have h := hR.2.1 X hX j
    have a := LT_e0 hR.1.1 h.1
    have b := LT_e1 hR.1.1 h.1
    rw [h.2] at a b
    by_cases c : CB X j = 0 ∨ CB X j = 1
    · rw [if_pos c, if_pos (by rw [← a, ← b]; exact c)]
    · rw [if_neg c, if_neg (by rw [← a, ← b]; exact c)])
theorem dp_ok {n g gd st X : Nat} {Kd Wd P Dp Sl T Bt NB V HW : Nat → Nat} {CB NX : Nat → Nat → Nat} (hR : RDY n Kd Wd g gd P Dp Sl T Bt NB CB NX st V HW) (hX : X < n) : mx (fun z => Dp (lit Bt Wd X z / 2)) (Wd X) = mx (fun z => dpl (CB X z)) (Wd X) :=
  mx_congr _ (fun j hj => by
    have h := hR.2.1 X hX j
    rw [hR.1.1.2.2.2.2.1 _ (by have := h.1; omega), ← h.2]
    unfold dpl LT
    congr 1
    omega)
def cnA (x : Int32) (n ms rd g gd c5 ck ow : Nat) : Int32 :=
  if x.toInt = 0 then nI n else if x.toInt = 1 then nI ms else if x.toInt = 2 then nI rd else if x.toInt = 7 then nI ow
  else if x.toInt < 0 ∨ 7 < x.toInt then -1 else if rd = 0 then -2 else if x.toInt = 3 then nI g else if x.toInt = 4 then nI gd else if x.toInt = 5 then nI c5 else nI ck
