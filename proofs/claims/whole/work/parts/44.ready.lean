/-! a net that is ready: words of INPUTS and REGISTERS, and what follows from them -/
def VOK (n : Nat) (Kd V HW : Nat → Nat) : Prop := V 0 = 0 ∧ ∀ z, z < n → (Kd z = 0 ∨ Kd z = 2) → ∀ j, j < 8 → V (1 + z * 8 + j) = HW z / 2 ^ j % 2
def SETI (st : Nat) (V T : Nat → Nat) (g : Nat) : Prop := st = 1 → ∀ z, z < 113 + g → V z = evn (fun k => V (k + 1)) (T z)
def eH (HW : Nat → Nat) (k : Nat) : Nat := HW (k / 8) / 2 ^ (k % 8) % 2
def QL (n : Nat) (Kd : Nat → Nat) (k : Nat) : Prop := k / 8 < n ∧ (Kd (k / 8) = 0 ∨ Kd (k / 8) = 2)
/-- a literal's value depends on these leaves alone -/
def Spl (Q : Nat → Prop) (c : Nat) : Prop := ∀ E E' : Nat → Nat, (∀ k, Q k → E k = E' k) → evl E c = evl E' c
theorem ev_H {n c : Nat} {Kd V HW : Nat → Nat} (h : VOK n Kd V HW) (hs : Spl (QL n Kd) c) : evl (fun k => V (k + 1)) c = evl (eH HW) c := by
  refine hs _ _ (fun k hk => ?_)
  have := h.2 (k / 8) hk.1 hk.2 (k % 8) (Nat.mod_lt _ (by decide))
  rw [show 1 + k / 8 * 8 + k % 8 = k + 1 by omega] at this
  exact this
theorem NI_ev {g : Nat} {P Dp Sl T : Nat → Nat} (h : NI g P Dp Sl T) {E E' : Nat → Nat} (he : ∀ k, k < 112 → E k = E' k) : ∀ m z, z ≤ m → z < 113 + g → evn E (T z) = evn E' (T z)
  | 0, z, h1, h2 => by
    rw [show z = 0 by omega, h.1]
    rfl
  | m + 1, z, h1, h2 => by
    rcases Nat.lt_or_ge z 113 with c | c
    · rcases Nat.eq_zero_or_pos z with q | q
      · rw [q, h.1]
        rfl
      · have e := h.2.1 (z - 1) (by omega)
        rw [show z - 1 + 1 = z by omega] at e
        rw [e, evn_leaf, evn_leaf, he _ (by omega)]
    · obtain ⟨a, b, -, e2, e3, e4, -⟩ := h.2.2.1 z c h2
      have i1 := NI_ev h he m (a / 2) (by omega) (by omega)
      have i2 := NI_ev h he m (b / 2) (by omega) (by omega)
      have q : ∀ x, evn E (T (x / 2)) = evn E' (T (x / 2)) → evl E (LT T x) = evl E' (LT T x) := by
        intro x hx
        unfold evl LT
        rw [show (2 * T (x / 2) + x % 2) / 2 = T (x / 2) by omega, hx]
      rw [e4, evn_gate, evn_gate, q a i1, q b i2]
theorem vs_leaf {g : Nat} {P Dp Sl T V Vs : Nat → Nat} (h : NI g P Dp Sl T) (h0 : V 0 = 0) (hs : ∀ z, z < 113 + g → Vs z = evn (fun k => V (k + 1)) (T z)) : ∀ z, z < 113 → Vs z = V z := by
  intro z hz
  rw [hs z (by omega)]
  exact (ev_base (E := fun k => V (k + 1)) h h0 (fun k _ => rfl) hz).symm
theorem vs_set {g : Nat} {P Dp Sl T V Vs : Nat → Nat} (h : NI g P Dp Sl T) (h0 : V 0 = 0) (hs : ∀ z, z < 113 + g → Vs z = evn (fun k => V (k + 1)) (T z)) (st : Nat) : SETI st Vs T g := by
  intro _ z hz
  rw [hs z hz]
  refine NI_ev h (fun k hk => ?_) z z (Nat.le_refl _) hz
  exact (vs_leaf h h0 hs (k + 1) (by omega)).symm
theorem vs_vok {g n : Nat} {P Dp Sl T V Vs Kd HW : Nat → Nat} (h : NI g P Dp Sl T) (hn : n ≤ 14) (hv : VOK n Kd V HW) (hs : ∀ z, z < 113 + g → Vs z = evn (fun k => V (k + 1)) (T z)) : VOK n Kd Vs HW := by
  have hl := vs_leaf h hv.1 hs
  refine ⟨by rw [hl 0 (by omega), hv.1], fun z hz hk j hj => ?_⟩
  rw [hl _ (by omega)]
  exact hv.2 z hz hk j hj
theorem putW_in {V : Nat → Nat} {S w j : Nat} (hj : j < 8) : putW V S w 8 (1 + S * 8 + j) = w / 2 ^ j % 2 := by
  unfold putW
  rw [if_pos (by omega), show 1 + S * 8 + j - (1 + S * 8) = j by omega]
theorem putW_ou {V : Nat → Nat} {S w z : Nat} (h : z < 1 + S * 8 ∨ 1 + S * 8 + 8 ≤ z) : putW V S w 8 z = V z := by
  unfold putW
  rw [if_neg (by omega)]
theorem put_vok {n S w : Nat} {Kd V HW : Nat → Nat} (h : VOK n Kd V HW) : VOK n Kd (putW V S w 8) (upN HW S w) := by
  refine ⟨by rw [putW_ou (by omega)]; exact h.1, fun z hz hk j hj => ?_⟩
  by_cases e : z = S
  · subst e
    rw [putW_in hj, upN_self]
  · rw [putW_ou (by omega), upN_ne _ _ e]
    exact h.2 z hz hk j hj
theorem swW_vok {n : Nat} {Kd V HW f : Nat → Nat} (h : VOK n Kd V HW) : ∀ i, VOK n Kd (swW V Kd f i) (fun z => if Kd z = 2 ∧ z < i then f z else HW z)
  | 0 => by
    refine ⟨h.1, fun z hz hk j hj => ?_⟩
    show V _ = (if Kd z = 2 ∧ z < 0 then f z else HW z) / 2 ^ j % 2
    rw [if_neg (by omega)]
    exact h.2 z hz hk j hj
  | i + 1 => by
    have ih := swW_vok (f := f) h i
    by_cases c : Kd i = 2
    · rw [swW_2 c]
      have := put_vok (S := i) (w := f i) ih
      refine ⟨this.1, fun z hz hk j hj => ?_⟩
      rw [this.2 z hz hk j hj]
      show upN (fun z => if Kd z = 2 ∧ z < i then f z else HW z) i (f i) z / 2 ^ j % 2 = (if Kd z = 2 ∧ z < i + 1 then f z else HW z) / 2 ^ j % 2
      by_cases e : z = i
      · subst e
        rw [upN_self, if_pos ⟨c, by omega⟩]
      · rw [upN_ne _ _ e]
        by_cases c2 : Kd z = 2 ∧ z < i
        · rw [if_pos c2, if_pos ⟨c2.1, by omega⟩]
        · rw [if_neg c2, if_neg (by omega)]
    · rw [swW_n c]
      refine ⟨ih.1, fun z hz hk j hj => ?_⟩
      rw [ih.2 z hz hk j hj]
      show (if Kd z = 2 ∧ z < i then f z else HW z) / 2 ^ j % 2 = (if Kd z = 2 ∧ z < i + 1 then f z else HW z) / 2 ^ j % 2
      by_cases c2 : Kd z = 2 ∧ z < i
      · rw [if_pos c2, if_pos ⟨c2.1, by omega⟩]
      · rw [if_neg c2, if_neg (fun q => c2 ⟨q.1, by
          have : z ≠ i := fun e => c (by rw [← e]; exact q.1)
          omega⟩)]
/-- the words that a net starts with -/
def h0W (Kd Rw : Nat → Nat) (z : Nat) : Nat := if Kd z = 2 then Rw z else 0
theorem swV_vok {Kd V Rw : Nat → Nat} (h0 : V 0 = 0) : ∀ i, VOK i Kd (swV V Kd Rw i) (h0W Kd Rw)
  | 0 => ⟨h0, fun z hz => by omega⟩
  | i + 1 => by
    have ih := swV_vok (V := V) (Rw := Rw) (Kd := Kd) h0 i
    have key : ∀ w, (Kd i = 2 → w = Rw i) → (Kd i = 0 → w = 0) → VOK (i + 1) Kd (putW (swV V Kd Rw i) i w 8) (h0W Kd Rw) := by
      intro w w2 w0
      refine ⟨by rw [putW_ou (by omega)]; exact ih.1, fun z hz hk j hj => ?_⟩
      by_cases e : z = i
      · subst e
        rw [putW_in hj]
        unfold h0W
        rcases hk with q | q
        · rw [if_neg (by omega), w0 q]
        · rw [if_pos q, w2 q]
      · rw [putW_ou (by omega)]
        exact ih.2 z (by omega) hk j hj
    by_cases c : Kd i = 2
    · rw [swV_2 c]
      exact key _ (fun _ => rfl) (fun q => by omega)
    · by_cases c0 : Kd i = 0
      · rw [swV_0 c0]
        exact key _ (fun q => by omega) (fun _ => rfl)
      · rw [swV_n c c0]
        refine ⟨ih.1, fun z hz hk j hj => ?_⟩
        have : z ≠ i := fun e => by subst e; rcases hk with q | q; exact c0 q; exact c q
        exact ih.2 z (by omega) hk j hj
/-- one clock on words -/
def ckS (n : Nat) (Kd Wd : Nat → Nat) (NX : Nat → Nat → Nat) (HW : Nat → Nat) : Nat → Nat := fun z => if Kd z = 2 ∧ z < n then wrd (fun j => evl (eH HW) (NX z j)) (Wd z) else HW z
def ckH (n : Nat) (Kd Wd : Nat → Nat) (NX : Nat → Nat → Nat) (HW : Nat → Nat) : Nat → Nat → Nat
  | 0 => HW
  | k + 1 => ckS n Kd Wd NX (ckH n Kd Wd NX HW k)
theorem ck_step {g n : Nat} {P Dp Sl T V Vs V2 Kd Wd HW : Nat → Nat} {NX : Nat → Nat → Nat} (h : NI g P Dp Sl T) (hn : n ≤ 14) (hv : VOK n Kd V HW) (hs : ∀ z, z < 113 + g → Vs z = evn (fun k => V (k + 1)) (T z)) (hsup : ∀ z, z < n → Kd z = 2 → ∀ j, j < Wd z → Spl (QL n Kd) (NX z j))
    (h2 : V2 = swW Vs Kd (fun z => wrd (fun j => evl (fun k => V (k + 1)) (NX z j)) (Wd z)) n) : VOK n Kd V2 (ckS n Kd Wd NX HW) := by
  have a := swW_vok (f := fun z => wrd (fun j => evl (fun k => V (k + 1)) (NX z j)) (Wd z)) (vs_vok h hn hv hs) n
  rw [h2]
  refine ⟨a.1, fun z hz hk j hj => ?_⟩
  rw [a.2 z hz hk j hj]
  unfold ckS
  by_cases c : Kd z = 2 ∧ z < n
  · show (if Kd z = 2 ∧ z < n then wrd (fun j => evl (fun k => V (k + 1)) (NX z j)) (Wd z) else HW z) / 2 ^ j % 2 = _
    rw [if_pos c, if_pos c, wrd_congr (Wd z) (fun i hi => ev_H hv (hsup z hz c.1 i hi))]
  · show (if Kd z = 2 ∧ z < n then wrd (fun j => evl (fun k => V (k + 1)) (NX z j)) (Wd z) else HW z) / 2 ^ j % 2 = _
    rw [if_neg c, if_neg c]
/-- all that a ready net is known by -/
def RDY (n : Nat) (Kd Wd : Nat → Nat) (g gd : Nat) (P Dp Sl T Bt NB : Nat → Nat) (CB NX : Nat → Nat → Nat) (st : Nat) (V HW : Nat → Nat) : Prop :=
  NJ g gd P Dp Sl T ∧ (∀ z, z < n → ∀ j, OKc T g (lit Bt Wd z j) (CB z j)) ∧ (∀ z, z < n → Kd z = 2 → ∀ j, j < Wd z → OKc T g (NB (z * 8 + j)) (NX z j)) ∧
  (∀ z, z < n → ∀ j, j < Wd z → Spl (QL n Kd) (CB z j)) ∧ (∀ z, z < n → Kd z = 2 → ∀ j, j < Wd z → Spl (QL n Kd) (NX z j)) ∧ VOK n Kd V HW ∧ SETI st V T g
