/-! up to which level the open WHENS hold a SET of S -/
def mq (So Su : Nat → Nat) (S : Nat) : Nat → Nat
  | 0 => 0
  | k + 1 => if So k = 0 then (if Su k = S then dp So k else mq So Su S k) else if So k = 3 then min (mq So Su S k) (dp So k - 1) else mq So Su S k
section MQ
variable {So Su Sr : Nat → Nat} {S k : Nat} {src cnd : Nat → Nat} {v0 : Nat}
theorem mq_0y (h : So k = 0) (hs : Su k = S) : mq So Su S (k + 1) = dp So k := by
  conv => lhs; unfold mq
  rw [if_pos h, if_pos hs]
theorem mq_0n (h : So k = 0) (hs : ¬ Su k = S) : mq So Su S (k + 1) = mq So Su S k := by
  conv => lhs; unfold mq
  rw [if_pos h, if_neg hs]
theorem mq_3 (h : So k = 3) : mq So Su S (k + 1) = min (mq So Su S k) (dp So k - 1) := by
  conv => lhs; unfold mq
  rw [if_neg (by omega), if_pos h]
theorem mq_n (h0 : ¬ So k = 0) (h : ¬ So k = 3) : mq So Su S (k + 1) = mq So Su S k := by
  conv => lhs; unfold mq
  rw [if_neg h0, if_neg h]
theorem mq_le : ∀ k, mq So Su S k ≤ dp So k
  | 0 => Nat.le_refl 0
  | k + 1 => by
    have ih := mq_le k
    by_cases h0 : So k = 0
    · rw [dp_o (by omega) (by omega)]
      by_cases hs : Su k = S
      · rw [mq_0y h0 hs]; exact Nat.le_refl _
      · rw [mq_0n h0 hs]; exact ih
    · by_cases h3 : So k = 3
      · rw [mq_3 h3, dp_e h3]; omega
      · rw [mq_n h0 h3]
        by_cases h1 : So k = 1
        · rw [dp_w h1]; omega
        · rw [dp_o h1 h3]; exact ih
/-- a level up to the mark: it has been open since a SET of S -/
theorem mq_cl : ∀ k y, 0 < y → y ≤ mq So Su S k → ∃ j, j < k ∧ So j = 0 ∧ Su j = S ∧ y ≤ dp So j ∧ cL So Su j y = cL So Su k y
  | 0, y, h0, h => by
    have h : y ≤ 0 := h
    omega
  | k + 1, y, hy, h => by
    have ih := mq_cl k y hy
    have hle := mq_le (So := So) (Su := Su) (S := S) k
    have up : y ≤ mq So Su S k → cL So Su (k + 1) y = cL So Su k y → ∃ j, j < k + 1 ∧ So j = 0 ∧ Su j = S ∧ y ≤ dp So j ∧ cL So Su j y = cL So Su (k + 1) y := fun a e => by
      obtain ⟨j, j1, j2, j3, j4, j5⟩ := ih a
      exact ⟨j, by omega, j2, j3, j4, by rw [e]; exact j5⟩
    by_cases h0 : So k = 0
    · have e : cL So Su (k + 1) y = cL So Su k y := cL_n (by omega) y
      by_cases hs : Su k = S
      · rw [mq_0y h0 hs] at h
        exact ⟨k, by omega, h0, hs, h, e.symm⟩
      · rw [mq_0n h0 hs] at h
        exact up h e
    · by_cases h3 : So k = 3
      · rw [mq_3 h3] at h
        exact up (Nat.le_trans h (Nat.min_le_left _ _)) (cL_n (by rw [h3]; decide) y)
      · rw [mq_n h0 h3] at h
        refine up h ?_
        by_cases h1 : So k = 1
        · rw [cL_1 h1, if_neg (by omega)]
        · exact cL_n h1 y
/-- above the mark nothing was given -/
def FLT (So Su Sr : Nat → Nat) (S : Nat) (src cnd : Nat → Nat) (v0 k : Nat) : Prop := ∀ y, mq So Su S k < y → y ≤ dp So k → (gVF So Su Sr S src cnd v0 k y).1 = (gVF So Su Sr S src cnd v0 k (y - 1)).1 ∧ (es So k y = 1 → (gVF So Su Sr S src cnd v0 k y).2 = (gVF So Su Sr S src cnd v0 k (y - 1)).1)
/-- the two sides of the pick at an END -/
def pX (So Su Sr : Nat → Nat) (S : Nat) (src cnd : Nat → Nat) (v0 k : Nat) : Nat := if es So k (dp So k) = 1 then (gVF So Su Sr S src cnd v0 k (dp So k)).2 else (gVF So Su Sr S src cnd v0 k (dp So k)).1
def pY (So Su Sr : Nat → Nat) (S : Nat) (src cnd : Nat → Nat) (v0 k : Nat) : Nat := if es So k (dp So k) = 1 then (gVF So Su Sr S src cnd v0 k (dp So k)).1 else (gVF So Su Sr S src cnd v0 k (dp So k - 1)).1
theorem FLT_xy (h : FLT So Su Sr S src cnd v0 k) (hd : 0 < dp So k) (hq : mq So Su S k < dp So k) : pX So Su Sr S src cnd v0 k = pY So Su Sr S src cnd v0 k := by
  have a := h (dp So k) hq (Nat.le_refl _)
  unfold pX pY
  by_cases e : es So k (dp So k) = 1
  · rw [if_pos e, if_pos e, a.1, a.2 e]
  · rw [if_neg e, if_neg e, a.1]
theorem gVF_z (h : So k = 3) (hd : 0 < dp So k) (d : Nat) : gVF So Su Sr S src cnd v0 (k + 1) d = if d + 1 = dp So k then (pk (cnd (cL So Su k (dp So k))) (pX So Su Sr S src cnd v0 k) (pY So Su Sr S src cnd v0 k), (gVF So Su Sr S src cnd v0 k d).2) else gVF So Su Sr S src cnd v0 k d := by
  rw [gVF_3 h]
  by_cases e : d + 1 = dp So k
  · rw [if_pos e, if_pos e]
    unfold pX pY
    rw [e, show dp So k - 1 = d by omega]
  · rw [if_neg e, if_neg e]
theorem gL_z (h : So k = 3) : gL So Su Sr S src cnd v0 (k + 1) = gL So Su Sr S src cnd v0 k ++ pkl (cnd (cL So Su k (dp So k))) (pX So Su Sr S src cnd v0 k) (pY So Su Sr S src cnd v0 k) := gL_3 h
theorem pk_self (c x : Nat) : pk c x x = x := by
  unfold pk
  rw [if_pos rfl]
theorem pkl_self (c x : Nat) : pkl c x x = [] := by
  unfold pkl
  rw [if_pos rfl]
theorem FLT_0 : FLT So Su Sr S src cnd v0 0 := fun y h1 h2 => by
  have h1 : 0 < y := h1
  have h2 : y ≤ 0 := h2
  omega
theorem FLT_s (hs4 : So k < 4) (hl : So k = 3 → 0 < dp So k) (h : FLT So Su Sr S src cnd v0 k) : FLT So Su Sr S src cnd v0 (k + 1) := by
  intro y h1 h2
  have hle := mq_le (So := So) (Su := Su) (S := S) k
  rcases (show So k = 0 ∨ So k = 1 ∨ So k = 2 ∨ So k = 3 by omega) with e | e | e | e
  · rw [dp_o (by omega) (by omega)] at h2
    by_cases hs : Su k = S
    · rw [mq_0y e hs] at h1
      omega
    · rw [mq_0n e hs] at h1
      rw [es_n (by omega) (by omega), gVF_0 e, gVF_0 e, if_neg (fun q => hs q.1), if_neg (fun q => hs q.1)]
      exact h y h1 h2
  · rw [dp_w e] at h2
    rw [mq_n (by omega) (by omega)] at h1
    rw [es_1 e, gVF_1 e, gVF_1 e]
    by_cases q : y = dp So k + 1
    · rw [if_pos q, if_pos q, if_neg (by omega), show y - 1 = dp So k by omega]
      exact ⟨rfl, fun z => by omega⟩
    · rw [if_neg q, if_neg q, if_neg (by omega)]
      exact h y h1 (by omega)
  · rw [dp_o (by omega) (by omega)] at h2
    rw [mq_n (by omega) (by omega)] at h1
    rw [es_2 e, gVF_2 e, gVF_2 e]
    have a := h y h1 h2
    by_cases q : y = dp So k
    · rw [if_pos q, if_pos q, if_neg (by omega)]
      exact ⟨rfl, fun _ => a.1⟩
    · rw [if_neg q, if_neg q, if_neg (by omega)]
      exact a
  · have hd := hl e
    rw [dp_e e] at h2
    rw [mq_3 e] at h1
    rw [es_n (by omega) (by omega), gVF_z e hd, gVF_z e hd]
    rw [if_neg (show ¬ y - 1 + 1 = dp So k by omega)]
    by_cases q : y + 1 = dp So k
    · rw [if_pos q]
      have a := h y (by omega) (by omega)
      have xy := FLT_xy h hd (by omega)
      rw [xy, pk_self]
      refine ⟨?_, a.2⟩
      show pY So Su Sr S src cnd v0 k = _
      have b := h (dp So k) (by omega) (Nat.le_refl _)
      unfold pY
      split
      · rw [b.1, show dp So k - 1 = y by omega]; exact a.1
      · rw [show dp So k - 1 = y by omega]; exact a.1
    · rw [if_neg q]
      exact h y (by omega) (by omega)
theorem FLT_all {ms : Nat} (hs4 : ∀ k, So k < 4) (hl : LG So ms) : ∀ k, k ≤ ms → FLT So Su Sr S src cnd v0 k
  | 0, _ => FLT_0
  | k + 1, hk => FLT_s (hs4 k) (hl k (by omega)).2.1 (FLT_all hs4 hl k (by omega))
/-- what holds of the source, of all that is given, and is kept by the picks, holds of the outcome; and of the gates -/
theorem gVF_P {ms : Nat} (Pp Qq : Nat → Prop) (hs4 : ∀ k, So k < 4) (hl : LG So ms) (h0 : Pp v0) (hs : ∀ k, k < ms → So k = 0 → Su k = S → Pp (src (Sr k)))
    (hp : ∀ k, k < ms → So k = 0 → Su k = S → ∀ y, 0 < y → y ≤ dp So k → ∀ a b, Pp a → Pp b → Pp (pk (cnd (cL So Su k y)) a b) ∧ ∀ c, c ∈ pkl (cnd (cL So Su k y)) a b → Qq c) :
    ∀ k, k ≤ ms → (∀ d, d ≤ dp So k → Pp (gVF So Su Sr S src cnd v0 k d).1 ∧ (0 < d → es So k d = 1 → Pp (gVF So Su Sr S src cnd v0 k d).2)) ∧ ∀ c, c ∈ gL So Su Sr S src cnd v0 k → Qq c
  | 0, _ => ⟨fun d hd => ⟨h0, fun _ e => by have e : 0 = 1 := e; omega⟩, fun c hc => absurd hc List.not_mem_nil⟩
  | k + 1, hk => by
    obtain ⟨ih, ig⟩ := gVF_P Pp Qq hs4 hl h0 hs hp k (by omega)
    have h4 := hs4 k
    rcases (show So k = 0 ∨ So k = 1 ∨ So k = 2 ∨ So k = 3 by omega) with e | e | e | e
    · refine ⟨fun d hd => ?_, by rw [gL_n (by omega)]; exact ig⟩
      rw [dp_o (by omega) (by omega)] at hd
      rw [es_n (by omega) (by omega), gVF_0 e]
      split
      · next q => exact ⟨hs k (by omega) e q.1, (ih d hd).2⟩
      · exact ih d hd
    · refine ⟨fun d hd => ?_, by rw [gL_n (by omega)]; exact ig⟩
      rw [dp_w e] at hd
      rw [es_1 e, gVF_1 e]
      by_cases q : d = dp So k + 1
      · rw [if_pos q, if_pos q]
        exact ⟨(ih _ (Nat.le_refl _)).1, fun _ z => by omega⟩
      · rw [if_neg q, if_neg q]
        exact ih d (by omega)
    · refine ⟨fun d hd => ?_, by rw [gL_n (by omega)]; exact ig⟩
      rw [dp_o (by omega) (by omega)] at hd
      rw [es_2 e, gVF_2 e]
      by_cases q : d = dp So k
      · rw [if_pos q]
        exact ⟨(ih (d - 1) (by omega)).1, fun _ _ => (ih d hd).1⟩
      · rw [if_neg q, if_neg q]
        exact ih d hd
    · have hd0 := (hl k (by omega)).2.1 e
      have px : Pp (pX So Su Sr S src cnd v0 k) := by
        unfold pX
        split
        · next q => exact (ih _ (Nat.le_refl _)).2 hd0 q
        · exact (ih _ (Nat.le_refl _)).1
      have py : Pp (pY So Su Sr S src cnd v0 k) := by
        unfold pY
        split
        · exact (ih _ (Nat.le_refl _)).1
        · exact (ih _ (by omega)).1
      have pz : Pp (pk (cnd (cL So Su k (dp So k))) (pX So Su Sr S src cnd v0 k) (pY So Su Sr S src cnd v0 k)) ∧ ∀ c, c ∈ pkl (cnd (cL So Su k (dp So k))) (pX So Su Sr S src cnd v0 k) (pY So Su Sr S src cnd v0 k) → Qq c := by
        rcases Nat.lt_or_ge (mq So Su S k) (dp So k) with q | q
        · rw [FLT_xy (FLT_all hs4 hl k (by omega)) hd0 q, pk_self, pkl_self]
          exact ⟨py, fun c hc => absurd hc List.not_mem_nil⟩
        · obtain ⟨j, j1, j2, j3, j4, j5⟩ := mq_cl k (dp So k) hd0 q
          rw [← j5]
          exact hp j (by omega) j2 j3 _ hd0 j4 _ _ px py
      refine ⟨fun d hd => ?_, fun c hc => ?_⟩
      · rw [dp_e e] at hd
        rw [es_n (by omega) (by omega), gVF_z e hd0]
        by_cases q : d + 1 = dp So k
        · rw [if_pos q]
          exact ⟨pz.1, (ih d (by omega)).2⟩
        · rw [if_neg q]
          exact ih d (by omega)
      · rw [gL_z e] at hc
        rcases List.mem_append.mp hc with q | q
        · exact ig c q
        · exact pz.2 c q
/-- only what a SET of S reads counts -/
theorem gVF_cg {ms : Nat} {src2 cnd2 : Nat → Nat} (hs4 : ∀ k, So k < 4) (hl : LG So ms) (hs : ∀ k, k < ms → So k = 0 → Su k = S → src (Sr k) = src2 (Sr k) ∧ ∀ y, 0 < y → y ≤ dp So k → cnd (cL So Su k y) = cnd2 (cL So Su k y)) :
    ∀ k, k ≤ ms → ∀ d, d ≤ dp So k → (gVF So Su Sr S src cnd v0 k d).1 = (gVF So Su Sr S src2 cnd2 v0 k d).1 ∧ (0 < d → es So k d = 1 → (gVF So Su Sr S src cnd v0 k d).2 = (gVF So Su Sr S src2 cnd2 v0 k d).2)
  | 0, _, d, hd => ⟨rfl, fun _ _ => rfl⟩
  | k + 1, hk, d, hd => by
    have ih := gVF_cg hs4 hl hs k (by omega)
    have h4 := hs4 k
    rcases (show So k = 0 ∨ So k = 1 ∨ So k = 2 ∨ So k = 3 by omega) with e | e | e | e
    · rw [dp_o (by omega) (by omega)] at hd
      rw [es_n (by omega) (by omega), gVF_0 e, gVF_0 e]
      by_cases q : Su k = S ∧ d = dp So k
      · rw [if_pos q, if_pos q]
        exact ⟨(hs k (by omega) e q.1).1, (ih d hd).2⟩
      · rw [if_neg q, if_neg q]
        exact ih d hd
    · rw [dp_w e] at hd
      rw [es_1 e, gVF_1 e, gVF_1 e]
      by_cases q : d = dp So k + 1
      · rw [if_pos q, if_pos q, if_pos q]
        exact ⟨(ih _ (Nat.le_refl _)).1, fun _ z => by omega⟩
      · rw [if_neg q, if_neg q, if_neg q]
        exact ih d (by omega)
    · rw [dp_o (by omega) (by omega)] at hd
      rw [es_2 e, gVF_2 e, gVF_2 e]
      by_cases q : d = dp So k
      · rw [if_pos q, if_pos q]
        exact ⟨(ih (d - 1) (by omega)).1, fun _ _ => (ih d hd).1⟩
      · rw [if_neg q, if_neg q, if_neg q]
        exact ih d hd
    · have hd0 := (hl k (by omega)).2.1 e
      have px : pX So Su Sr S src cnd v0 k = pX So Su Sr S src2 cnd2 v0 k := by
        unfold pX
        by_cases q : es So k (dp So k) = 1
        · rw [if_pos q, if_pos q]; exact (ih _ (Nat.le_refl _)).2 hd0 q
        · rw [if_neg q, if_neg q]; exact (ih _ (Nat.le_refl _)).1
      have py : pY So Su Sr S src cnd v0 k = pY So Su Sr S src2 cnd2 v0 k := by
        unfold pY
        by_cases q : es So k (dp So k) = 1
        · rw [if_pos q, if_pos q]; exact (ih _ (Nat.le_refl _)).1
        · rw [if_neg q, if_neg q]; exact (ih _ (by omega)).1
      rw [dp_e e] at hd
      rw [es_n (by omega) (by omega), gVF_z e hd0, gVF_z e hd0]
      by_cases q : d + 1 = dp So k
      · rw [if_pos q, if_pos q]
        refine ⟨?_, (ih d (by omega)).2⟩
        show pk _ _ _ = pk _ _ _
        rcases Nat.lt_or_ge (mq So Su S k) (dp So k) with w | w
        · rw [FLT_xy (FLT_all hs4 hl k (by omega)) hd0 w, pk_self, FLT_xy (FLT_all hs4 hl k (by omega)) hd0 w, pk_self]
          exact py
        · obtain ⟨j, j1, j2, j3, j4, j5⟩ := mq_cl k (dp So k) hd0 w
          rw [px, py, ← j5, (hs j (by omega) j2 j3).2 _ hd0 j4]
      · rw [if_neg q, if_neg q]
        exact ih d (by omega)
/-! how many gates -/
theorem jl_len (x y : Nat) : (jl x y).length ≤ 1 := by
  unfold jl
  split
  · exact Nat.zero_le _
  · split
    · exact Nat.zero_le _
    · split
      · exact Nat.zero_le _
      · exact Nat.le_refl _
theorem pkl_len (c x y : Nat) : (pkl c x y).length ≤ 3 := by
  unfold pkl eil
  split
  · exact Nat.zero_le _
  · rw [List.length_append, List.length_append]
    have := jl_len c x
    have := jl_len (op1 c) y
    have := jl_len (op1 (jn c x)) (op1 (jn (op1 c) y))
    omega
theorem dfl_len (x y : Nat) : (dfl x y).length ≤ 3 := by
  unfold dfl
  rw [List.length_append, List.length_append]
  have := jl_len x y
  have := jl_len (op1 x) (op1 y)
  have := jl_len (op1 (jn x y)) (op1 (jn (op1 x) (op1 y)))
  omega
theorem catL_len {f : Nat → List Nat} {b : Nat} (h : ∀ j, (f j).length ≤ b) : ∀ w, (catL f w).length ≤ w * b
  | 0 => by rw [Nat.zero_mul]; exact Nat.le_refl _
  | w + 1 => by
    show (catL f w ++ f w).length ≤ _
    rw [List.length_append, Nat.succ_mul]
    have := catL_len h w
    have := h w
    omega
/-- how many of a sort; how many SETS of S -/
def nSo (So : Nat → Nat) (v k : Nat) : Nat := cnt (fun j => if So j = v then 1 else 0) k
def nSe (So Su : Nat → Nat) (S k : Nat) : Nat := cnt (fun j => if So j = 0 ∧ Su j = S then 1 else 0) k
theorem nSo_s (v : Nat) : nSo So v (k + 1) = nSo So v k + if So k = v then 1 else 0 := rfl
theorem nSe_s : nSe So Su S (k + 1) = nSe So Su S k + if So k = 0 ∧ Su k = S then 1 else 0 := rfl
theorem gL_len {ms : Nat} (hs4 : ∀ k, So k < 4) (hl : LG So ms) : ∀ k, k ≤ ms → (gL So Su Sr S src cnd v0 k).length + 3 * mq So Su S k ≤ 12 * nSe So Su S k ∧ (gL So Su Sr S src cnd v0 k).length ≤ 3 * nSo So 3 k
  | 0, _ => ⟨Nat.le_refl _, Nat.le_refl _⟩
  | k + 1, hk => by
    have ih := gL_len hs4 hl k (by omega)
    have h4 := hs4 k
    have hle := mq_le (So := So) (Su := Su) (S := S) k
    have h44 := dp_le hl k (by omega)
    rw [nSo_s, nSe_s]
    by_cases e3 : So k = 3
    · have hd0 := (hl k (by omega)).2.1 e3
      rw [gL_z e3, List.length_append, if_neg (by omega), if_pos e3, mq_3 e3]
      have hp := pkl_len (cnd (cL So Su k (dp So k))) (pX So Su Sr S src cnd v0 k) (pY So Su Sr S src cnd v0 k)
      rcases Nat.lt_or_ge (mq So Su S k) (dp So k) with w | w
      · have e : (pkl (cnd (cL So Su k (dp So k))) (pX So Su Sr S src cnd v0 k) (pY So Su Sr S src cnd v0 k)).length = 0 := by
          rw [FLT_xy (FLT_all hs4 hl k (by omega)) hd0 w, pkl_self]
          rfl
        omega
      · omega
    · rw [gL_n e3, if_neg e3]
      by_cases e0 : So k = 0
      · by_cases hs : Su k = S
        · rw [if_pos ⟨e0, hs⟩, mq_0y e0 hs]
          omega
        · rw [if_neg (fun q => hs q.2), mq_0n e0 hs]
          omega
      · rw [if_neg (fun q => e0 q.1), mq_n e0 e3]
        omega
/-- WHENS and ENDS are as many, and SETS fill the rest -/
theorem nSo_dp {ms : Nat} (hl : LG So ms) : ∀ k, k ≤ ms → nSo So 1 k = nSo So 3 k + dp So k ∧ nSo So 0 k + nSo So 1 k + nSo So 3 k ≤ k
  | 0, _ => ⟨rfl, Nat.le_refl _⟩
  | k + 1, hk => by
    have ih := nSo_dp hl k (by omega)
    rw [nSo_s, nSo_s, nSo_s]
    by_cases e1 : So k = 1
    · rw [dp_w e1, if_pos e1, if_neg (by omega), if_neg (by omega)]
      omega
    · by_cases e3 : So k = 3
      · have hd0 := (hl k (by omega)).2.1 e3
        rw [dp_e e3, if_neg e1, if_pos e3, if_neg (by omega)]
        omega
      · rw [dp_o e1 e3, if_neg e1, if_neg e3]
        split <;> omega
end MQ
