/-! what a sink is given by the row of STATEMENTS -/
def cL (So Su : Nat → Nat) : Nat → Nat → Nat
  | 0, _ => 0
  | k + 1, d => if So k = 1 ∧ d = dp So k + 1 then Su k else cL So Su k d
def gVF (So Su Sr : Nat → Nat) (S : Nat) (src cnd : Nat → Nat) (v0 : Nat) : Nat → Nat → Nat × Nat
  | 0, _ => (v0, 0)
  | k + 1, d =>
    if So k = 0 then (if Su k = S ∧ d = dp So k then (src (Sr k), (gVF So Su Sr S src cnd v0 k d).2) else gVF So Su Sr S src cnd v0 k d)
    else if So k = 1 then (if d = dp So k + 1 then ((gVF So Su Sr S src cnd v0 k (dp So k)).1, 0) else gVF So Su Sr S src cnd v0 k d)
    else if So k = 2 then (if d = dp So k then ((gVF So Su Sr S src cnd v0 k (d - 1)).1, (gVF So Su Sr S src cnd v0 k d).1) else gVF So Su Sr S src cnd v0 k d)
    else (if d + 1 = dp So k then (pk (cnd (cL So Su k (d + 1))) (if es So k (d + 1) = 1 then (gVF So Su Sr S src cnd v0 k (d + 1)).2 else (gVF So Su Sr S src cnd v0 k (d + 1)).1) (if es So k (d + 1) = 1 then (gVF So Su Sr S src cnd v0 k (d + 1)).1 else (gVF So Su Sr S src cnd v0 k d).1), (gVF So Su Sr S src cnd v0 k d).2) else gVF So Su Sr S src cnd v0 k d)
/-- the gates that are made on the way -/
def gL (So Su Sr : Nat → Nat) (S : Nat) (src cnd : Nat → Nat) (v0 : Nat) : Nat → List Nat
  | 0 => []
  | k + 1 => if So k = 3 then gL So Su Sr S src cnd v0 k ++ pkl (cnd (cL So Su k (dp So k))) (if es So k (dp So k) = 1 then (gVF So Su Sr S src cnd v0 k (dp So k)).2 else (gVF So Su Sr S src cnd v0 k (dp So k)).1) (if es So k (dp So k) = 1 then (gVF So Su Sr S src cnd v0 k (dp So k)).1 else (gVF So Su Sr S src cnd v0 k (dp So k - 1)).1) else gL So Su Sr S src cnd v0 k
section GV
variable {So Su Sr : Nat → Nat} {S : Nat} {src cnd : Nat → Nat} {v0 k : Nat}
theorem gVF_0 (h : So k = 0) (d : Nat) : gVF So Su Sr S src cnd v0 (k + 1) d = if Su k = S ∧ d = dp So k then (src (Sr k), (gVF So Su Sr S src cnd v0 k d).2) else gVF So Su Sr S src cnd v0 k d := by
  conv => lhs; unfold gVF
  rw [if_pos h]
theorem gVF_1 (h : So k = 1) (d : Nat) : gVF So Su Sr S src cnd v0 (k + 1) d = if d = dp So k + 1 then ((gVF So Su Sr S src cnd v0 k (dp So k)).1, 0) else gVF So Su Sr S src cnd v0 k d := by
  conv => lhs; unfold gVF
  rw [if_neg (by omega), if_pos h]
theorem gVF_2 (h : So k = 2) (d : Nat) : gVF So Su Sr S src cnd v0 (k + 1) d = if d = dp So k then ((gVF So Su Sr S src cnd v0 k (d - 1)).1, (gVF So Su Sr S src cnd v0 k d).1) else gVF So Su Sr S src cnd v0 k d := by
  conv => lhs; unfold gVF
  rw [if_neg (by omega), if_neg (by omega), if_pos h]
theorem gVF_3 (h : So k = 3) (d : Nat) : gVF So Su Sr S src cnd v0 (k + 1) d = if d + 1 = dp So k then (pk (cnd (cL So Su k (d + 1))) (if es So k (d + 1) = 1 then (gVF So Su Sr S src cnd v0 k (d + 1)).2 else (gVF So Su Sr S src cnd v0 k (d + 1)).1) (if es So k (d + 1) = 1 then (gVF So Su Sr S src cnd v0 k (d + 1)).1 else (gVF So Su Sr S src cnd v0 k d).1), (gVF So Su Sr S src cnd v0 k d).2) else gVF So Su Sr S src cnd v0 k d := by
  conv => lhs; unfold gVF
  rw [if_neg (by omega), if_neg (by omega), if_neg (by omega)]
theorem gL_n (h : ¬ So k = 3) : gL So Su Sr S src cnd v0 (k + 1) = gL So Su Sr S src cnd v0 k := by
  conv => lhs; unfold gL
  rw [if_neg h]
theorem gL_3 (h : So k = 3) : gL So Su Sr S src cnd v0 (k + 1) = gL So Su Sr S src cnd v0 k ++ pkl (cnd (cL So Su k (dp So k))) (if es So k (dp So k) = 1 then (gVF So Su Sr S src cnd v0 k (dp So k)).2 else (gVF So Su Sr S src cnd v0 k (dp So k)).1) (if es So k (dp So k) = 1 then (gVF So Su Sr S src cnd v0 k (dp So k)).1 else (gVF So Su Sr S src cnd v0 k (dp So k - 1)).1) := by
  conv => lhs; unfold gL
  rw [if_pos h]
theorem gL_mono {c : Nat} : ∀ (j i : Nat), c ∈ gL So Su Sr S src cnd v0 i → c ∈ gL So Su Sr S src cnd v0 (i + j)
  | 0, i, h => h
  | j + 1, i, h => by
    have q := gL_mono j i h
    show c ∈ gL So Su Sr S src cnd v0 (i + j + 1)
    by_cases e : So (i + j) = 3
    · rw [gL_3 e]
      exact List.mem_append_left _ q
    · rw [gL_n e]
      exact q
theorem cL_1 (h : So k = 1) (d : Nat) : cL So Su (k + 1) d = if d = dp So k + 1 then Su k else cL So Su k d := by
  conv => lhs; unfold cL
  by_cases e : d = dp So k + 1
  · rw [if_pos ⟨h, e⟩, if_pos e]
  · rw [if_neg (fun q => e q.2), if_neg e]
theorem cL_n (h : ¬ So k = 1) (d : Nat) : cL So Su (k + 1) d = cL So Su k d := by
  conv => lhs; unfold cL
  rw [if_neg (fun q => h q.1)]
theorem es_1 (h : So k = 1) (d : Nat) : es So (k + 1) d = if d = dp So k + 1 then 0 else es So k d := by
  conv => lhs; unfold es
  by_cases e : d = dp So k + 1
  · rw [if_pos ⟨h, e⟩, if_pos e]
  · rw [if_neg (fun q => e q.2), if_neg (by omega), if_neg e]
theorem es_2 (h : So k = 2) (d : Nat) : es So (k + 1) d = if d = dp So k then 1 else es So k d := by
  conv => lhs; unfold es
  by_cases e : d = dp So k
  · rw [if_neg (by omega), if_pos ⟨h, e⟩, if_pos e]
  · rw [if_neg (by omega), if_neg (fun q => e q.2), if_neg e]
theorem es_n (h : ¬ So k = 1) (h2 : ¬ So k = 2) (d : Nat) : es So (k + 1) d = es So k d := by
  conv => lhs; unfold es
  rw [if_neg (fun q => h q.1), if_neg (fun q => h2 q.1)]
theorem es_le : ∀ (k d : Nat), es So k d ≤ 1
  | 0, d => by unfold es; omega
  | k + 1, d => by
    unfold es
    have := es_le k d
    split
    · omega
    · split <;> omega
/-- the machine's arrays at statement k, against the numbers of trees -/
def GI (So Su Sr : Nat → Nat) (S : Nat) (src cnd Lc T : Nat → Nat) (g v0 k : Nat) (V1 F1 C1 I1 T1 : Nat → Nat) (g1 : Nat) : Prop :=
  ST T g T1 g1 (gL So Su Sr S src cnd v0 k) ∧
  (∀ z, z ≤ dp So k → V1 z < 2 * (113 + g1) ∧ LT T1 (V1 z) = (gVF So Su Sr S src cnd v0 k z).1) ∧
  (∀ z, 0 < z → z ≤ dp So k → C1 z = cL So Su k z ∧ I1 z = es So k z ∧ (es So k z = 1 → F1 z < 2 * (113 + g1) ∧ LT T1 (F1 z) = (gVF So Su Sr S src cnd v0 k z).2)) ∧
  ∃ q, (∀ z, 0 < z → z ≤ q → z ≤ dp So k → Lc (cL So Su k z) < 2 * (113 + g) ∧ LT T (Lc (cL So Su k z)) = cnd (cL So Su k z)) ∧ ∀ z, q < z → z ≤ dp So k → V1 z = V1 (z - 1) ∧ (es So k z = 1 → F1 z = V1 (z - 1))
variable {Lc T V1 F1 C1 I1 T1 : Nat → Nat} {g g1 d : Nat}
theorem GI_s (h : GI So Su Sr S src cnd Lc T g v0 k V1 F1 C1 I1 T1 g1) (hd : d = dp So k) (h0 : So k = 0) (hS : Su k = S) {x : Nat} (hv : x < 2 * (113 + g)) (hxv : LT T x = src (Sr k)) (hc : ∀ z, 0 < z → z ≤ dp So k → Lc (cL So Su k z) < 2 * (113 + g) ∧ LT T (Lc (cL So Su k z)) = cnd (cL So Su k z)) : GI So Su Sr S src cnd Lc T g v0 (k + 1) (upN V1 d x) F1 C1 I1 T1 g1 := by
  obtain ⟨h1, h2, h3, q, h4, h5⟩ := h
  have e1 := h1.1
  refine ⟨by rw [gL_n (by omega)]; exact h1, fun z hz => ?_, fun z z0 hz => ?_, dp So k, fun z z0 _ hz => ?_, fun z hz1 hz2 => ?_⟩
  · rw [dp_o (by omega) (by omega)] at hz
    rw [gVF_0 h0]
    by_cases e : z = dp So k
    · rw [if_pos ⟨hS, e⟩, e, ← hd, upN_self, ST_lit h1 hv]
      exact ⟨by omega, hxv⟩
    · rw [if_neg (fun w => e w.2), upN_ne _ _ (by omega)]
      exact h2 z hz
  · rw [dp_o (by omega) (by omega)] at hz
    rw [cL_n (by omega), es_n (by omega) (by omega), gVF_0 h0]
    have := h3 z z0 hz
    by_cases e : Su k = S ∧ z = dp So k
    · rw [if_pos e]
      exact this
    · rw [if_neg e]
      exact this
  · rw [dp_o (by omega) (by omega)] at hz
    rw [cL_n (by omega)]
    exact hc z z0 hz
  · rw [dp_o (by omega) (by omega)] at hz2
    omega
theorem GI_o (h : GI So Su Sr S src cnd Lc T g v0 k V1 F1 C1 I1 T1 g1) (h0 : So k = 0) (hS : ¬ Su k = S) : GI So Su Sr S src cnd Lc T g v0 (k + 1) V1 F1 C1 I1 T1 g1 := by
  obtain ⟨h1, h2, h3, q, h4, h5⟩ := h
  refine ⟨by rw [gL_n (by omega)]; exact h1, fun z hz => ?_, fun z z0 hz => ?_, q, fun z z0 zq hz => ?_, fun z hz1 hz2 => ?_⟩
  · rw [dp_o (by omega) (by omega)] at hz
    rw [gVF_0 h0, if_neg (fun w => hS w.1)]
    exact h2 z hz
  · rw [dp_o (by omega) (by omega)] at hz
    rw [cL_n (by omega), es_n (by omega) (by omega), gVF_0 h0, if_neg (fun w => hS w.1)]
    exact h3 z z0 hz
  · rw [dp_o (by omega) (by omega)] at hz
    rw [cL_n (by omega)]
    exact h4 z z0 zq hz
  · rw [dp_o (by omega) (by omega)] at hz2
    rw [es_n (by omega) (by omega)]
    exact h5 z hz1 hz2
theorem GI_w (h : GI So Su Sr S src cnd Lc T g v0 k V1 F1 C1 I1 T1 g1) (hd : d = dp So k) (h1' : So k = 1) : GI So Su Sr S src cnd Lc T g v0 (k + 1) (upN V1 (d + 1) (V1 (d + 1 - 1))) F1 (upN C1 (d + 1) (Su k)) (upN I1 (d + 1) 0) T1 g1 := by
  obtain ⟨h1, h2, h3, q, h4, h5⟩ := h
  refine ⟨by rw [gL_n (by omega)]; exact h1, fun z hz => ?_, fun z z0 hz => ?_, min q (dp So k), fun z z0 zq hz => ?_, fun z hz1 hz2 => ?_⟩
  · rw [dp_w h1'] at hz
    rw [gVF_1 h1']
    by_cases e : z = dp So k + 1
    · rw [if_pos e, e, ← hd, upN_self, show d + 1 - 1 = d by omega]
      exact h2 d (by omega)
    · rw [if_neg e, upN_ne _ _ (by omega)]
      exact h2 z (by omega)
  · rw [dp_w h1'] at hz
    rw [cL_1 h1', es_1 h1', gVF_1 h1']
    by_cases e : z = dp So k + 1
    · rw [if_pos e, if_pos e, if_pos e, e, ← hd, upN_self, upN_self]
      exact ⟨rfl, rfl, fun w => by omega⟩
    · rw [if_neg e, if_neg e, if_neg e, upN_ne _ _ (by omega), upN_ne _ _ (by omega)]
      exact h3 z z0 (by omega)
  · rw [cL_1 h1', if_neg (by omega)]
    exact h4 z z0 (by omega) (by omega)
  · rw [dp_w h1'] at hz2
    rw [es_1 h1']
    by_cases e : z = dp So k + 1
    · rw [if_pos e, e, ← hd, upN_self, upN_ne _ _ (by omega)]
      exact ⟨rfl, fun w => by omega⟩
    · rw [if_neg e, upN_ne _ _ (by omega), upN_ne _ _ (by omega)]
      exact h5 z (by omega) (by omega)
theorem GI_e (h : GI So Su Sr S src cnd Lc T g v0 k V1 F1 C1 I1 T1 g1) (hd : d = dp So k) (h2' : So k = 2) (hd0 : 0 < d) (he : es So k (dp So k) = 0) : GI So Su Sr S src cnd Lc T g v0 (k + 1) (upN V1 d (V1 (d - 1))) (upN F1 d (V1 d)) C1 (upN I1 d 1) T1 g1 := by
  obtain ⟨h1, h2, h3, q, h4, h5⟩ := h
  refine ⟨by rw [gL_n (by omega)]; exact h1, fun z hz => ?_, fun z z0 hz => ?_, q, fun z z0 zq hz => ?_, fun z hz1 hz2 => ?_⟩
  · rw [dp_o (by omega) (by omega)] at hz
    rw [gVF_2 h2']
    by_cases e : z = dp So k
    · rw [if_pos e, e, ← hd, upN_self]
      exact h2 (d - 1) (by omega)
    · rw [if_neg e, upN_ne _ _ (by omega)]
      exact h2 z (by omega)
  · rw [dp_o (by omega) (by omega)] at hz
    rw [cL_n (by omega), es_2 h2', gVF_2 h2']
    have a := h3 z z0 hz
    by_cases e : z = dp So k
    · rw [if_pos e, if_pos e, e, ← hd, upN_self, upN_self]
      rw [e, ← hd] at a
      exact ⟨a.1, rfl, fun _ => h2 d (by omega)⟩
    · rw [if_neg e, if_neg e, upN_ne _ _ (by omega), upN_ne _ _ (by omega)]
      exact a
  · rw [dp_o (by omega) (by omega)] at hz
    rw [cL_n (by omega)]
    exact h4 z z0 zq hz
  · rw [dp_o (by omega) (by omega)] at hz2
    rw [es_2 h2']
    by_cases e : z = dp So k
    · rw [if_pos e, e, ← hd, upN_self, upN_self, upN_ne _ _ (by omega)]
      have := h5 d (by omega) (by omega)
      exact ⟨rfl, fun _ => this.1⟩
    · rw [if_neg e, upN_ne _ _ (by omega), upN_ne _ _ (by omega), upN_ne _ _ (by omega)]
      exact h5 z hz1 hz2
/-- the two that are picked from at an END -/
theorem GI_xy (h : GI So Su Sr S src cnd Lc T g v0 k V1 F1 C1 I1 T1 g1) (hd : d = dp So k) (hd0 : 0 < d) {X Y : Nat} (hX : X = if es So k d = 1 then F1 d else V1 d) (hY : Y = if es So k d = 1 then V1 d else V1 (d - 1)) :
    (X < 2 * (113 + g1) ∧ Y < 2 * (113 + g1)) ∧ (¬ X = Y → Lc (cL So Su k d) < 2 * (113 + g) ∧ LT T (Lc (cL So Su k d)) = cnd (cL So Su k d)) ∧ C1 d = cL So Su k d ∧ LT T1 X = (if es So k d = 1 then (gVF So Su Sr S src cnd v0 k d).2 else (gVF So Su Sr S src cnd v0 k d).1) ∧ LT T1 Y = (if es So k d = 1 then (gVF So Su Sr S src cnd v0 k d).1 else (gVF So Su Sr S src cnd v0 k (d - 1)).1) := by
  obtain ⟨h1, h2, h3, q, h4, h5⟩ := h
  have a := h3 d hd0 (by omega)
  have b := h2 d (by omega)
  have b' := h2 (d - 1) (by omega)
  have dis : d ≤ q ∨ (V1 d = V1 (d - 1) ∧ (es So k d = 1 → F1 d = V1 (d - 1))) := by
    rcases Nat.lt_or_ge q d with c | c
    · exact Or.inr (h5 d c (by omega))
    · exact Or.inl c
  by_cases e : es So k d = 1
  · rw [if_pos e] at hX hY
    rw [if_pos e, if_pos e, hX, hY]
    refine ⟨⟨(a.2.2 e).1, b.1⟩, fun ne => ?_, a.1, (a.2.2 e).2, b.2⟩
    rcases dis with c | c
    · exact h4 d hd0 c (by omega)
    · exact absurd ((c.2 e).trans c.1.symm) ne
  · rw [if_neg e] at hX hY
    rw [if_neg e, if_neg e, hX, hY]
    refine ⟨⟨b.1, b'.1⟩, fun ne => ?_, a.1, b.2, b'.2⟩
    rcases dis with c | c
    · exact h4 d hd0 c (by omega)
    · exact absurd c.1 ne
theorem pk_same {c c' x y : Nat} (h : x = y ∨ c = c') : pk c x y = pk c' x y ∧ pkl c x y = pkl c' x y := by
  rcases h with h | h
  · unfold pk pkl
    rw [if_pos h, if_pos h, if_pos h, if_pos h]
    exact ⟨rfl, rfl⟩
  · rw [h]
    exact ⟨rfl, rfl⟩
/-- the gates of this END are among those of the whole way -/
theorem GI_in (h : GI So Su Sr S src cnd Lc T g v0 k V1 F1 C1 I1 T1 g1) (hd : d = dp So k) (hd0 : 0 < d) (h3' : So k = 3) {X Y : Nat} (hX : X = if es So k d = 1 then F1 d else V1 d) (hY : Y = if es So k d = 1 then V1 d else V1 (d - 1)) {K : List Nat} {ms : Nat} (hk : k < ms) (hK : ∀ c, c ∈ gL So Su Sr S src cnd v0 ms → c ∈ K) (hinj : LT T1 X = LT T1 Y ↔ X = Y) :
    ∀ c, c ∈ pkl (LT T1 (Lc (cL So Su k d))) (LT T1 X) (LT T1 Y) → c ∈ K := by
  intro c hc
  obtain ⟨-, hv, -, e1, e2⟩ := GI_xy h hd hd0 hX hY
  apply hK
  have hm : c ∈ gL So Su Sr S src cnd v0 (k + 1) := by
    rw [gL_3 h3', ← hd, ← e1, ← e2]
    refine List.mem_append_right _ ?_
    have := (pk_same (c := LT T1 (Lc (cL So Su k d))) (c' := cnd (cL So Su k d)) (x := LT T1 X) (y := LT T1 Y) (by
      by_cases e : X = Y
      · exact Or.inl (hinj.mpr e)
      · exact Or.inr ((ST_lit h.1 (hv e).1).trans (hv e).2))).2
    rw [← this]
    exact hc
  have := gL_mono (ms - (k + 1)) (k + 1) hm
  rw [show k + 1 + (ms - (k + 1)) = ms by omega] at this
  exact this
theorem GI_z (h : GI So Su Sr S src cnd Lc T g v0 k V1 F1 C1 I1 T1 g1) (hd : d = dp So k) (hd0 : 0 < d) (h3' : So k = 3) {X Y : Nat} (hX : X = if es So k d = 1 then F1 d else V1 d) (hY : Y = if es So k d = 1 then V1 d else V1 (d - 1)) (hinj : LT T1 X = LT T1 Y ↔ X = Y)
    {V2 F2 I2 T2 : Nat → Nat} {g2 rv : Nat} (hst : ST T1 g1 T2 g2 (pkl (LT T1 (Lc (cL So Su k d))) (LT T1 X) (LT T1 Y))) (hrv : rv < 2 * (113 + g2)) (hpk : LT T2 rv = pk (LT T1 (Lc (cL So Su k d))) (LT T1 X) (LT T1 Y)) (hsame : X = Y → rv = X)
    (hV2 : ∀ z, z < d - 1 → V2 z = V1 z) (hV3 : V2 (d - 1) = rv) (hF2 : ∀ z, z < d → F2 z = F1 z) (hI2 : ∀ z, z < d → I2 z = I1 z) : GI So Su Sr S src cnd Lc T g v0 (k + 1) V2 F2 C1 I2 T2 g2 := by
  obtain ⟨xy, hv, -, e1, e2⟩ := GI_xy h hd hd0 hX hY
  have ps := pk_same (c := LT T1 (Lc (cL So Su k d))) (c' := cnd (cL So Su k d)) (x := LT T1 X) (y := LT T1 Y) (by
      by_cases e : X = Y
      · exact Or.inl (hinj.mpr e)
      · exact Or.inr ((ST_lit h.1 (hv e).1).trans (hv e).2))
  obtain ⟨h1, h2, h3, q, h4, h5⟩ := h
  have gg := hst.1
  refine ⟨?_, fun z hz => ?_, fun z z0 hz => ?_, min q (d - 1), fun z z0 zq hz => ?_, fun z hz1 hz2 => ?_⟩
  · rw [gL_3 h3', ← hd, ← e1, ← e2, ← ps.2]
    exact ST_tr h1 hst
  · rw [dp_e h3'] at hz
    rw [gVF_3 h3']
    by_cases e : z + 1 = dp So k
    · have ez : z = d - 1 := by omega
      rw [if_pos e, ez, hV3, show d - 1 + 1 = d by omega, ← e1, ← e2, ← ps.1]
      exact ⟨hrv, hpk⟩
    · rw [if_neg e, hV2 z (by omega)]
      have := h2 z (by omega)
      rw [ST_lit hst this.1]
      exact ⟨by omega, this.2⟩
  · rw [dp_e h3'] at hz
    rw [cL_n (by omega), es_n (by omega) (by omega), gVF_3 h3', hF2 z (by omega), hI2 z (by omega)]
    have a := h3 z z0 (by omega)
    refine ⟨a.1, a.2.1, fun w => ?_⟩
    have b := a.2.2 w
    rw [ST_lit hst b.1]
    refine ⟨by omega, ?_⟩
    rw [b.2]
    split <;> rfl
  · rw [cL_n (by omega)]
    exact h4 z z0 (by omega) (by omega)
  · rw [dp_e h3'] at hz2
    rw [es_n (by omega) (by omega)]
    have a := h5 z (by omega) (by omega)
    have fz : F2 z = F1 z := hF2 z (by omega)
    have dq : q < d := by omega
    have ad := h5 d dq (by omega)
    have exy : X = Y := by
      by_cases e : es So k d = 1
      · rw [if_pos e] at hX hY
        rw [hX, hY, ad.2 e, ad.1]
      · rw [if_neg e] at hX hY
        rw [hX, hY, ad.1]
    have rvV : rv = V1 (d - 1) := by
      rw [hsame exy, exy, hY]
      by_cases e : es So k d = 1
      · rw [if_pos e, ad.1]
      · rw [if_neg e]
    have key : ∀ y, y ≤ d - 1 → V2 y = V1 y := by
      intro y hy
      by_cases e : y = d - 1
      · rw [e, hV3, rvV]
      · exact hV2 y (by omega)
    rw [key z (by omega), key (z - 1) (by omega), fz]
    exact a
theorem GI_i {x : Nat} (hx : x < 2 * (113 + g)) (hv : LT T x = v0) : GI So Su Sr S src cnd Lc T g v0 0 (upN V1 0 x) F1 C1 I1 T g := by
  refine ⟨ST_rf rfl, fun z hz => ?_, fun z z0 hz => ?_, 0, fun z z0 zq hz => by omega, fun z hz1 hz2 => ?_⟩
  · have hz : z ≤ 0 := hz
    obtain rfl : z = 0 := by omega
    rw [upN_self]
    exact ⟨hx, hv⟩
  · have hz : z ≤ 0 := hz
    omega
  · have hz2 : z ≤ 0 := hz2
    omega
end GV
theorem pk_rv {g g2 : Nat} {T T2 P2 D2 S2 : Nat → Nat} {C X Y rv : Nat} (hN : NI g2 P2 D2 S2 T2) (hst : ST T g T2 g2 (pkl C (LT T X) (LT T Y))) (hX : X < 2 * (113 + g)) (hrl : rv < 2 * (113 + g2)) (hc : LT T2 rv = pk C (LT T X) (LT T Y)) (e : X = Y) : rv = X := by
  have gg := hst.1
  refine NI_lit hN hrl (by omega) ?_
  rw [hc, ST_lit hst hX]
  unfold pk
  rw [if_pos (by rw [e])]
def lit (Bt Wd : Nat → Nat) (S J : Nat) : Nat := if J < Wd S then Bt (S * 8 + J) else 0
theorem lit_lt {Bt Wd : Nat → Nat} (h : ∀ j, Bt j < 2786) (S J : Nat) : lit Bt Wd S J < 2786 := by
  unfold lit
  split
  · exact h _
  · decide
def mx (f : Nat → Nat) : Nat → Nat
  | 0 => 0
  | n + 1 => max (mx f n) (f n)
def mBt (Bt : Nat → Nat) (S w : Nat) : Nat → Nat := fun z => if S * 8 ≤ z ∧ z < S * 8 + w then 2 * (1 + z) else Bt z
theorem mBt_0 (Bt : Nat → Nat) (S : Nat) : Bt = mBt Bt S 0 := by
  funext z
  unfold mBt
  rw [if_neg (by omega)]
theorem mBt_s (Bt : Nat → Nat) (S w : Nat) : upN (mBt Bt S w) (S * 8 + w) (2 * (1 + S * 8 + w)) = mBt Bt S (w + 1) := by
  funext z
  unfold upN
  by_cases e : z = S * 8 + w
  · rw [if_pos e]
    unfold mBt
    rw [if_pos (by omega)]
    omega
  · rw [if_neg e]
    unfold mBt
    by_cases c : S * 8 ≤ z ∧ z < S * 8 + w
    · rw [if_pos c, if_pos (by omega)]
    · rw [if_neg c, if_neg (by omega)]
