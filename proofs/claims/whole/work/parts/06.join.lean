/-! what joining does, on trees' numbers -/
def GS (T : Nat → Nat) (g c : Nat) : Prop := ∃ n, 113 ≤ n ∧ n < 113 + g ∧ T n = c
def jl (x y : Nat) : List Nat := if x = 0 ∨ y = 0 ∨ x = op1 y then [] else if x = 1 then [] else if y = 1 ∨ x = y then [] else [gN x y]
def eil (x y : Nat) : List Nat := jl (op1 x) (op1 y)
def pkl (c x y : Nat) : List Nat := if x = y then [] else jl c x ++ (jl (op1 c) y ++ eil (jn c x) (jn (op1 c) y))
def dfl (x y : Nat) : List Nat := jl x y ++ (jl (op1 x) (op1 y) ++ jl (op1 (jn x y)) (op1 (jn (op1 x) (op1 y))))
/-- the net has grown by the gates of L -/
def ST (T : Nat → Nat) (g : Nat) (T2 : Nat → Nat) (g2 : Nat) (L : List Nat) : Prop := g ≤ g2 ∧ (∀ n, n < 113 + g → T2 n = T n) ∧ ∀ c, GS T2 g2 c ↔ GS T g c ∨ c ∈ L
theorem ST_rf {T : Nat → Nat} {g : Nat} {L : List Nat} (h : L = []) : ST T g T g L := by
  subst h
  exact ⟨Nat.le_refl _, fun _ _ => rfl, fun c => by simp⟩
theorem ST_tr {T T2 T3 : Nat → Nat} {g g2 g3 : Nat} {L L2 : List Nat} (h : ST T g T2 g2 L) (h2 : ST T2 g2 T3 g3 L2) : ST T g T3 g3 (L ++ L2) := by
  refine ⟨Nat.le_trans h.1 h2.1, fun n hn => by rw [h2.2.1 n (by have := h.1; omega), h.2.1 n hn], fun c => ?_⟩
  rw [h2.2.2 c, h.2.2 c, List.mem_append, or_assoc]
theorem ST_lit {T T2 : Nat → Nat} {g g2 : Nat} {L : List Nat} (h : ST T g T2 g2 L) {x : Nat} (hx : x < 2 * (113 + g)) : LT T2 x = LT T x := by
  unfold LT
  rw [h.2.1 _ (by omega)]
/-- all gates that will ever be made are known ahead, and there is room for them -/
def AL (K : List Nat) (T : Nat → Nat) (g : Nat) : Prop := K.length ≤ 1280 ∧ ∀ c, GS T g c → c ∈ K
theorem AL_st {K L : List Nat} {T T2 : Nat → Nat} {g g2 : Nat} (h : AL K T g) (hs : ST T g T2 g2 L) (hL : ∀ c, c ∈ L → c ∈ K) : AL K T2 g2 := by
  refine ⟨h.1, fun c hc => ?_⟩
  rcases (hs.2.2 c).mp hc with q | q
  · exact h.2 c q
  · exact hL c q
theorem AL_lt {K : List Nat} {T : Nat → Nat} {g z : Nat} (h : AL K T g) (inj : ∀ n n', n < 113 + g → n' < 113 + g → T n = T n' → n = n') (hz : z ∈ K) (hn : ∀ n, n < 113 + g → T n ≠ z) : g < 1280 := by
  have key : g + 1 ≤ K.length := by
    have hmem : ∀ i, i < g + 1 → (if i = g then z else T (113 + i)) ∈ K := by
      intro i hi
      split
      · exact hz
      · exact h.2 _ ⟨113 + i, by omega, by omega, rfl⟩
    refine pigeon K.length (g + 1) (fun i => K.idxOf (if i = g then z else T (113 + i))) ?_ ?_
    · intro i hi
      exact List.idxOf_lt_length_of_mem (hmem i hi)
    · intro i j hi hj e
      have e : K.idxOf (if i = g then z else T (113 + i)) = K.idxOf (if j = g then z else T (113 + j)) := e
      have e1 : K[K.idxOf (if i = g then z else T (113 + i))]? = some (if i = g then z else T (113 + i)) := List.getElem?_eq_some_iff.mpr ⟨List.idxOf_lt_length_of_mem (hmem i hi), List.getElem_idxOf _⟩
      have e2 : K[K.idxOf (if j = g then z else T (113 + j))]? = some (if j = g then z else T (113 + j)) := List.getElem?_eq_some_iff.mpr ⟨List.idxOf_lt_length_of_mem (hmem j hj), List.getElem_idxOf _⟩
      rw [e, e2] at e1
      have e3 := Option.some.inj e1
      split at e3 <;> split at e3
      · omega
      · exact absurd e3.symm (hn _ (by omega))
      · exact absurd e3 (hn _ (by omega))
      · have := inj (113 + j) (113 + i) (by omega) (by omega) e3
        omega
  have := h.1
  omega
/-- the greatest DEPTH is that of a gate, or 0 -/
def GDI (gd : Nat) (T : Nat → Nat) (g : Nat) : Prop := (∀ n, 113 ≤ n → n < 113 + g → dpn (T n) ≤ gd) ∧ (gd = 0 ∨ ∃ n, 113 ≤ n ∧ n < 113 + g ∧ dpn (T n) = gd)
def NJ (g gd : Nat) (P Dp Sl T : Nat → Nat) : Prop := NI g P Dp Sl T ∧ GDI gd T g
section JL
variable {g : Nat} {P Dp Sl T : Nat → Nat} {X Y : Nat}
theorem LT_0 (h : NI g P Dp Sl T) : LT T 0 = 0 := by unfold LT; rw [show 0 / 2 = 0 from rfl, h.1]
theorem LT_1 (h : NI g P Dp Sl T) : LT T 1 = 1 := by unfold LT; rw [show 1 / 2 = 0 from rfl, h.1]
theorem LT_e0 (h : NI g P Dp Sl T) (hX : X < 2 * (113 + g)) : LT T X = 0 ↔ X = 0 := by
  constructor
  · intro e
    exact NI_lit h hX (by omega) (by rw [e, LT_0 h])
  · intro e
    rw [e, LT_0 h]
theorem LT_e1 (h : NI g P Dp Sl T) (hX : X < 2 * (113 + g)) : LT T X = 1 ↔ X = 1 := by
  constructor
  · intro e
    exact NI_lit h hX (by omega) (by rw [e, LT_1 h])
  · intro e
    rw [e, LT_1 h]
theorem op1_lt {x n : Nat} (h : x < 2 * n) : op1 x < 2 * n := by
  unfold op1
  split <;> omega
theorem LT_eo (h : NI g P Dp Sl T) (hX : X < 2 * (113 + g)) (hY : Y < 2 * (113 + g)) : LT T X = op1 (LT T Y) ↔ X = op1 Y := by
  rw [← LT_op]
  constructor
  · exact NI_lit h hX (op1_lt hY)
  · intro e
    rw [e]
theorem LT_ee (h : NI g P Dp Sl T) (hX : X < 2 * (113 + g)) (hY : Y < 2 * (113 + g)) : LT T X = LT T Y ↔ X = Y := by
  constructor
  · exact NI_lit h hX hY
  · intro e
    rw [e]
theorem J_0 (h : NI g P Dp Sl T) (hX : X < 2 * (113 + g)) (hY : Y < 2 * (113 + g)) (c : X = 0 ∨ Y = 0 ∨ X = op1 Y) : jl (LT T X) (LT T Y) = [] ∧ LT T 0 = jn (LT T X) (LT T Y) := by
  have c' : LT T X = 0 ∨ LT T Y = 0 ∨ LT T X = op1 (LT T Y) := by rw [LT_e0 h hX, LT_e0 h hY, LT_eo h hX hY]; exact c
  unfold jl jn
  rw [if_pos c', if_pos c', LT_0 h]
  exact ⟨rfl, rfl⟩
theorem J_1 (h : NI g P Dp Sl T) (hX : X < 2 * (113 + g)) (hY : Y < 2 * (113 + g)) (c : ¬ (X = 0 ∨ Y = 0 ∨ X = op1 Y)) (c1 : X = 1) : jl (LT T X) (LT T Y) = [] ∧ LT T Y = jn (LT T X) (LT T Y) := by
  have c' : ¬ (LT T X = 0 ∨ LT T Y = 0 ∨ LT T X = op1 (LT T Y)) := by rw [LT_e0 h hX, LT_e0 h hY, LT_eo h hX hY]; exact c
  have c1' : LT T X = 1 := (LT_e1 h hX).mpr c1
  unfold jl jn
  rw [if_neg c', if_neg c', if_pos c1', if_pos c1']
  exact ⟨rfl, rfl⟩
theorem J_2 (h : NI g P Dp Sl T) (hX : X < 2 * (113 + g)) (hY : Y < 2 * (113 + g)) (c : ¬ (X = 0 ∨ Y = 0 ∨ X = op1 Y)) (c1 : ¬ X = 1) (c2 : Y = 1 ∨ X = Y) : jl (LT T X) (LT T Y) = [] ∧ LT T X = jn (LT T X) (LT T Y) := by
  have c' : ¬ (LT T X = 0 ∨ LT T Y = 0 ∨ LT T X = op1 (LT T Y)) := by rw [LT_e0 h hX, LT_e0 h hY, LT_eo h hX hY]; exact c
  have c1' : ¬ LT T X = 1 := fun q => c1 ((LT_e1 h hX).mp q)
  have c2' : LT T Y = 1 ∨ LT T X = LT T Y := by rw [LT_e1 h hY, LT_ee h hX hY]; exact c2
  unfold jl jn
  rw [if_neg c', if_neg c', if_neg c1', if_neg c1', if_pos c2', if_pos c2']
  exact ⟨rfl, rfl⟩
theorem J_3 (h : NI g P Dp Sl T) (hX : X < 2 * (113 + g)) (hY : Y < 2 * (113 + g)) (c : ¬ (X = 0 ∨ Y = 0 ∨ X = op1 Y)) (c1 : ¬ X = 1) (c2 : ¬ (Y = 1 ∨ X = Y)) : jq (LT T X) (LT T Y) ∧ jl (LT T X) (LT T Y) = [gN (LT T X) (LT T Y)] ∧ jn (LT T X) (LT T Y) = 2 * gN (LT T X) (LT T Y) := by
  have c' : ¬ (LT T X = 0 ∨ LT T Y = 0 ∨ LT T X = op1 (LT T Y)) := by rw [LT_e0 h hX, LT_e0 h hY, LT_eo h hX hY]; exact c
  have c1' : ¬ LT T X = 1 := fun q => c1 ((LT_e1 h hX).mp q)
  have c2' : ¬ (LT T Y = 1 ∨ LT T X = LT T Y) := by rw [LT_e1 h hY, LT_ee h hX hY]; exact c2
  unfold jl jn
  rw [if_neg c', if_neg c', if_neg c1', if_neg c1', if_neg c2', if_neg c2']
  exact ⟨⟨c', c1', c2'⟩, rfl, rfl⟩
end JL
theorem jq_comm {x y : Nat} (h : jq x y) : jq y x := by
  unfold jq at *
  refine ⟨?_, by omega, by omega⟩
  rintro (e | e | e)
  · omega
  · omega
  · exact h.1 (Or.inr (Or.inr (by rw [e, op1_op1])))
theorem mm_cases (X Y : Nat) (h : X ≠ Y) : (min X Y = X ∧ max X Y = Y ∧ X < Y) ∨ (min X Y = Y ∧ max X Y = X ∧ Y < X) := by omega
theorem gN_mm (T : Nat → Nat) (X Y : Nat) : gN (LT T (min X Y)) (LT T (max X Y)) = gN (LT T X) (LT T Y) := by
  rcases Nat.le_total X Y with h | h
  · rw [Nat.min_eq_left h, Nat.max_eq_right h]
  · rw [Nat.min_eq_right h, Nat.max_eq_left h, gN_comm]
/-- found -/
theorem J_old {g : Nat} {P Dp Sl T : Nat → Nat} {X Y k : Nat} (h : NI g P Dp Sl T) (hX : X < 2 * (113 + g)) (hY : Y < 2 * (113 + g)) (hg : g ≤ 1280) (hne : X ≠ Y) (c3 : jl (LT T X) (LT T Y) = [gN (LT T X) (LT T Y)] ∧ jn (LT T X) (LT T Y) = 2 * gN (LT T X) (LT T Y))
    (hk : k < 2048) (hf : Fnd P Sl (min X Y * 4096 + max X Y) k) (h0 : ¬ Sl k = 0) : ST T g T g (jl (LT T X) (LT T Y)) ∧ 2 * Sl k < 2 * (113 + g) ∧ LT T (2 * Sl k) = jn (LT T X) (LT T Y) := by
  obtain ⟨d, -, -, -, hz⟩ := hf
  have hP : P (Sl k) = min X Y * 4096 + max X Y := hz.resolve_left h0
  have hr := (h.2.2.2.2.2.1 k hk).resolve_left h0
  obtain ⟨a, b, e1, e2, e3, e4, e5⟩ := h.2.2.1 (Sl k) hr.1 hr.2
  have hm := mm_cases X Y hne
  have q1 : a = min X Y := by omega
  have q2 : b = max X Y := by omega
  rw [q1, q2, gN_mm] at e4
  refine ⟨⟨Nat.le_refl _, fun _ _ => rfl, fun c => ⟨Or.inl, fun q => ?_⟩⟩, by omega, ?_⟩
  · rcases q with q | q
    · exact q
    · rw [c3.1, List.mem_singleton] at q
      subst q
      exact ⟨Sl k, hr.1, hr.2, e4⟩
  · rw [c3.2]
    show 2 * T (2 * Sl k / 2) + 2 * Sl k % 2 = _
    rw [show 2 * Sl k / 2 = Sl k by omega, e4]
    omega
/-- made -/
theorem J_new {g gd : Nat} {P Dp Sl T : Nat → Nat} {X Y k : Nat} (hj : NJ g gd P Dp Sl T) (hX : X < 2 * (113 + g)) (hY : Y < 2 * (113 + g)) (hne : X ≠ Y) (hq : jq (LT T X) (LT T Y)) (c3 : jl (LT T X) (LT T Y) = [gN (LT T X) (LT T Y)] ∧ jn (LT T X) (LT T Y) = 2 * gN (LT T X) (LT T Y))
    (hk : k < 2048) (hf : Fnd P Sl (min X Y * 4096 + max X Y) k) (h0 : Sl k = 0) {Dp2 : Nat → Nat} {gd2 : Nat} (hD : Dp2 = upN Dp (113 + g) (1 + max (Dp (min X Y / 2)) (Dp (max X Y / 2)))) (hgd : gd2 = max gd (1 + max (Dp (min X Y / 2)) (Dp (max X Y / 2)))) :
    NJ (g + 1) gd2 (upN P (113 + g) (min X Y * 4096 + max X Y)) Dp2 (upN Sl k (113 + g)) (upN T (113 + g) (gN (LT T X) (LT T Y))) ∧ ST T g (upN T (113 + g) (gN (LT T X) (LT T Y))) (g + 1) (jl (LT T X) (LT T Y)) ∧ LT (upN T (113 + g) (gN (LT T X) (LT T Y))) (2 * (113 + g)) = jn (LT T X) (LT T Y) := by
  obtain ⟨h, hgi⟩ := hj
  have hm := mm_cases X Y hne
  have hfree := Fnd_free h hf h0
  have hq' : jq (LT T (min X Y)) (LT T (max X Y)) := by
    rcases hm with ⟨a, b, -⟩ | ⟨a, b, -⟩
    · rw [a, b]; exact hq
    · rw [a, b]; exact jq_comm hq
  obtain ⟨d, hd, hkd, hp, -⟩ := hf
  have hN := NI_add h (a := min X Y) (b := max X Y) (by omega) (by omega) hq' hfree hk h0 hd hkd (fun d' hd' => (hp d' hd').1)
  rw [gN_mm] at hN
  have hdp : dpn (gN (LT T X) (LT T Y)) = 1 + max (Dp (min X Y / 2)) (Dp (max X Y / 2)) := by
    have := hN.2.2.2.2.1 (113 + g) (by omega)
    rw [upN_self, upN_self] at this
    exact this.symm
  subst hD
  refine ⟨⟨hN, ?_⟩, ⟨by omega, fun n hn => upN_ne _ _ (by omega), fun c => ?_⟩, ?_⟩
  · subst hgd
    obtain ⟨g1, g2⟩ := hgi
    refine ⟨fun n n1 n2 => ?_, ?_⟩
    · rcases Nat.lt_or_ge n (113 + g) with c | c
      · rw [upN_ne _ _ (by omega)]
        have := g1 n n1 c
        omega
      · rw [show n = 113 + g by omega, upN_self, hdp]
        omega
    · right
      rcases Nat.le_total gd (1 + max (Dp (min X Y / 2)) (Dp (max X Y / 2))) with c | c
      · refine ⟨113 + g, by omega, by omega, ?_⟩
        rw [upN_self, hdp]
        omega
      · rcases g2 with g2 | ⟨n, n1, n2, n3⟩
        · omega
        · refine ⟨n, n1, by omega, ?_⟩
          rw [upN_ne _ _ (by omega), n3]
          omega
  · rw [c3.1, List.mem_singleton]
    constructor
    · rintro ⟨n, n1, n2, n3⟩
      rcases Nat.lt_or_ge n (113 + g) with c0 | c0
      · rw [upN_ne _ _ (by omega)] at n3
        exact Or.inl ⟨n, n1, c0, n3⟩
      · rw [show n = 113 + g by omega, upN_self] at n3
        exact Or.inr n3.symm
    · rintro (⟨n, n1, n2, n3⟩ | e)
      · exact ⟨n, n1, by omega, by rw [upN_ne _ _ (by omega)]; exact n3⟩
      · exact ⟨113 + g, by omega, by omega, by rw [upN_self, e]⟩
  · rw [c3.2]
    unfold LT
    rw [show 2 * (113 + g) / 2 = 113 + g by omega, upN_self]
    omega
theorem and2047 (x : Nat) : x &&& 2047 = x % 2048 := Nat.and_two_pow_sub_one_eq_mod x 11
theorem and4095 (x : Nat) : x &&& 4095 = x % 4096 := Nat.and_two_pow_sub_one_eq_mod x 12
theorem and1 (x : Nat) : x &&& 1 = x % 2 := Nat.and_two_pow_sub_one_eq_mod x 1
theorem or12 {x y : Nat} (h : y < 4096) : x * 2 ^ 12 ||| y = x * 4096 + y := by
  have := Nat.two_pow_add_eq_or_of_lt (i := 12) (b := y) h x
  rw [Nat.mul_comm] at this
  exact this.symm
theorem NI_dp {g : Nat} {P Dp Sl T : Nat → Nat} (h : NI g P Dp Sl T) : ∀ m n, n ≤ m → n < 113 + g → Dp n ≤ n
  | 0, n, h1, h2 => by
    rw [show n = 0 by omega, h.2.2.2.2.1 0 (by omega), h.1]
    exact Nat.le_refl 0
  | m + 1, n, h1, h2 => by
    rcases Nat.lt_or_ge n 113 with c | c
    · rcases Nat.eq_zero_or_pos n with z | z
      · rw [z, h.2.2.2.2.1 0 (by omega), h.1]
        exact Nat.le_refl 0
      · have e := h.2.1 (n - 1) (by omega)
        rw [show n - 1 + 1 = n by omega] at e
        rw [h.2.2.2.2.1 n h2, e, dpn_leaf]
        omega
    · obtain ⟨a, b, -, e2, e3, e4, -⟩ := h.2.2.1 n c h2
      have i1 := NI_dp h m (a / 2) (by omega) (by omega)
      have i2 := NI_dp h m (b / 2) (by omega) (by omega)
      rw [h.2.2.2.2.1 n h2, e4, dpn_gate]
      have q1 : dpl (LT T a) = Dp (a / 2) := by
        rw [h.2.2.2.2.1 (a / 2) (by omega)]
        unfold dpl LT
        congr 1
        omega
      have q2 : dpl (LT T b) = Dp (b / 2) := by
        rw [h.2.2.2.2.1 (b / 2) (by omega)]
        unfold dpl LT
        congr 1
        omega
      omega
