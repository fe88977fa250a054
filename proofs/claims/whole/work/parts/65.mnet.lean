/-! the reference's net: gates in rows x, y, depth; the same invariant, with a table of slots that is only thought -/
def MXY (g : Nat) (X Y De P Dp : Nat → Nat) : Prop := ∀ i, i < g → P (113 + i) = X i * 4096 + Y i ∧ X i < 4096 ∧ Y i < 4096 ∧ De i = Dp (113 + i)
theorem NI_d0 {g : Nat} {P Dp Sl T : Nat → Nat} (h : NI g P Dp Sl T) {z : Nat} (hz : z < 113) : Dp z = 0 := by
  rw [h.2.2.2.2.1 z (by omega)]
  rcases Nat.eq_zero_or_pos z with q | q
  · rw [q, h.1, dpn_0]
  · have e := h.2.1 (z - 1) (by omega)
    rw [show z - 1 + 1 = z by omega] at e
    rw [e, dpn_leaf]
theorem Fnd_ex {g : Nat} {P Dp Sl T : Nat → Nat} (h : NI g P Dp Sl T) (hg : g ≤ 1280) (q : Nat) : ∃ k, k < 2048 ∧ Fnd P Sl q k := by
  obtain ⟨d0, h1, h2⟩ := NI_free h hg (hsh q)
  obtain ⟨d, hd, hl⟩ := pk_least (fun d => Sl ((hsh q + d) % 2048) = 0 ∨ P (Sl ((hsh q + d) % 2048)) = q) ⟨d0, Or.inl h2⟩
  have hle : d ≤ d0 := Nat.le_of_not_lt (fun c => hl d0 c (Or.inl h2))
  refine ⟨(hsh q + d) % 2048, Nat.mod_lt _ (by decide), d, by omega, rfl, fun d' hd' => ?_, hd⟩
  have := hl d' hd'
  exact ⟨fun e => this (Or.inl e), fun e => this (Or.inr e)⟩
theorem Fnd_new {g : Nat} {P Dp Sl T : Nat → Nat} (h : NI g P Dp Sl T) {q k : Nat} (hk : k < 2048) (hf : Fnd P Sl q k) (hn : ∀ n, 113 ≤ n → n < 113 + g → P n ≠ q) : Sl k = 0 := by
  obtain ⟨d, -, -, -, hz⟩ := hf
  rcases hz with e | e
  · exact e
  · rcases h.2.2.2.2.2.1 k hk with c | c
    · exact c
    · exact absurd e (hn _ c.1 c.2)
theorem J_oldN {g : Nat} {P Dp Sl T : Nat → Nat} {X Y n : Nat} (h : NI g P Dp Sl T) (hX : X < 2 * (113 + g)) (hY : Y < 2 * (113 + g)) (hg : g ≤ 1280) (hne : X ≠ Y) (c3 : jl (LT T X) (LT T Y) = [gN (LT T X) (LT T Y)] ∧ jn (LT T X) (LT T Y) = 2 * gN (LT T X) (LT T Y))
    (h1 : 113 ≤ n) (h2 : n < 113 + g) (hP : P n = min X Y * 4096 + max X Y) : ST T g T g (jl (LT T X) (LT T Y)) ∧ LT T (2 * n) = jn (LT T X) (LT T Y) := by
  obtain ⟨a, b, e1, e2, e3, e4, e5⟩ := h.2.2.1 n h1 h2
  have hm := mm_cases X Y hne
  have q1 : a = min X Y := by omega
  have q2 : b = max X Y := by omega
  rw [q1, q2, gN_mm] at e4
  refine ⟨⟨Nat.le_refl _, fun _ _ => rfl, fun c => ⟨Or.inl, fun q => ?_⟩⟩, ?_⟩
  · rcases q with q | q
    · exact q
    · rw [c3.1, List.mem_singleton] at q
      subst q
      exact ⟨n, h1, h2, e4⟩
  · rw [c3.2]
    show 2 * T (2 * n / 2) + 2 * n % 2 = _
    rw [show 2 * n / 2 = n by omega, e4]
    omega
theorem MXY_add {g : Nat} {X Y De P Dp : Nat → Nat} {a b dv : Nat} (h : MXY g X Y De P Dp) (ha : a < 4096) (hb : b < 4096) : MXY (g + 1) (upN X g a) (upN Y g b) (upN De g dv) (upN P (113 + g) (a * 4096 + b)) (upN Dp (113 + g) dv) := by
  intro i hi
  by_cases e : i = g
  · subst e
    rw [upN_self, upN_self, upN_self, upN_self, upN_self]
    exact ⟨rfl, ha, hb, rfl⟩
  · rw [upN_ne _ _ e, upN_ne _ _ e, upN_ne _ _ e, upN_ne _ _ (by omega), upN_ne _ _ (by omega)]
    exact h i (by omega)
