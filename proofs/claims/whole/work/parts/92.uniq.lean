/-! two nets of the same gates: as many, as deep, as many at ONE -/
theorem cnt_cut {f : Nat → Nat} {j0 : Nat} : ∀ m, j0 < m → cnt f m = cnt (fun j => if j = j0 then 0 else f j) m + f j0
  | 0, h => by omega
  | m + 1, h => by
    show cnt f m + f m = cnt _ m + (if m = j0 then 0 else f m) + f j0
    by_cases e : m = j0
    · rw [if_pos e, e]
      have : cnt f j0 = cnt (fun j => if j = j0 then 0 else f j) j0 := cnt_congr j0 (fun j hj => by rw [if_neg (by omega)])
      rw [← this]
      omega
    · rw [if_neg e, cnt_cut (f := f) (j0 := j0) m (by omega)]
      omega
theorem set_eq : ∀ (g g2 : Nat) (a b : Nat → Nat), (∀ i j, i < g → j < g → a i = a j → i = j) → (∀ i j, i < g2 → j < g2 → b i = b j → i = j) → (∀ c, (∃ i, i < g ∧ a i = c) ↔ ∃ j, j < g2 ∧ b j = c) → g = g2 ∧ ∀ f : Nat → Nat, cnt (fun j => f (a j)) g = cnt (fun j => f (b j)) g2
  | 0, g2, a, b, _, _, h => by
    have e : g2 = 0 := by
      rcases Nat.eq_zero_or_pos g2 with q | q
      · exact q
      · obtain ⟨i, hi, _⟩ := (h (b 0)).mpr ⟨0, q, rfl⟩
        omega
    subst e
    exact ⟨rfl, fun _ => rfl⟩
  | g + 1, g2, a, b, ha, hb, h => by
    obtain ⟨j0, hj0, e0⟩ := (h (a g)).mp ⟨g, by omega, rfl⟩
    obtain ⟨m, rfl⟩ : ∃ m, g2 = m + 1 := ⟨g2 - 1, by omega⟩
    have ih := set_eq g m a (fun j => if j = j0 then b m else b j) (fun i j hi hj e => ha i j (by omega) (by omega) e) (fun i j hi hj e => by
      have e : (if i = j0 then b m else b i) = (if j = j0 then b m else b j) := e
      by_cases ei : i = j0
      · rw [if_pos ei] at e
        by_cases ej : j = j0
        · omega
        · rw [if_neg ej] at e
          have := hb m j (by omega) (by omega) e
          omega
      · rw [if_neg ei] at e
        by_cases ej : j = j0
        · rw [if_pos ej] at e
          have := hb i m (by omega) (by omega) e
          omega
        · rw [if_neg ej] at e
          exact hb i j (by omega) (by omega) e) (fun c => by
      constructor
      · rintro ⟨i, hi, e⟩
        obtain ⟨j, hj, e2⟩ := (h c).mp ⟨i, by omega, e⟩
        have hne : j ≠ j0 := fun q => by
          have := ha i g (by omega) (by omega) (by rw [e, ← e2, q, e0])
          omega
        by_cases q : j = m
        · refine ⟨j0, by omega, ?_⟩
          show (if j0 = j0 then b m else b j0) = c
          rw [if_pos rfl, ← q]
          exact e2
        · refine ⟨j, by omega, ?_⟩
          show (if j = j0 then b m else b j) = c
          rw [if_neg hne]
          exact e2
      · rintro ⟨j, hj, e⟩
        have e : (if j = j0 then b m else b j) = c := e
        have hx : ∃ j2, j2 < m + 1 ∧ j2 ≠ j0 ∧ b j2 = c := by
          by_cases q : j = j0
          · rw [if_pos q] at e
            exact ⟨m, by omega, by omega, e⟩
          · rw [if_neg q] at e
            exact ⟨j, by omega, q, e⟩
        obtain ⟨j2, h1, h2, h3⟩ := hx
        obtain ⟨i, hi, e2⟩ := (h c).mpr ⟨j2, h1, h3⟩
        refine ⟨i, ?_, e2⟩
        have : i ≠ g := fun q => h2 (hb j2 j0 h1 hj0 (by rw [h3, e0, ← e2, q]))
        omega)
    refine ⟨by rw [ih.1], fun f => ?_⟩
    show cnt (fun j => f (a j)) g + f (a g) = cnt (fun j => f (b j)) m + f (b m)
    rw [ih.2 f, ← e0]
    show cnt (fun j => f (if j = j0 then b m else b j)) m + f (b j0) = _
    by_cases q : j0 = m
    · rw [cnt_congr m (f2 := fun j => f (b j)) (fun j hj => by rw [if_neg (by omega)]), q]
    · have c1 := cnt_cut (f := fun j => f (b j)) m (show j0 < m by omega)
      have c2 := cnt_cut (f := fun j => f (if j = j0 then b m else b j)) m (show j0 < m by omega)
      have c3 : cnt (fun j => if j = j0 then 0 else f (if j = j0 then b m else b j)) m = cnt (fun j => if j = j0 then 0 else f (b j)) m := cnt_congr m (fun j hj => by
        by_cases w : j = j0
        · rw [if_pos w, if_pos w]
        · rw [if_neg w, if_neg w, if_neg w])
      have c4 : f (if j0 = j0 then b m else b j0) = f (b m) := by rw [if_pos rfl]
      omega
theorem net_eq {g g2 gd gd2 : Nat} {P Dp Sl T P2 Dp2 Sl2 T2 : Nat → Nat} (h : NJ g gd P Dp Sl T) (h2 : NJ g2 gd2 P2 Dp2 Sl2 T2) (hs : ∀ c, GS T g c ↔ GS T2 g2 c) : g = g2 ∧ gd = gd2 ∧ ∀ f : Nat → Nat, cnt (fun j => f (T (113 + j))) g = cnt (fun j => f (T2 (113 + j))) g2 := by
  have q := set_eq g g2 (fun j => T (113 + j)) (fun j => T2 (113 + j)) (fun i j hi hj e => by have := h.1.2.2.2.1 _ _ (by omega) (by omega) e; omega) (fun i j hi hj e => by have := h2.1.2.2.2.1 _ _ (by omega) (by omega) e; omega) (fun c => by
    constructor
    · rintro ⟨i, hi, e⟩
      obtain ⟨m, m1, m2, e2⟩ := (hs c).mp ⟨113 + i, by omega, by omega, e⟩
      exact ⟨m - 113, by omega, by rw [← e2]; show T2 (113 + (m - 113)) = _; rw [show 113 + (m - 113) = m by omega]⟩
    · rintro ⟨i, hi, e⟩
      obtain ⟨m, m1, m2, e2⟩ := (hs c).mpr ⟨113 + i, by omega, by omega, e⟩
      exact ⟨m - 113, by omega, by rw [← e2]; show T (113 + (m - 113)) = _; rw [show 113 + (m - 113) = m by omega]⟩)
  refine ⟨q.1, ?_, q.2⟩
  have le : ∀ {g g2 gd gd2 : Nat} {T T2 : Nat → Nat}, GDI gd T g → GDI gd2 T2 g2 → (∀ c, GS T g c → GS T2 g2 c) → gd ≤ gd2 := fun a b s => by
    rcases a.2 with e | ⟨m, m1, m2, e⟩
    · omega
    · obtain ⟨k, k1, k2, e2⟩ := s _ ⟨m, m1, m2, rfl⟩
      have := b.1 k k1 k2
      rw [e2, e] at this
      exact this
  exact Nat.le_antisymm (le h.2 h2.2 (fun c => (hs c).mp)) (le h2.2 h.2 (fun c => (hs c).mpr))
