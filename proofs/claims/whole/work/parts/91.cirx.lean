/-! values: only leaves of INPUTS and REGISTERS count -/
section SP
variable {Q : Nat → Prop}
theorem Spl_0 : Spl Q 0 := fun _ _ _ => rfl
theorem Spl_1 : Spl Q 1 := fun _ _ _ => rfl
theorem Spl_op (x : Nat) (h : Spl Q x) : Spl Q (op1 x) := fun E E2 he => by
  have a := h E E2 he
  unfold evl at a ⊢
  rw [op1_half, op1_mod]
  omega
theorem Spl_g {x y : Nat} (hx : Spl Q x) (hy : Spl Q y) {E E2 : Nat → Nat} (he : ∀ k, Q k → E k = E2 k) : evn E (gN x y) = evn E2 (gN x y) := by
  rw [evn_gate, evn_gate, hx E E2 he, hy E E2 he]
theorem Spl_jn (x y : Nat) (hx : Spl Q x) (hy : Spl Q y) : Spl Q (jn x y) := by
  unfold jn
  split
  · exact Spl_0
  · split
    · exact hy
    · split
      · exact hx
      · intro E E2 he
        unfold evl
        rw [show 2 * gN x y / 2 = gN x y by omega, Spl_g hx hy he]
def GSp (Q : Nat → Prop) (c : Nat) : Prop := ∀ E E2 : Nat → Nat, (∀ k, Q k → E k = E2 k) → evn E c = evn E2 c
theorem GSp_jl (x y : Nat) (hx : Spl Q x) (hy : Spl Q y) : ∀ c, c ∈ jl x y → GSp Q c := by
  intro c hc E E2 he
  unfold jl at hc
  split at hc
  · exact absurd hc List.not_mem_nil
  · split at hc
    · exact absurd hc List.not_mem_nil
    · split at hc
      · exact absurd hc List.not_mem_nil
      · rw [List.mem_singleton.mp hc]
        exact Spl_g hx hy he
theorem Spl_leaf {k : Nat} (h : Q k) : Spl Q (2 * (2 * k + 1)) := fun E E2 he => by
  unfold evl
  rw [show 2 * (2 * k + 1) / 2 = 2 * k + 1 by omega, evn_leaf, evn_leaf, he k h]
end SP
section CX
variable {n ms : Nat} {Kd Wd Op So Su Sr : Nat → Nat} {Aa Ab Ac : Nat → Int32}
/-- the gates of each SIGNAL -/
def AGd (Kd Wd Op : Nat → Nat) (Aa Ab Ac : Nat → Int32) (So Su Sr : Nat → Nat) (ms : Nat) (CB : Nat → Nat → Nat) (z : Nat) : List Nat :=
  if Kd z = 1 ∨ Kd z = 2 then catL (skL So Su Sr Kd CB ms z) (Wd z) else if Kd z = 3 then ncL Wd CB (Op z) (Aa z) (Ab z) (Ac z) (Wd z) else []
theorem sk_P {CB : Nat → Nat → Nat} {z j : Nat} (h : WFC n Kd Wd Op Aa Ab Ac So Su Sr ms) (h0 : Spl (QL n Kd) (if Kd z = 2 then CB z j else 0)) (hs : ∀ k, k < ms → So k = 0 → Su k = z → Spl (QL n Kd) (CB (Sr k) j) ∧ ∀ y, 0 < y → y ≤ dp So k → Spl (QL n Kd) (CB (cL So Su k y) 0)) : Spl (QL n Kd) (skC So Su Sr Kd CB ms z j) ∧ ∀ c, c ∈ skL So Su Sr Kd CB ms z j → GSp (QL n Kd) c := by
  have q := gVF_P (S := z) (Sr := Sr) (Su := Su) (src := fun t => CB t j) (cnd := fun t => CB t 0) (Spl (QL n Kd)) (GSp (QL n Kd)) h.2.2.2.2.1 h.2.2.2.2.2.1 h0 (fun k hk h0 hz => (hs k hk h0 hz).1) (fun k hk h0 hz y y0 y1 a b ha hb => ⟨P_pk Spl_op Spl_jn ((hs k hk h0 hz).2 y y0 y1) ha hb, Q_pkl Spl_op Spl_jn GSp_jl ((hs k hk h0 hz).2 y y0 y1) ha hb⟩) ms (Nat.le_refl _)
  exact ⟨(q.1 0 (Nat.zero_le _)).1, q.2⟩
theorem cL_n' {m : Nat} (hm : 0 < m) (h : ∀ k, k < ms → So k = 1 → Su k < m) : ∀ k, k ≤ ms → ∀ y, cL So Su k y < m
  | 0, _, y => hm
  | k + 1, hk, y => by
    have i := cL_n' hm h k (by omega) y
    by_cases c : So k = 1
    · rw [cL_1 c]
      split
      · exact h k (by omega) c
      · exact i
    · rw [cL_n c]
      exact i
theorem Sp_all (h : WFC n Kd Wd Op Aa Ab Ac So Su Sr ms) {rk : Nat → Nat} (hrk : ∀ z, z < n → rk z < n ∧ ∀ t, mb (RM Kd Op Aa Ab Ac So Su Sr ms z) t → t < n ∧ rk t < rk z) {CB : Nat → Nat → Nat} (hCB : ∀ z, z < n → ∀ j, CB z j = stp Kd Wd Op Aa Ab Ac So Su Sr ms CB z j) : ∀ r z, z < n → rk z < r → ∀ j, Spl (QL n Kd) (CB z j)
  | 0, z, _, h2, j => by omega
  | r + 1, z, hz, h2, j => by
    have ih : ∀ t, mb (RM Kd Op Aa Ab Ac So Su Sr ms z) t → ∀ j, Spl (QL n Kd) (CB t j) := fun t ht j => by
      have := (hrk z hz).2 t ht
      exact Sp_all h hrk hCB r t this.1 (by omega) j
    rw [hCB z hz j]
    unfold stp
    by_cases hj : j < Wd z
    · have hw := h.2.2.2.1 z
      rw [if_pos hj]
      by_cases k1 : Kd z = 1
      · rw [if_pos k1]
        refine (sk_P h (by rw [if_neg (by omega)]; exact Spl_0) (fun k hk h0 hs => ?_)).1
        have w := RM_set h hk h0 (by rw [hs]; exact k1)
        rw [hs] at w
        exact ⟨ih _ w.1 j, fun y y0 y1 => ih _ (w.2 y y0 y1) 0⟩
      · rw [if_neg k1]
        by_cases k3 : Kd z = 3
        · rw [if_pos k3]
          exact P_nc Spl_0 Spl_1 Spl_op Spl_jn ((h.2.2.2.2.2.2.1 z hz).2 k3).1 (fun t => ih _ (RM_nod k3 (Or.inl ⟨t, rfl⟩))) (fun t => ih _ (RM_nod k3 (Or.inr (Or.inl ⟨t, rfl⟩)))) (fun t => ih _ (RM_nod k3 (Or.inr (Or.inr ⟨t, rfl⟩)))) j
        · rw [if_neg k3]
          have k4 := h.2.2.1 z
          exact Spl_leaf ⟨by rw [show (z * 8 + j) / 8 = z by omega]; exact hz, by rw [show (z * 8 + j) / 8 = z by omega]; omega⟩
    · rw [if_neg hj]
      exact Spl_0
theorem Sp_reg (h : WFC n Kd Wd Op Aa Ab Ac So Su Sr ms) {CB : Nat → Nat → Nat} (hS : ∀ z, z < n → ∀ j, Spl (QL n Kd) (CB z j)) {z : Nat} (hz : z < n) (j : Nat) : Spl (QL n Kd) (skC So Su Sr Kd CB ms z j) ∧ ∀ c, c ∈ skL So Su Sr Kd CB ms z j → GSp (QL n Kd) c :=
  sk_P h (by split; exact hS z hz j; exact Spl_0) (fun k hk h0 hs => ⟨hS _ ((h.2.2.2.2.2.2.2 k hk).2 h0).1 j, fun y y0 y1 => hS _ (cL_n' (by omega) (fun j hj e => (h.2.2.2.2.2.2.2 j hj).1 (Or.inr e)) k (by omega) y) 0⟩)
theorem GSp_all (h : WFC n Kd Wd Op Aa Ab Ac So Su Sr ms) {CB : Nat → Nat → Nat} (hS : ∀ z, z < n → ∀ j, Spl (QL n Kd) (CB z j)) {z : Nat} (hz : z < n) : ∀ c, c ∈ AGd Kd Wd Op Aa Ab Ac So Su Sr ms CB z → GSp (QL n Kd) c := by
  intro c hc
  unfold AGd at hc
  by_cases k1 : Kd z = 1 ∨ Kd z = 2
  · rw [if_pos k1] at hc
    obtain ⟨j, _, q⟩ := catL_ex _ hc
    exact (Sp_reg h hS hz j).2 c q
  · rw [if_neg k1] at hc
    by_cases k3 : Kd z = 3
    · rw [if_pos k3] at hc
      have w := (h.2.2.2.2.2.2.1 z hz).2 k3
      exact Q_ncL Spl_0 Spl_1 Spl_op Spl_jn GSp_jl w.1 (fun t => by obtain ⟨X, a, b⟩ := w.2.1 t; rw [WF_ix h a b]; exact hS X a) (fun t => by obtain ⟨X, a, b⟩ := w.2.2.1 t; rw [WF_ix h a b]; exact hS X a) (fun t => by obtain ⟨X, a, b⟩ := w.2.2.2.1 t; rw [WF_ix h a b]; exact hS X a) _ c hc
    · rw [if_neg k3] at hc
      exact absurd hc List.not_mem_nil
/-! how many gates at most -/
/-- a list of a SIGNAL's gates that names none twice by its making -/
def KKd (Kd Wd Op : Nat → Nat) (Aa Ab Ac : Nat → Int32) (So Su Sr : Nat → Nat) (ms : Nat) (CB : Nat → Nat → Nat) (z : Nat) : List Nat :=
  if Kd z = 3 ∧ (Op z = 4 ∨ Op z = 5 ∨ Op z = 7) then
    catL (fun j => dfl (CB (ix (Aa z)) j) (oC (CB (ix (Ab z))) (if Op z = 4 then 0 else 1) j) ++ (dfl (df (CB (ix (Aa z)) j) (oC (CB (ix (Ab z))) (if Op z = 4 then 0 else 1) j)) (ca (CB (ix (Aa z))) (oC (CB (ix (Ab z))) (if Op z = 4 then 0 else 1)) (if Op z = 4 then 0 else 1) j) ++
      eil (jn (CB (ix (Aa z)) j) (oC (CB (ix (Ab z))) (if Op z = 4 then 0 else 1) j)) (jn (df (CB (ix (Aa z)) j) (oC (CB (ix (Ab z))) (if Op z = 4 then 0 else 1) j)) (ca (CB (ix (Aa z))) (oC (CB (ix (Ab z))) (if Op z = 4 then 0 else 1)) (if Op z = 4 then 0 else 1) j)))) (max (Wd (ix (Aa z))) (Wd (ix (Ab z))))
  else AGd Kd Wd Op Aa Ab Ac So Su Sr ms CB z
theorem adS_sub {X Y : Nat → Nat} {c0 j a : Nat} (h : a ∈ adS X Y c0 j) : a ∈ dfl (X j) (Y j) ++ (dfl (df (X j) (Y j)) (ca X Y c0 j) ++ eil (jn (X j) (Y j)) (jn (df (X j) (Y j)) (ca X Y c0 j))) := by
  rcases List.mem_append.mp h with q | q
  · exact List.mem_append_left _ q
  · refine Classical.byContradiction (fun hn => ?_)
    have n1 : ¬ a ∈ dfl (X j) (Y j) := fun w => hn (List.mem_append_left _ w)
    have n2 : ¬ a ∈ dfl (df (X j) (Y j)) (ca X Y c0 j) := fun w => hn (List.mem_append_right _ (List.mem_append_left _ w))
    have n3 : ¬ a ∈ eil (jn (X j) (Y j)) (jn (df (X j) (Y j)) (ca X Y c0 j)) := fun w => hn (List.mem_append_right _ (List.mem_append_right _ w))
    rcases List.mem_append.mp q with q | q
    · exact n2 q
    · rcases List.mem_append.mp q with q | q
      · exact n1 (List.mem_append_left _ q)
      · rcases List.mem_append.mp q with q | q
        · exact n2 (List.mem_append_left _ q)
        · exact n3 q
theorem KK_in {CB : Nat → Nat → Nat} {z c : Nat} (h : c ∈ AGd Kd Wd Op Aa Ab Ac So Su Sr ms CB z) : c ∈ KKd Kd Wd Op Aa Ab Ac So Su Sr ms CB z := by
  unfold KKd
  by_cases q : Kd z = 3 ∧ (Op z = 4 ∨ Op z = 5 ∨ Op z = 7)
  · rw [if_pos q]
    unfold AGd at h
    rw [if_neg (by omega), if_pos q.1] at h
    unfold ncL at h
    by_cases q4 : Op z = 4
    · rw [if_pos q4] at h
      obtain ⟨j, a, b⟩ := catL_ex _ h
      rw [if_pos q4]
      exact catL_in _ a (adS_sub b)
    · rw [if_neg q4, if_pos (by omega)] at h
      obtain ⟨j, a, b⟩ := catL_ex _ h
      rw [if_neg q4]
      exact catL_in _ a (adS_sub b)
  · rw [if_neg q]
    exact h
theorem KK_len (h : WFC n Kd Wd Op Aa Ab Ac So Su Sr ms) {CB : Nat → Nat → Nat} {z : Nat} (hz : z < n) : (KKd Kd Wd Op Aa Ab Ac So Su Sr ms CB z).length ≤ 56 ∨ (KKd Kd Wd Op Aa Ab Ac So Su Sr ms CB z).length ≤ 24 * min (nSo So 3 ms) (4 * nSe So Su z ms) := by
  have hw := h.2.2.2.1
  unfold KKd
  by_cases q : Kd z = 3 ∧ (Op z = 4 ∨ Op z = 5 ∨ Op z = 7)
  · rw [if_pos q]
    left
    have hm : max (Wd (ix (Aa z))) (Wd (ix (Ab z))) ≤ 8 := by
      have := hw (ix (Aa z))
      have := hw (ix (Ab z))
      omega
    have l := catL_len (b := 7) (f := fun j => dfl (CB (ix (Aa z)) j) (oC (CB (ix (Ab z))) (if Op z = 4 then 0 else 1) j) ++ (dfl (df (CB (ix (Aa z)) j) (oC (CB (ix (Ab z))) (if Op z = 4 then 0 else 1) j)) (ca (CB (ix (Aa z))) (oC (CB (ix (Ab z))) (if Op z = 4 then 0 else 1)) (if Op z = 4 then 0 else 1) j) ++
      eil (jn (CB (ix (Aa z)) j) (oC (CB (ix (Ab z))) (if Op z = 4 then 0 else 1) j)) (jn (df (CB (ix (Aa z)) j) (oC (CB (ix (Ab z))) (if Op z = 4 then 0 else 1) j)) (ca (CB (ix (Aa z))) (oC (CB (ix (Ab z))) (if Op z = 4 then 0 else 1)) (if Op z = 4 then 0 else 1) j)))) (fun j => by
      show List.length (_ ++ (_ ++ _)) ≤ 7
      rw [List.length_append, List.length_append]
      have a := dfl_len (CB (ix (Aa z)) j) (oC (CB (ix (Ab z))) (if Op z = 4 then 0 else 1) j)
      have b := dfl_len (df (CB (ix (Aa z)) j) (oC (CB (ix (Ab z))) (if Op z = 4 then 0 else 1) j)) (ca (CB (ix (Aa z))) (oC (CB (ix (Ab z))) (if Op z = 4 then 0 else 1)) (if Op z = 4 then 0 else 1) j)
      have c : (eil (jn (CB (ix (Aa z)) j) (oC (CB (ix (Ab z))) (if Op z = 4 then 0 else 1) j)) (jn (df (CB (ix (Aa z)) j) (oC (CB (ix (Ab z))) (if Op z = 4 then 0 else 1) j)) (ca (CB (ix (Aa z))) (oC (CB (ix (Ab z))) (if Op z = 4 then 0 else 1)) (if Op z = 4 then 0 else 1) j))).length ≤ 1 := jl_len _ _
      omega) (max (Wd (ix (Aa z))) (Wd (ix (Ab z))))
    exact Nat.le_trans l (by omega)
  · rw [if_neg q]
    unfold AGd
    by_cases k1 : Kd z = 1 ∨ Kd z = 2
    · rw [if_pos k1]
      right
      have l := catL_len (f := skL So Su Sr Kd CB ms z) (b := 3 * min (nSo So 3 ms) (4 * nSe So Su z ms)) (fun j => by
        have a := gL_len (Su := Su) (Sr := Sr) (S := z) (src := fun t => CB t j) (cnd := fun t => CB t 0) (v0 := if Kd z = 2 then CB z j else 0) h.2.2.2.2.1 h.2.2.2.2.2.1 ms (Nat.le_refl _)
        unfold skL
        omega) (Wd z)
      have w9 := hw z
      have m : Wd z * (3 * min (nSo So 3 ms) (4 * nSe So Su z ms)) ≤ 8 * (3 * min (nSo So 3 ms) (4 * nSe So Su z ms)) := Nat.mul_le_mul_right _ (by omega)
      omega
    · rw [if_neg k1]
      left
      by_cases k3 : Kd z = 3
      · rw [if_pos k3]
        have ho := ((h.2.2.2.2.2.2.1 z hz).2 k3).1
        have w9 := hw z
        unfold ncL
        rw [if_neg (by omega), if_neg (by omega)]
        by_cases q6 : Op z = 6
        · rw [if_pos q6]
          have hm : max (Wd (ix (Aa z))) (Wd (ix (Ab z))) ≤ 8 := by
            have := hw (ix (Aa z))
            have := hw (ix (Ab z))
            omega
          have l := catL_len (b := 4) (f := eqS (CB (ix (Aa z))) (CB (ix (Ab z)))) (fun j => by
            unfold eqS
            rw [List.length_append]
            have a := dfl_len (CB (ix (Aa z)) j) (CB (ix (Ab z)) j)
            have b := jl_len (eqc (CB (ix (Aa z))) (CB (ix (Ab z))) j) (op1 (df (CB (ix (Aa z)) j) (CB (ix (Ab z)) j)))
            omega) (max (Wd (ix (Aa z))) (Wd (ix (Ab z))))
          unfold eqL
          omega
        · rw [if_neg q6]
          have l := catL_len (b := 3) (f := ncS CB (Op z) (Aa z) (Ab z) (Ac z)) (fun j => by
            unfold ncS
            split
            · exact Nat.le_trans (jl_len _ _) (by decide)
            · split
              · exact Nat.le_trans (jl_len _ _) (by decide)
              · split
                · exact dfl_len _ _
                · split
                  · exact pkl_len _ _ _
                  · exact Nat.zero_le _) (Wd z)
          omega
      · rw [if_neg k3]
        exact Nat.zero_le _
theorem catL_sum {f : Nat → List Nat} : ∀ w, (catL f w).length = cnt (fun j => (f j).length) w
  | 0 => rfl
  | w + 1 => by
    show (catL f w ++ f w).length = cnt _ w + (f w).length
    rw [List.length_append, catL_sum w]
theorem cnt_lin {N : Nat → Nat} {a b : Nat} : ∀ m, cnt (fun z => a + b * N z) m = a * m + b * cnt N m
  | 0 => rfl
  | m + 1 => by
    show cnt (fun z => a + b * N z) m + (a + b * N m) = a * (m + 1) + b * (cnt N m + N m)
    rw [cnt_lin m, Nat.mul_add, Nat.mul_add]
    omega
theorem cnt_add {f g : Nat → Nat} : ∀ m, cnt (fun z => f z + g z) m = cnt f m + cnt g m
  | 0 => rfl
  | m + 1 => by
    show cnt (fun z => f z + g z) m + (f m + g m) = cnt f m + f m + (cnt g m + g m)
    rw [cnt_add m]
    omega
theorem cnt_one {a : Nat} {P : Prop} [Decidable P] : ∀ m, cnt (fun z => if P ∧ a = z then 1 else 0) m ≤ if P ∧ a < m then 1 else 0
  | 0 => Nat.zero_le _
  | m + 1 => by
    have ih := cnt_one (a := a) (P := P) m
    show cnt _ m + (if P ∧ a = m then 1 else 0) ≤ _
    by_cases p : P
    · by_cases e : a = m
      · rw [if_neg (by omega)] at ih
        rw [if_pos ⟨p, e⟩, if_pos ⟨p, by omega⟩]
        omega
      · rw [if_neg (fun q => e q.2)]
        by_cases l : a < m
        · rw [if_pos ⟨p, l⟩] at ih
          rw [if_pos ⟨p, by omega⟩]
          omega
        · rw [if_neg (fun q => l q.2)] at ih
          omega
    · rw [if_neg (fun q => p q.1)] at ih
      rw [if_neg (fun q => p q.1), if_neg (fun q => p q.1)]
      omega
theorem nSe_sum (m : Nat) : ∀ k, cnt (fun z => nSe So Su z k) m ≤ nSo So 0 k
  | 0 => by
    have : ∀ m, cnt (fun z => nSe So Su z 0) m = 0 := fun m => by
      induction m with
      | zero => rfl
      | succ m ih => show cnt _ m + 0 = 0; rw [ih]
    rw [this]
    exact Nat.zero_le _
  | k + 1 => by
    have ih := nSe_sum m k
    have e : cnt (fun z => nSe So Su z (k + 1)) m = cnt (fun z => nSe So Su z k) m + cnt (fun z => if So k = 0 ∧ Su k = z then 1 else 0) m := cnt_add m
    have o := cnt_one (a := Su k) (P := So k = 0) m
    rw [e, nSo_s]
    by_cases c : So k = 0
    · rw [if_pos c]
      have : (if So k = 0 ∧ Su k < m then 1 else 0) ≤ 1 := by split <;> omega
      omega
    · rw [if_neg (fun q => c q.1)] at o
      rw [if_neg c]
      omega
theorem alp {w : Nat} (h : w ≤ 10) : ∃ a, (∀ N, 24 * min w (4 * N) ≤ 56 + a * N) ∧ a * (20 - 2 * w) ≤ 496 := by
  rcases (show w ≤ 3 ∨ w = 4 ∨ w = 5 ∨ w = 6 ∨ w = 7 ∨ w = 8 ∨ w = 9 ∨ w = 10 by omega) with e | e | e | e | e | e | e | e
  · exact ⟨16, fun N => by omega, by omega⟩
  · exact ⟨40, fun N => by omega, by omega⟩
  · exact ⟨49, fun N => by omega, by omega⟩
  · exact ⟨62, fun N => by omega, by omega⟩
  · exact ⟨82, fun N => by omega, by omega⟩
  · exact ⟨124, fun N => by omega, by omega⟩
  · exact ⟨248, fun N => by omega, by omega⟩
  · exact ⟨248, fun N => by omega, by omega⟩
theorem K_len (h : WFC n Kd Wd Op Aa Ab Ac So Su Sr ms) (CB : Nat → Nat → Nat) : (catL (KKd Kd Wd Op Aa Ab Ac So Su Sr ms CB) n).length ≤ 1280 := by
  have d := nSo_dp h.2.2.2.2.2.1 ms (Nat.le_refl _)
  have hm := h.2.1
  obtain ⟨a, a1, a2⟩ := alp (w := nSo So 3 ms) (by omega)
  rw [catL_sum]
  have s1 := cnt_mono (f := fun j => (KKd Kd Wd Op Aa Ab Ac So Su Sr ms CB j).length) (g := fun z => 56 + a * nSe So Su z ms) n (fun j hj => by
    have b := a1 (nSe So Su j ms)
    show (KKd Kd Wd Op Aa Ab Ac So Su Sr ms CB j).length ≤ 56 + a * nSe So Su j ms
    rcases KK_len h (CB := CB) hj with q | q
    · exact Nat.le_trans q (Nat.le_add_right _ _)
    · exact Nat.le_trans q b)
  rw [cnt_lin] at s1
  have s2 : a * cnt (fun z => nSe So Su z ms) n ≤ a * (20 - 2 * nSo So 3 ms) := Nat.mul_le_mul_left _ (by have := nSe_sum (So := So) (Su := Su) n ms; omega)
  have := h.1
  omega
/-- THE CIRCUIT: where nothing goes round in itself there are bits, gates, a rank -/
theorem CIR_ex (h : WFC n Kd Wd Op Aa Ab Ac So Su Sr ms) (hl : ∀ z, z < n → ¬ Rch (Rl n (RM Kd Op Aa Ab Ac So Su Sr ms)) z z) : ∃ (CB : Nat → Nat → Nat) (AG : Nat → List Nat) (K : List Nat) (rk : Nat → Nat), (∀ z, z < n → ∀ c, c ∈ AG z → GSp (QL n Kd) c) ∧ ∀ RA : Nat → Nat, (∀ z, z < n → RA z = RM Kd Op Aa Ab Ac So Su Sr ms z) → CIR n Kd Wd Op Aa Ab Ac So Su Sr ms CB AG K rk RA := by
  have hrk := rk_ok h.1 (RM_lt h) hl
  have hCB := fun z (hz : z < n) j => CB_eq h hrk hz j
  generalize CBf Kd Wd Op Aa Ab Ac So Su Sr ms n = CB at hCB
  generalize rkF n (RM Kd Op Aa Ab Ac So Su Sr ms) = rk at hrk
  have hS : ∀ z, z < n → ∀ j, Spl (QL n Kd) (CB z j) := fun z hz j => Sp_all h hrk hCB n z hz (hrk z hz).1 j
  refine ⟨CB, AGd Kd Wd Op Aa Ab Ac So Su Sr ms CB, catL (KKd Kd Wd Op Aa Ab Ac So Su Sr ms CB) n, rk, fun z hz => GSp_all h hS hz, fun RA hRA => ⟨K_len h CB, fun z hz c hc => catL_in n hz (KK_in hc), fun z hz => ⟨fun k => ?_, fun k => ?_, fun k => ?_⟩, fun z hz => ⟨fun j hj => ?_, fun j hj => ?_⟩, fun z hz => ?_, fun z hz => ⟨(hrk z hz).1, fun t ht => (hrk z hz).2 t (by rw [← hRA z hz]; exact ht)⟩, fun z hz k1 k hk h0 hs => ?_, fun z hz k2 k hk h0 hs => ?_, fun z hz j _ => hS z hz j, fun z hz _ j _ => (Sp_reg h hS hz j).1⟩⟩
  · unfold AGd; rw [if_pos k]
  · unfold AGd; rw [if_neg (by omega), if_pos k]
  · unfold AGd; rw [if_neg (by omega), if_neg (by omega)]
  · rw [hCB z hz j]; unfold stp; rw [if_neg (by omega)]
  · rw [hCB z hz j]; unfold stp; rw [if_pos hj]
  · have w := h.2.2.2.2.2.2.1 z hz
    have hn := h.1
    refine ⟨w.1, fun k3 => ?_⟩
    have g := w.2 k3
    rw [hRA z hz]
    exact ⟨fun t => ⟨by obtain ⟨X, a, b⟩ := g.2.1 t; exact ⟨X, Nat.lt_of_lt_of_le a hn, b⟩, RM_nod k3 (Or.inl ⟨t, rfl⟩)⟩, fun t => ⟨by obtain ⟨X, a, b⟩ := g.2.2.1 t; exact ⟨X, Nat.lt_of_lt_of_le a hn, b⟩, RM_nod k3 (Or.inr (Or.inl ⟨t, rfl⟩))⟩, fun t => ⟨by obtain ⟨X, a, b⟩ := g.2.2.2.1 t; exact ⟨X, Nat.lt_of_lt_of_le a hn, b⟩, RM_nod k3 (Or.inr (Or.inr ⟨t, rfl⟩))⟩, g.2.2.2.2.1, g.2.2.2.2.2.1, g.2.2.2.2.2.2.1, g.2.2.2.2.2.2.2.1, g.2.2.2.2.2.2.2.2.1⟩
  · have w := RM_set h hk h0 (by rw [hs]; exact k1)
    rw [hs] at w
    rw [hRA z hz]
    exact w
  · exact ⟨((h.2.2.2.2.2.2.2 k hk).2 h0).1, fun y _ _ => cL_n' (by omega) (fun j hj e => (h.2.2.2.2.2.2.2 j hj).1 (Or.inr e)) k (by omega) y⟩
end CX
