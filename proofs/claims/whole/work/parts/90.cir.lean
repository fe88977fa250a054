/-! a circuit without a loop: its bits, its gates, how many they are -/
/-- one SIGNAL, of KIND K, WIDTH W, OP and ARGUMENTS, beside those of the WIDTHS Wd -/
def SG1 (n : Nat) (Wd : Nat → Nat) (K W O : Nat) (a b c : Int32) : Prop :=
  1 ≤ W ∧ (K = 3 → O ≤ 11 ∧ (1 ≤ tab O → ∃ X, X < n ∧ a = nI X) ∧ (2 ≤ tab O → ∃ X, X < n ∧ b = nI X) ∧ (3 ≤ tab O → ∃ X, X < n ∧ c = nI X) ∧
    (O = 9 → ∃ X, X ≤ 8 ∧ b = nI X) ∧ (O = 11 → ∃ X, X < 256 ∧ a = nI X) ∧ (O = 4 → W = max (Wd (ix a)) (Wd (ix b)) + 1) ∧ (O = 5 → W = max (Wd (ix a)) (Wd (ix b))) ∧ (O = 6 ∨ O = 7 → W = 1) ∧
    (O = 0 → W = Wd (ix a)) ∧ (O = 8 → W = Wd (ix a) + Wd (ix b)) ∧ (O = 9 → ix b + W ≤ Wd (ix a)))
def SGW (n : Nat) (Kd Wd Op : Nat → Nat) (Aa Ab Ac : Nat → Int32) : Prop := ∀ z, z < n → SG1 n Wd (Kd z) (Wd z) (Op z) (Aa z) (Ab z) (Ac z)
def STW (n : Nat) (Kd So Su Sr : Nat → Nat) (ms : Nat) : Prop := ∀ k, k < ms → (So k = 0 ∨ So k = 1 → Su k < n) ∧ (So k = 0 → Sr k < n ∧ (Kd (Su k) = 1 ∨ Kd (Su k) = 2))
def WFC (n : Nat) (Kd Wd Op : Nat → Nat) (Aa Ab Ac : Nat → Int32) (So Su Sr : Nat → Nat) (ms : Nat) : Prop :=
  n ≤ 14 ∧ ms ≤ 20 ∧ (∀ z, Kd z < 4) ∧ (∀ z, Wd z < 9) ∧ (∀ k, So k < 4) ∧ LG So ms ∧ SGW n Kd Wd Op Aa Ab Ac ∧ STW n Kd So Su Sr ms
theorem arM_cL {So Su : Nat → Nat} : ∀ k d y, 0 < y → y ≤ d → d ≤ dp So k → mb (arM So Su k d) (cL So Su k y)
  | 0, d, y, h0, h1, h2 => by
    have h2 : d ≤ 0 := h2
    omega
  | k + 1, d, y, h0, h1, h2 => by
    have ih := arM_cL (So := So) (Su := Su) k
    by_cases e : So k = 1
    · rw [dp_w e] at h2
      rw [arM_1 e, cL_1 e]
      by_cases q : d = dp So k + 1
      · rw [if_pos q, mb_or2, mb_pow]
        by_cases w : y = dp So k + 1
        · rw [if_pos w]; exact Or.inr rfl
        · rw [if_neg w]; exact Or.inl (ih _ y h0 (by omega) (Nat.le_refl _))
      · rw [if_neg q, if_neg (by omega)]
        exact ih d y h0 h1 (by omega)
    · rw [arM_n e, cL_n e]
      refine ih d y h0 h1 ?_
      by_cases e3 : So k = 3
      · rw [dp_e e3] at h2; omega
      · rw [dp_o e e3] at h2; exact h2
theorem arM_lt {So Su : Nat → Nat} {ms n : Nat} (h : ∀ k, k < ms → So k = 1 → Su k < n) : ∀ k, k ≤ ms → ∀ d t, mb (arM So Su k d) t → t < n
  | 0, _, d, t, q => absurd q mb_0
  | k + 1, hk, d, t, q => by
    have ih := arM_lt h k (by omega)
    by_cases e : So k = 1
    · rw [arM_1 e] at q
      by_cases w : d = dp So k + 1
      · rw [if_pos w, mb_or2, mb_pow] at q
        rcases q with q | q
        · exact ih _ _ q
        · rw [q]; exact h k (by omega) e
      · rw [if_neg w] at q
        exact ih _ _ q
    · rw [arM_n e] at q
      exact ih _ _ q
theorem raM_up {B Kd So Su Sr : Nat → Nat} {s t k : Nat} (h : mb (raM B Kd So Su Sr k s) t) : mb (raM B Kd So Su Sr (k + 1) s) t := by
  by_cases c : So k = 0 ∧ Kd (Su k) = 1
  · exact (raM_0 c.1 c.2).mpr (Or.inl h)
  · rw [raM_n c]; exact h
theorem raM_mo {B Kd So Su Sr : Nat → Nat} {s t : Nat} : ∀ j k, mb (raM B Kd So Su Sr k s) t → mb (raM B Kd So Su Sr (k + j) s) t
  | 0, _, h => h
  | j + 1, k, h => raM_up (raM_mo j k h)
theorem raM_le {B Kd So Su Sr : Nat → Nat} {s t k m : Nat} (h : mb (raM B Kd So Su Sr k s) t) (hk : k ≤ m) : mb (raM B Kd So Su Sr m s) t := by
  have := raM_mo (m - k) k h
  rw [show k + (m - k) = m by omega] at this
  exact this
section CI
variable {n ms : Nat} {Kd Wd Op So Su Sr : Nat → Nat} {Aa Ab Ac : Nat → Int32}
theorem WF_ix {X : Nat} {x : Int32} (h : WFC n Kd Wd Op Aa Ab Ac So Su Sr ms) (hX : X < n) (e : x = nI X) : ix x = X := ix_of e (by have := h.1; omega)
theorem RM_set (h : WFC n Kd Wd Op Aa Ab Ac So Su Sr ms) {k : Nat} (hk : k < ms) (h0 : So k = 0) (h1 : Kd (Su k) = 1) : mb (RM Kd Op Aa Ab Ac So Su Sr ms (Su k)) (Sr k) ∧ ∀ y, 0 < y → y ≤ dp So k → mb (RM Kd Op Aa Ab Ac So Su Sr ms (Su k)) (cL So Su k y) :=
  ⟨raM_le (k := k + 1) ((raM_0 h0 h1).mpr (Or.inr ⟨rfl, Or.inl rfl⟩)) hk, fun y y0 y1 => raM_le (k := k + 1) ((raM_0 h0 h1).mpr (Or.inr ⟨rfl, Or.inr (arM_cL k _ y y0 y1 (Nat.le_refl _))⟩)) hk⟩
theorem RM_nod {z t : Nat} (h : Kd z = 3) (ht : (1 ≤ tab (Op z) ∧ t = ix (Aa z)) ∨ (2 ≤ tab (Op z) ∧ t = ix (Ab z)) ∨ (3 ≤ tab (Op z) ∧ t = ix (Ac z))) : mb (RM Kd Op Aa Ab Ac So Su Sr ms z) t :=
  raM_le (k := 0) ((raB_3 h t).mpr ht) (Nat.zero_le _)
theorem raM_bd {B : Nat → Nat} (hB : ∀ s, s < n → ∀ t, mb (B s) t → t < n) (h : STW n Kd So Su Sr ms) : ∀ k, k ≤ ms → ∀ s, s < n → ∀ t, mb (raM B Kd So Su Sr k s) t → t < n
  | 0, _, s, hs, t, q => hB s hs t q
  | k + 1, hk, s, hs, t, q => by
    have ih := raM_bd hB h k (by omega)
    by_cases c : So k = 0 ∧ Kd (Su k) = 1
    · rcases (raM_0 c.1 c.2).mp q with q | ⟨_, q | q⟩
      · exact ih s hs t q
      · rw [q]; exact ((h k (by omega)).2 c.1).1
      · exact arM_lt (fun j hj e => (h j hj).1 (Or.inr e)) k (by omega) _ _ q
    · rw [raM_n c] at q
      exact ih s hs t q
theorem RM_lt (h : WFC n Kd Wd Op Aa Ab Ac So Su Sr ms) : ∀ z, z < n → ∀ t, mb (RM Kd Op Aa Ab Ac So Su Sr ms z) t → t < n := by
  refine raM_bd (fun s hs t q => ?_) h.2.2.2.2.2.2.2 ms (Nat.le_refl _)
  by_cases c : Kd s = 3
  · have hw := (h.2.2.2.2.2.2.1 s hs).2 c
    rcases (raB_3 c t).mp q with ⟨a, b⟩ | ⟨a, b⟩ | ⟨a, b⟩
    · obtain ⟨X, x1, x2⟩ := hw.2.1 a; rw [b, WF_ix h x1 x2]; exact x1
    · obtain ⟨X, x1, x2⟩ := hw.2.2.1 a; rw [b, WF_ix h x1 x2]; exact x1
    · obtain ⟨X, x1, x2⟩ := hw.2.2.2.1 a; rw [b, WF_ix h x1 x2]; exact x1
  · have := raB_n (Op := Op) (Aa := Aa) (Ab := Ab) (Ac := Ac) c t
    rw [mb_bt, this] at q
    omega
/-- what the bits of a SIGNAL are by those that it rests on -/
def stp (Kd Wd Op : Nat → Nat) (Aa Ab Ac : Nat → Int32) (So Su Sr : Nat → Nat) (ms : Nat) (CB : Nat → Nat → Nat) (z j : Nat) : Nat :=
  if j < Wd z then (if Kd z = 1 then skC So Su Sr Kd CB ms z j else if Kd z = 3 then nc Wd CB (Op z) (Aa z) (Ab z) (Ac z) j else 2 * (2 * (z * 8 + j) + 1)) else 0
theorem nc_cg {CB CB2 : Nat → Nat → Nat} {o : Nat} {x y z : Int32} (ho : o ≤ 11) (hx : 1 ≤ tab o → CB (ix x) = CB2 (ix x)) (hy : 2 ≤ tab o → CB (ix y) = CB2 (ix y)) (hz : 3 ≤ tab o → CB (ix z) = CB2 (ix z)) (j : Nat) : nc Wd CB o x y z j = nc Wd CB2 o x y z j := by
  match o, ho with
  | 0, _ => have a := hx (by decide); simp [nc, a]
  | 1, _ => have a := hx (by decide); have b := hy (by decide); simp [nc, a, b]
  | 2, _ => have a := hx (by decide); have b := hy (by decide); simp [nc, a, b]
  | 3, _ => have a := hx (by decide); have b := hy (by decide); simp [nc, a, b]
  | 4, _ => have a := hx (by decide); have b := hy (by decide); simp [nc, a, b]
  | 5, _ => have a := hx (by decide); have b := hy (by decide); simp [nc, a, b]
  | 6, _ => have a := hx (by decide); have b := hy (by decide); simp [nc, a, b]
  | 7, _ => have a := hx (by decide); have b := hy (by decide); simp [nc, a, b]
  | 8, _ => have a := hx (by decide); have b := hy (by decide); simp [nc, a, b]
  | 9, _ => have a := hx (by decide); simp [nc, a]
  | 10, _ => have a := hx (by decide); have b := hy (by decide); have c := hz (by decide); simp [nc, a, b, c]
  | 11, _ => simp [nc]
theorem stp_cg (h : WFC n Kd Wd Op Aa Ab Ac So Su Sr ms) {CB CB2 : Nat → Nat → Nat} {z : Nat} (hz : z < n) (he : ∀ t, mb (RM Kd Op Aa Ab Ac So Su Sr ms z) t → ∀ j, CB t j = CB2 t j) (j : Nat) : stp Kd Wd Op Aa Ab Ac So Su Sr ms CB z j = stp Kd Wd Op Aa Ab Ac So Su Sr ms CB2 z j := by
  unfold stp
  by_cases hj : j < Wd z
  · rw [if_pos hj, if_pos hj]
    by_cases k1 : Kd z = 1
    · rw [if_pos k1, if_pos k1]
      unfold skC
      rw [if_neg (show ¬ Kd z = 2 by omega), if_neg (show ¬ Kd z = 2 by omega)]
      have q := fun k (hk : k < ms) (h0 : So k = 0) (hs : Su k = z) => RM_set h hk h0 (by rw [hs]; exact k1)
      refine (gVF_cg (S := z) (v0 := 0) (Sr := Sr) (src := fun t => CB t j) (cnd := fun t => CB t 0) (src2 := fun t => CB2 t j) (cnd2 := fun t => CB2 t 0) h.2.2.2.2.1 h.2.2.2.2.2.1 (fun k hk h0 hs => ?_) ms (Nat.le_refl _) 0 (Nat.zero_le _)).1
      have w := q k hk h0 hs
      rw [hs] at w
      exact ⟨he _ w.1 j, fun y y0 y1 => he _ (w.2 y y0 y1) 0⟩
    · rw [if_neg k1, if_neg k1]
      by_cases k3 : Kd z = 3
      · rw [if_pos k3, if_pos k3]
        exact nc_cg ((h.2.2.2.2.2.2.1 z hz).2 k3).1 (fun t => funext (he _ (RM_nod k3 (Or.inl ⟨t, rfl⟩)))) (fun t => funext (he _ (RM_nod k3 (Or.inr (Or.inl ⟨t, rfl⟩))))) (fun t => funext (he _ (RM_nod k3 (Or.inr (Or.inr ⟨t, rfl⟩))))) j
      · rw [if_neg k3, if_neg k3]
  · rw [if_neg hj, if_neg hj]
def CBf (Kd Wd Op : Nat → Nat) (Aa Ab Ac : Nat → Int32) (So Su Sr : Nat → Nat) (ms : Nat) : Nat → Nat → Nat → Nat
  | 0 => fun _ _ => 0
  | r + 1 => stp Kd Wd Op Aa Ab Ac So Su Sr ms (CBf Kd Wd Op Aa Ab Ac So Su Sr ms r)
theorem CBf_st (h : WFC n Kd Wd Op Aa Ab Ac So Su Sr ms) {rk : Nat → Nat} (hrk : ∀ z, z < n → ∀ t, mb (RM Kd Op Aa Ab Ac So Su Sr ms z) t → t < n ∧ rk t < rk z) : ∀ r r2 z, z < n → rk z < r → rk z < r2 → ∀ j, CBf Kd Wd Op Aa Ab Ac So Su Sr ms r z j = CBf Kd Wd Op Aa Ab Ac So Su Sr ms r2 z j
  | 0, _, z, _, h1, _, _ => by omega
  | r + 1, 0, z, _, _, h2, _ => by omega
  | r + 1, r2 + 1, z, hz, h1, h2, j => by
    show stp _ _ _ _ _ _ _ _ _ _ _ _ _ = stp _ _ _ _ _ _ _ _ _ _ _ _ _
    refine stp_cg h hz (fun t ht i => ?_) j
    have := hrk z hz t ht
    exact CBf_st h hrk r r2 t this.1 (by omega) (by omega) i
theorem CB_eq (h : WFC n Kd Wd Op Aa Ab Ac So Su Sr ms) {rk : Nat → Nat} (hrk : ∀ z, z < n → rk z < n ∧ ∀ t, mb (RM Kd Op Aa Ab Ac So Su Sr ms z) t → t < n ∧ rk t < rk z) {z : Nat} (hz : z < n) (j : Nat) : CBf Kd Wd Op Aa Ab Ac So Su Sr ms n z j = stp Kd Wd Op Aa Ab Ac So Su Sr ms (CBf Kd Wd Op Aa Ab Ac So Su Sr ms n) z j := by
  obtain ⟨m, rfl⟩ : ∃ m, n = m + 1 := ⟨n - 1, by omega⟩
  show stp _ _ _ _ _ _ _ _ _ _ _ _ _ = _
  refine stp_cg h hz (fun t ht i => ?_) j
  have a := (hrk z hz).1
  have b := (hrk z hz).2 t ht
  exact CBf_st h (fun z hz => (hrk z hz).2) m (m + 1) t b.1 (by omega) (by omega) i
end CI
/-! what is kept by all that a net is made of -/
section PP
variable {Pp Qq : Nat → Prop}
theorem P_ei (po : ∀ x, Pp x → Pp (op1 x)) (pj : ∀ x y, Pp x → Pp y → Pp (jn x y)) {x y : Nat} (hx : Pp x) (hy : Pp y) : Pp (ei x y) := po _ (pj _ _ (po _ hx) (po _ hy))
theorem Q_eil (po : ∀ x, Pp x → Pp (op1 x)) (pl : ∀ x y, Pp x → Pp y → ∀ c, c ∈ jl x y → Qq c) {x y : Nat} (hx : Pp x) (hy : Pp y) : ∀ c, c ∈ eil x y → Qq c := pl _ _ (po _ hx) (po _ hy)
theorem P_pk (po : ∀ x, Pp x → Pp (op1 x)) (pj : ∀ x y, Pp x → Pp y → Pp (jn x y)) {c x y : Nat} (hc : Pp c) (hx : Pp x) (hy : Pp y) : Pp (pk c x y) := by
  unfold pk
  split
  · exact hx
  · exact P_ei po pj (pj _ _ hc hx) (pj _ _ (po _ hc) hy)
theorem Q_pkl (po : ∀ x, Pp x → Pp (op1 x)) (pj : ∀ x y, Pp x → Pp y → Pp (jn x y)) (pl : ∀ x y, Pp x → Pp y → ∀ c, c ∈ jl x y → Qq c) {c x y : Nat} (hc : Pp c) (hx : Pp x) (hy : Pp y) : ∀ a, a ∈ pkl c x y → Qq a := by
  intro a ha
  unfold pkl at ha
  split at ha
  · exact absurd ha List.not_mem_nil
  · rcases List.mem_append.mp ha with q | q
    · exact pl _ _ hc hx a q
    · rcases List.mem_append.mp q with q | q
      · exact pl _ _ (po _ hc) hy a q
      · exact Q_eil po pl (pj _ _ hc hx) (pj _ _ (po _ hc) hy) a q
theorem P_df (po : ∀ x, Pp x → Pp (op1 x)) (pj : ∀ x y, Pp x → Pp y → Pp (jn x y)) {x y : Nat} (hx : Pp x) (hy : Pp y) : Pp (df x y) := pj _ _ (po _ (pj _ _ hx hy)) (po _ (pj _ _ (po _ hx) (po _ hy)))
theorem Q_dfl (po : ∀ x, Pp x → Pp (op1 x)) (pj : ∀ x y, Pp x → Pp y → Pp (jn x y)) (pl : ∀ x y, Pp x → Pp y → ∀ c, c ∈ jl x y → Qq c) {x y : Nat} (hx : Pp x) (hy : Pp y) : ∀ a, a ∈ dfl x y → Qq a := by
  intro a ha
  rcases List.mem_append.mp ha with q | q
  · exact pl _ _ hx hy a q
  · rcases List.mem_append.mp q with q | q
    · exact pl _ _ (po _ hx) (po _ hy) a q
    · exact pl _ _ (po _ (pj _ _ hx hy)) (po _ (pj _ _ (po _ hx) (po _ hy))) a q
theorem P_ca (po : ∀ x, Pp x → Pp (op1 x)) (pj : ∀ x y, Pp x → Pp y → Pp (jn x y)) {X Y : Nat → Nat} {c0 : Nat} (hX : ∀ j, Pp (X j)) (hY : ∀ j, Pp (Y j)) (hc : Pp c0) : ∀ j, Pp (ca X Y c0 j)
  | 0 => hc
  | j + 1 => P_ei po pj (pj _ _ (hX j) (hY j)) (pj _ _ (P_df po pj (hX j) (hY j)) (P_ca po pj hX hY hc j))
theorem P_sm (po : ∀ x, Pp x → Pp (op1 x)) (pj : ∀ x y, Pp x → Pp y → Pp (jn x y)) {X Y : Nat → Nat} {c0 : Nat} (hX : ∀ j, Pp (X j)) (hY : ∀ j, Pp (Y j)) (hc : Pp c0) (j : Nat) : Pp (sm X Y c0 j) := P_df po pj (P_df po pj (hX j) (hY j)) (P_ca po pj hX hY hc j)
theorem P_eqc (p1 : Pp 1) (po : ∀ x, Pp x → Pp (op1 x)) (pj : ∀ x y, Pp x → Pp y → Pp (jn x y)) {X Y : Nat → Nat} (hX : ∀ j, Pp (X j)) (hY : ∀ j, Pp (Y j)) : ∀ j, Pp (eqc X Y j)
  | 0 => p1
  | j + 1 => pj _ _ (P_eqc p1 po pj hX hY j) (po _ (P_df po pj (hX j) (hY j)))
theorem catL_ex {f : Nat → List Nat} {c : Nat} : ∀ w, c ∈ catL f w → ∃ j, j < w ∧ c ∈ f j
  | 0, h => absurd h List.not_mem_nil
  | w + 1, h => by
    rcases List.mem_append.mp h with q | q
    · obtain ⟨j, a, b⟩ := catL_ex w q
      exact ⟨j, by omega, b⟩
    · exact ⟨w, by omega, q⟩
theorem Q_adL (po : ∀ x, Pp x → Pp (op1 x)) (pj : ∀ x y, Pp x → Pp y → Pp (jn x y)) (pl : ∀ x y, Pp x → Pp y → ∀ c, c ∈ jl x y → Qq c) {X Y : Nat → Nat} {c0 : Nat} (hX : ∀ j, Pp (X j)) (hY : ∀ j, Pp (Y j)) (hc : Pp c0) (w : Nat) : ∀ a, a ∈ adL X Y c0 w → Qq a := by
  intro a ha
  obtain ⟨j, _, h⟩ := catL_ex w ha
  have ka := P_ca po pj hX hY hc j
  have kd := P_df po pj (hX j) (hY j)
  rcases List.mem_append.mp h with q | q
  · exact Q_dfl po pj pl (hX j) (hY j) a q
  · rcases List.mem_append.mp q with q | q
    · exact Q_dfl po pj pl kd ka a q
    · rcases List.mem_append.mp q with q | q
      · exact pl _ _ (hX j) (hY j) a q
      · rcases List.mem_append.mp q with q | q
        · exact pl _ _ kd ka a q
        · exact Q_eil po pl (pj _ _ (hX j) (hY j)) (pj _ _ kd ka) a q
theorem Q_eqL (p1 : Pp 1) (po : ∀ x, Pp x → Pp (op1 x)) (pj : ∀ x y, Pp x → Pp y → Pp (jn x y)) (pl : ∀ x y, Pp x → Pp y → ∀ c, c ∈ jl x y → Qq c) {X Y : Nat → Nat} (hX : ∀ j, Pp (X j)) (hY : ∀ j, Pp (Y j)) (w : Nat) : ∀ a, a ∈ eqL X Y w → Qq a := by
  intro a ha
  obtain ⟨j, _, h⟩ := catL_ex w ha
  rcases List.mem_append.mp h with q | q
  · exact Q_dfl po pj pl (hX j) (hY j) a q
  · exact pl _ _ (P_eqc p1 po pj hX hY j) (po _ (P_df po pj (hX j) (hY j))) a q
theorem P_oC (po : ∀ x, Pp x → Pp (op1 x)) {f : Nat → Nat} (hf : ∀ j, Pp (f j)) (t j : Nat) : Pp (oC f t j) := by
  unfold oC
  split
  · exact po _ (hf j)
  · exact hf j
theorem P_nc (p0 : Pp 0) (p1 : Pp 1) (po : ∀ x, Pp x → Pp (op1 x)) (pj : ∀ x y, Pp x → Pp y → Pp (jn x y)) {Wd : Nat → Nat} {CB : Nat → Nat → Nat} {o : Nat} {x y z : Int32} (ho : o ≤ 11) (hx : 1 ≤ tab o → ∀ j, Pp (CB (ix x) j)) (hy : 2 ≤ tab o → ∀ j, Pp (CB (ix y) j)) (hz : 3 ≤ tab o → ∀ j, Pp (CB (ix z) j)) (j : Nat) : Pp (nc Wd CB o x y z j) := by
  match o, ho with
  | 0, _ => exact po _ (hx (by decide) j)
  | 1, _ => exact pj _ _ (hx (by decide) j) (hy (by decide) j)
  | 2, _ => exact P_ei po pj (hx (by decide) j) (hy (by decide) j)
  | 3, _ => exact P_df po pj (hx (by decide) j) (hy (by decide) j)
  | 4, _ =>
    show Pp (if j < max (Wd (ix x)) (Wd (ix y)) then sm (CB (ix x)) (oC (CB (ix y)) 0) 0 j else ca (CB (ix x)) (oC (CB (ix y)) 0) 0 (max (Wd (ix x)) (Wd (ix y))))
    split
    · exact P_sm po pj (hx (by decide)) (P_oC po (hy (by decide)) 0) p0 j
    · exact P_ca po pj (hx (by decide)) (P_oC po (hy (by decide)) 0) p0 _
  | 5, _ => exact P_sm po pj (hx (by decide)) (P_oC po (hy (by decide)) 1) p1 j
  | 6, _ => exact P_eqc p1 po pj (hx (by decide)) (hy (by decide)) _
  | 7, _ => exact po _ (P_ca po pj (hx (by decide)) (P_oC po (hy (by decide)) 1) p1 _)
  | 8, _ =>
    show Pp (if j < Wd (ix y) then CB (ix y) j else CB (ix x) (j - Wd (ix y)))
    split
    · exact hy (by decide) _
    · exact hx (by decide) _
  | 9, _ => exact hx (by decide) _
  | 10, _ => exact P_pk po pj (hx (by decide) 0) (hy (by decide) j) (hz (by decide) j)
  | 11, _ =>
    show Pp (ix x / 2 ^ j % 2)
    rcases (show ix x / 2 ^ j % 2 = 0 ∨ ix x / 2 ^ j % 2 = 1 by omega) with e | e <;> rw [e]
    · exact p0
    · exact p1
theorem Q_ncL (p0 : Pp 0) (p1 : Pp 1) (po : ∀ x, Pp x → Pp (op1 x)) (pj : ∀ x y, Pp x → Pp y → Pp (jn x y)) (pl : ∀ x y, Pp x → Pp y → ∀ c, c ∈ jl x y → Qq c) {Wd : Nat → Nat} {CB : Nat → Nat → Nat} {o : Nat} {x y z : Int32} (ho : o ≤ 11) (hx : 1 ≤ tab o → ∀ j, Pp (CB (ix x) j)) (hy : 2 ≤ tab o → ∀ j, Pp (CB (ix y) j)) (hz : 3 ≤ tab o → ∀ j, Pp (CB (ix z) j)) (w : Nat) : ∀ a, a ∈ ncL Wd CB o x y z w → Qq a := by
  intro a ha
  have nil : ∀ {f : Nat → List Nat}, (∀ j, f j = []) → a ∈ catL f w → Qq a := fun hf h => by
    obtain ⟨j, _, q⟩ := catL_ex w h
    rw [hf j] at q
    exact absurd q List.not_mem_nil
  match o, ho with
  | 0, _ => exact nil (fun _ => rfl) ha
  | 1, _ => obtain ⟨j, _, q⟩ := catL_ex w ha; exact pl _ _ (hx (by decide) j) (hy (by decide) j) a q
  | 2, _ => obtain ⟨j, _, q⟩ := catL_ex w ha; exact Q_eil po pl (hx (by decide) j) (hy (by decide) j) a q
  | 3, _ => obtain ⟨j, _, q⟩ := catL_ex w ha; exact Q_dfl po pj pl (hx (by decide) j) (hy (by decide) j) a q
  | 4, _ => exact Q_adL po pj pl (hx (by decide)) (P_oC po (hy (by decide)) 0) p0 _ a ha
  | 5, _ => exact Q_adL po pj pl (hx (by decide)) (P_oC po (hy (by decide)) 1) p1 _ a ha
  | 6, _ => exact Q_eqL p1 po pj pl (hx (by decide)) (hy (by decide)) _ a ha
  | 7, _ => exact Q_adL po pj pl (hx (by decide)) (P_oC po (hy (by decide)) 1) p1 _ a ha
  | 8, _ => exact nil (fun _ => rfl) ha
  | 9, _ => exact nil (fun _ => rfl) ha
  | 10, _ => obtain ⟨j, _, q⟩ := catL_ex w ha; exact Q_pkl po pj pl (hx (by decide) 0) (hy (by decide) j) (hz (by decide) j) a q
  | 11, _ => exact nil (fun _ => rfl) ha
end PP
