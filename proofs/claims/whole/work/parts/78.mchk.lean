/-! the reference's checks: what is SURE, by bits -/
def bt (M t : Nat) : Nat := M / 2 ^ t % 2
theorem bt_tb (M t : Nat) : bt M t = (M.testBit t).toNat := by
  unfold bt
  rw [Nat.testBit_eq_decide_div_mod_eq]
  have : M / 2 ^ t % 2 < 2 := Nat.mod_lt _ (by decide)
  rcases (show M / 2 ^ t % 2 = 0 ∨ M / 2 ^ t % 2 = 1 by omega) with e | e <;> rw [e] <;> rfl
theorem bt_lt (M t : Nat) : bt M t < 2 := Nat.mod_lt _ (by decide)
theorem bt_0 (t : Nat) : bt 0 t = 0 := by
  unfold bt
  rw [Nat.zero_div]
theorem bt_or (a b t : Nat) : bt (a ||| b) t = max (bt a t) (bt b t) := by
  rw [bt_tb, bt_tb, bt_tb, Nat.testBit_or]
  cases a.testBit t <;> cases b.testBit t <;> rfl
theorem bt_and (a b t : Nat) : bt (a &&& b) t = min (bt a t) (bt b t) := by
  rw [bt_tb, bt_tb, bt_tb, Nat.testBit_and]
  cases a.testBit t <;> cases b.testBit t <;> rfl
theorem bt_pow (x t : Nat) : bt (2 ^ x) t = if x = t then 1 else 0 := by
  rw [bt_tb, Nat.testBit_two_pow]
  by_cases e : x = t
  · rw [if_pos e, decide_eq_true e]; rfl
  · rw [if_neg e, decide_eq_false e]; rfl
theorem mb_bt {M t : Nat} : mb M t ↔ bt M t = 1 := Iff.rfl
def SI (So Su : Nat → Nat) (S k v d : Nat) (B F U : Nat → Nat) : Prop :=
  d = dp So k ∧ v = bt (mPF So Su k d).1 S ∧ (∀ z, z < d → B z = bt (mPF So Su k z).1 S) ∧ ∀ z, z < d → (if U z = 1 then F z else 0) = bt (mPF So Su k (z + 1)).2 S
section SS
variable {So Su : Nat → Nat} {S k v d w : Nat} {B F U : Nat → Nat}
theorem SI_v (h : SI So Su S k v d B F U) : v < 2 := by rw [h.2.1]; exact bt_lt _ _
theorem SI_b (h : SI So Su S k v d B F U) {z : Nat} (hz : z < d) : B z < 2 := by rw [h.2.2.1 z hz]; exact bt_lt _ _
theorem SI_i : SI So Su S 0 0 0 B F U := ⟨rfl, (bt_0 S).symm, fun z h => absurd h (by omega), fun z h => absurd h (by omega)⟩
theorem SI_0y (h : SI So Su S k v d B F U) (h0 : So k = 0) (hs : Su k = S) : SI So Su S (k + 1) 1 d B F U := by
  obtain ⟨h1, h2, h3, h4⟩ := h
  refine ⟨by rw [dp_o (by omega) (by omega)]; exact h1, ?_, fun z hz => ?_, fun z hz => ?_⟩
  · rw [mPF_0 h0, if_pos h1, hs]
    show 1 = bt (_ ||| 2 ^ S) S
    rw [bt_or, bt_pow, if_pos rfl]
    have := bt_lt (mPF So Su k d).1 S
    omega
  · rw [mPF_0 h0, if_neg (by omega)]
    exact h3 z hz
  · have e2 : (mPF So Su (k + 1) (z + 1)).2 = (mPF So Su k (z + 1)).2 := by rw [mPF_0 h0]; split <;> rfl
    rw [e2]
    exact h4 z hz
theorem SI_0n (h : SI So Su S k v d B F U) (h0 : So k = 0) (hs : ¬ Su k = S) : SI So Su S (k + 1) v d B F U := by
  obtain ⟨h1, h2, h3, h4⟩ := h
  refine ⟨by rw [dp_o (by omega) (by omega)]; exact h1, ?_, fun z hz => ?_, fun z hz => ?_⟩
  · rw [mPF_0 h0, if_pos h1]
    show v = bt (_ ||| 2 ^ Su k) S
    rw [bt_or, bt_pow, if_neg hs, ← h2]
    omega
  · rw [mPF_0 h0, if_neg (by omega)]
    exact h3 z hz
  · have e2 : (mPF So Su (k + 1) (z + 1)).2 = (mPF So Su k (z + 1)).2 := by rw [mPF_0 h0]; split <;> rfl
    rw [e2]
    exact h4 z hz
theorem SI_1 (h : SI So Su S k v d B F U) (h0 : So k = 1) (hw : w = v) : SI So Su S (k + 1) 0 (d + 1) (upN B d w) F (upN U d 0) := by
  obtain ⟨h1, h2, h3, h4⟩ := h
  subst hw
  refine ⟨by rw [dp_w h0, h1], ?_, fun z hz => ?_, fun z hz => ?_⟩
  · rw [mPF_1 h0, if_pos (by omega)]
    exact (bt_0 S).symm
  · rw [mPF_1 h0, if_neg (by omega)]
    by_cases e : z = d
    · rw [e, upN_self]; exact h2
    · rw [upN_ne _ _ e]; exact h3 z (by omega)
  · by_cases e : z = d
    · have e2 : (mPF So Su (k + 1) (z + 1)).2 = 0 := by rw [mPF_1 h0, if_pos (by omega)]
      rw [e2, e, upN_self, if_neg (by decide)]; exact (bt_0 S).symm
    · have e2 : (mPF So Su (k + 1) (z + 1)).2 = (mPF So Su k (z + 1)).2 := by rw [mPF_1 h0, if_neg (by omega)]
      rw [e2, upN_ne _ _ e]; exact h4 z (by omega)
theorem SI_2 (h : SI So Su S k v d B F U) (h0 : So k = 2) (hw : w = v) (hd : 0 < d) : SI So Su S (k + 1) 0 d B (upN F (d - 1) w) (upN U (d - 1) 1) := by
  obtain ⟨h1, h2, h3, h4⟩ := h
  subst hw
  refine ⟨by rw [dp_o (by omega) (by omega)]; exact h1, ?_, fun z hz => ?_, fun z hz => ?_⟩
  · rw [mPF_2 h0, if_pos h1]
    exact (bt_0 S).symm
  · rw [mPF_2 h0, if_neg (by omega)]
    exact h3 z hz
  · by_cases e : z = d - 1
    · have e2 : (mPF So Su (k + 1) (z + 1)).2 = (mPF So Su k d).1 := by rw [mPF_2 h0, if_pos (by omega), show z + 1 = d by omega]
      rw [e2, e, upN_self, upN_self, if_pos rfl]; exact h2
    · have e2 : (mPF So Su (k + 1) (z + 1)).2 = (mPF So Su k (z + 1)).2 := by rw [mPF_2 h0, if_neg (by omega)]
      rw [e2, upN_ne _ _ e, upN_ne _ _ e]; exact h4 z hz
theorem SI_3 (h : SI So Su S k v d B F U) (h0 : So k = 3) (hd : 0 < d) (hw : (w = 1 ∧ (B (d - 1) = 1 ∨ (U (d - 1) = 1 ∧ F (d - 1) = 1 ∧ ¬ v = 0))) ∨ (w = 0 ∧ ¬ (B (d - 1) = 1 ∨ (U (d - 1) = 1 ∧ F (d - 1) = 1 ∧ ¬ v = 0)))) : SI So Su S (k + 1) w (d - 1) B F U := by
  have hv := SI_v h
  have hb := SI_b h (z := d - 1) (by omega)
  obtain ⟨h1, h2, h3, h4⟩ := h
  refine ⟨by rw [dp_e h0, h1], ?_, fun z hz => ?_, fun z hz => ?_⟩
  · rw [mPF_3 (by omega), if_pos (by omega)]
    show w = bt (_ ||| (_ &&& _)) S
    rw [bt_or, bt_and, ← h3 (d - 1) (by omega), ← h4 (d - 1) (by omega), show d - 1 + 1 = d by omega, ← h2]
    by_cases e : U (d - 1) = 1
    · rw [if_pos e]
      have hf := h4 (d - 1) (by omega)
      rw [if_pos e] at hf
      have := bt_lt (mPF So Su k (d - 1 + 1)).2 S
      omega
    · rw [if_neg e]
      omega
  · rw [mPF_3 (by omega), if_neg (by omega)]
    exact h3 z (by omega)
  · have e2 : (mPF So Su (k + 1) (z + 1)).2 = (mPF So Su k (z + 1)).2 := by rw [mPF_3 (by omega)]; split <;> rfl
    rw [e2]
    exact h4 z (by omega)
end SS
/-! what each SIGNAL RESTS ON -/
theorem jj_ti {q : Nat} (hq : q < 1000) : (nI q - nI 1).toInt = (q : Int) - 1 := pk_sub_toInt (by omega) (by decide)
theorem jj_m1 (x : Int32) : x + Int32.ofInt (-1) = x - nI 1 := by
  rw [Int32.sub_eq_add_neg]
  rfl
theorem mb_or2 {a b t : Nat} : mb (a ||| b) t ↔ mb a t ∨ mb b t := by
  rw [mb_bt, mb_bt, mb_bt, bt_or]
  have := bt_lt a t
  have := bt_lt b t
  omega
theorem mb_pow {x t : Nat} : mb (2 ^ x) t ↔ t = x := by
  rw [mb_bt, bt_pow]
  split <;> omega
theorem mb_0 {t : Nat} : ¬ mb 0 t := by
  rw [mb_bt, bt_0]
  omega
/-- the rows of a table of 14 by 14 -/
def TB (R : Nat → Nat) (Q : Nat → Nat → Prop) : Prop := ∀ z t, z < 14 → t < 14 → (R (14 * z + t) = 1 ↔ Q z t)
theorem TB_up {R : Nat → Nat} {Q Q2 : Nat → Nat → Prop} {a b : Nat} (h : TB R Q) (ha : a < 14) (hb : b < 14) (hQ : ∀ z t, z < 14 → t < 14 → (Q2 z t ↔ Q z t ∨ (z = a ∧ t = b))) : TB (upN R (14 * a + b) 1) Q2 := by
  intro z t hz ht
  rw [hQ z t hz ht]
  by_cases e : z = a ∧ t = b
  · rw [e.1, e.2, upN_self]
    exact ⟨fun _ => Or.inr ⟨rfl, rfl⟩, fun _ => rfl⟩
  · rw [upN_ne _ _ (by omega), h z t hz ht]
    exact ⟨Or.inl, fun q => q.resolve_right e⟩
theorem TB_congr {R : Nat → Nat} {Q Q2 : Nat → Nat → Prop} (h : TB R Q) (hQ : ∀ z t, z < 14 → t < 14 → (Q2 z t ↔ Q z t)) : TB R Q2 := fun z t hz ht => (h z t hz ht).trans (hQ z t hz ht).symm
theorem mb_amk {k x y z t : Nat} : mb (amk k x y z) t ↔ (1 ≤ k ∧ t = x) ∨ (2 ≤ k ∧ t = y) ∨ (3 ≤ k ∧ t = z) := by
  unfold amk
  rw [mb_or2, mb_or2]
  have h : ∀ (q : Prop) [Decidable q] (v : Nat), mb (if q then 0 else 2 ^ v) t ↔ ¬ q ∧ t = v := fun q _ v => by
    by_cases c : q
    · rw [if_pos c]; exact ⟨fun q => absurd q mb_0, fun q => absurd c q.1⟩
    · rw [if_neg c, mb_pow]; exact ⟨fun e => ⟨c, e⟩, fun e => e.2⟩
  rw [h, h, h]
  omega
theorem raM_0 {B Kd So Su Sr : Nat → Nat} {k s t : Nat} (h0 : So k = 0) (h1 : Kd (Su k) = 1) : mb (raM B Kd So Su Sr (k + 1) s) t ↔ mb (raM B Kd So Su Sr k s) t ∨ (s = Su k ∧ (t = Sr k ∨ mb (arM So Su k (dp So k)) t)) := by
  conv => lhs; unfold raM
  by_cases e : s = Su k
  · rw [if_pos ⟨h0, h1, e⟩, mb_or2, mb_or2, mb_pow]
    constructor
    · rintro (q | q | q)
      · exact Or.inl q
      · exact Or.inr ⟨e, Or.inr q⟩
      · exact Or.inr ⟨e, Or.inl q⟩
    · rintro (q | ⟨_, q | q⟩)
      · exact Or.inl q
      · exact Or.inr (Or.inr q)
      · exact Or.inr (Or.inl q)
  · rw [if_neg (fun q => e q.2.2)]
    exact ⟨Or.inl, fun q => q.resolve_right (fun z => e z.1)⟩
theorem raM_n {B Kd So Su Sr : Nat → Nat} {k s : Nat} (h : ¬ (So k = 0 ∧ Kd (Su k) = 1)) : raM B Kd So Su Sr (k + 1) s = raM B Kd So Su Sr k s := by
  conv => lhs; unfold raM
  rw [if_neg (fun q => h ⟨q.1, q.2.1⟩)]
theorem back_ar {So Su : Nat → Nat} {k N : Nat} (h : N ≤ dp So (k + 1)) (h1 : ¬ (So k = 1 ∧ dp So k + 1 = N)) : N ≤ dp So k ∧ arM So Su (k + 1) N = arM So Su k N := by
  by_cases c : So k = 1
  · rw [dp_w c] at h
    have : ¬ dp So k + 1 = N := fun e => h1 ⟨c, e⟩
    exact ⟨by omega, by rw [arM_1 c, if_neg (by omega)]⟩
  · refine ⟨?_, arM_n c N⟩
    by_cases c3 : So k = 3
    · rw [dp_e c3] at h
      omega
    · rw [dp_o c c3] at h
      exact h
theorem bt_o1 (C x t : Nat) : bt (C ||| 2 ^ x) t = 1 ↔ bt C t = 1 ∨ t = x := by
  rw [bt_or, bt_pow]
  have := bt_lt C t
  split <;> omega
theorem raB_3 {Kd Op : Nat → Nat} {Aa Ab Ac : Nat → Int32} {z : Nat} (h : Kd z = 3) (t : Nat) : bt (raB Kd Op Aa Ab Ac z) t = 1 ↔ (1 ≤ tab (Op z) ∧ t = ix (Aa z)) ∨ (2 ≤ tab (Op z) ∧ t = ix (Ab z)) ∨ (3 ≤ tab (Op z) ∧ t = ix (Ac z)) := by
  unfold raB
  rw [if_pos h]
  exact mb_amk
theorem raB_n {Kd Op : Nat → Nat} {Aa Ab Ac : Nat → Int32} {z : Nat} (h : ¬ Kd z = 3) (t : Nat) : bt (raB Kd Op Aa Ab Ac z) t = 0 := by
  unfold raB
  rw [if_neg h, bt_0]
theorem tab_3 {o : Nat} (h : o ≤ 11) (h0 : o ≠ 10) : tab o ≤ 2 := by
  unfold tab
  match o, h with
  | 10, _ => exact absurd rfl h0
  | 0, _ | 1, _ | 2, _ | 3, _ | 4, _ | 5, _ | 6, _ | 7, _ | 8, _ | 9, _ | 11, _ => decide
theorem arM_bt {So Su : Nat → Nat} {i o t : Nat} (h : So i = 1) (ho : o = dp So i + 1) : bt (arM So Su (i + 1) o) t = 1 ↔ bt (arM So Su i (o - 1)) t = 1 ∨ t = Su i := by
  rw [arM_1 h, if_pos ho, bt_o1, ho, Nat.add_sub_cancel]
theorem raM_b {B Kd So Su Sr : Nat → Nat} {k s t : Nat} (h0 : So k = 0) (h1 : Kd (Su k) = 1) : bt (raM B Kd So Su Sr (k + 1) s) t = 1 ↔ bt (raM B Kd So Su Sr k s) t = 1 ∨ (s = Su k ∧ (t = Sr k ∨ bt (arM So Su k (dp So k)) t = 1)) := raM_0 h0 h1
/-! closing a row of the table -/
theorem cnt_mono {f g : Nat → Nat} : ∀ n, (∀ j, j < n → f j ≤ g j) → cnt f n ≤ cnt g n
  | 0, _ => Nat.le_refl 0
  | n + 1, h => by
    unfold cnt
    have a := cnt_mono n (fun j hj => h j (by omega))
    have b := h n (by omega)
    omega
theorem cnt_lt {f g : Nat → Nat} : ∀ n, (∀ j, j < n → f j ≤ g j) → (∃ j, j < n ∧ f j < g j) → cnt f n < cnt g n
  | 0, _, h => by
    obtain ⟨j, hj, _⟩ := h
    omega
  | n + 1, h, h2 => by
    obtain ⟨j, hj, hlt⟩ := h2
    unfold cnt
    by_cases e : j = n
    · subst e
      have a := cnt_mono j (fun i hi => h i (by omega))
      omega
    · have a := cnt_lt n (fun i hi => h i (by omega)) ⟨j, by omega, hlt⟩
      have b := h n (by omega)
      omega
theorem cnt_full {f : Nat → Nat} (hf : ∀ j, f j < 2) : ∀ n, n ≤ cnt f n → ∀ j, j < n → f j = 1
  | 0, _, j, hj => by omega
  | n + 1, h, j, hj => by
    unfold cnt at h
    have a := cnt_le hf n
    have b := hf n
    by_cases e : j = n
    · subst e
      omega
    · exact cnt_full hf n (by omega) j (by omega)
/-- row S of R1 is closed under the rows of R0 -/
def CLo (R0 R1 : Nat → Nat) (S : Nat) : Prop := ∀ t v, t < 14 → v < 14 → R1 (14 * S + t) = 1 → R0 (14 * t + v) = 1 → R1 (14 * S + v) = 1
/-- nothing is in row S that a closed set needn't hold -/
def SND (R0 R1 : Nat → Nat) (S : Nat) : Prop := ∀ C : Nat → Prop, (∀ t, t < 14 → R0 (14 * S + t) = 1 → C t) → (∀ t v, t < 14 → v < 14 → C t → R0 (14 * t + v) = 1 → C v) → ∀ t, t < 14 → R1 (14 * S + t) = 1 → C t
def OTH (R0 R1 : Nat → Nat) (S : Nat) : Prop := ∀ i, ¬ (14 * S ≤ i ∧ i < 14 * S + 14) → R1 i = R0 i
def INC (R0 R1 : Nat → Nat) (S : Nat) : Prop := ∀ t, t < 14 → R0 (14 * S + t) = 1 → R1 (14 * S + t) = 1
theorem OTH_up {R0 R1 : Nat → Nat} {S u v : Nat} (h : OTH R0 R1 S) (hu : u < 14) : OTH R0 (upN R1 (14 * S + u) v) S := fun i hi => by
  rw [upN_ne _ _ (by omega)]
  exact h i hi
theorem INC_up {R0 R1 : Nat → Nat} {S i : Nat} (h : INC R0 R1 S) : INC R0 (upN R1 i 1) S := fun t ht q => by
  have := h t ht q
  unfold upN
  split
  · rfl
  · exact this
theorem SND_up {R0 R1 : Nat → Nat} {S t u : Nat} (h : SND R0 R1 S) (hO : OTH R0 R1 S) (ht : t < 14) (hu : u < 14) (h1 : R1 (14 * S + t) = 1) (h2 : R1 (14 * t + u) = 1) : SND R0 (upN R1 (14 * S + u) 1) S := fun C c1 c2 x hx q => by
  by_cases e : x = u
  · subst e
    by_cases es : t = S
    · subst es
      exact h C c1 c2 x hx h2
    · rw [hO _ (by omega)] at h2
      exact c2 t x ht hx (h C c1 c2 t ht h1) h2
  · rw [upN_ne _ _ (by omega)] at q
    exact h C c1 c2 x hx q
/-- a round more -/
theorem CLo_round {R0 R1 R2 : Nat → Nat} {S n : Nat} (hb1 : ∀ j, R1 j < 2) (hb2 : ∀ j, R2 j < 2) (hI : INC R0 R1 S) (hI2 : INC R1 R2 S) (hS2 : SND R0 R2 S) (hD : ∀ x, x < 14 → R1 (14 * S + x) = 1 → ∀ v, v < 14 → R0 (14 * x + v) = 1 → R2 (14 * S + v) = 1) (h : CLo R0 R1 S ∨ n ≤ cnt (fun t => R1 (14 * S + t)) 14) : CLo R0 R2 S ∨ n + 1 ≤ cnt (fun t => R2 (14 * S + t)) 14 := by
  by_cases e : ∀ t, t < 14 → R2 (14 * S + t) = 1 → R1 (14 * S + t) = 1
  · exact Or.inl (fun t v ht hv q r => hD t ht (e t ht q) v hv r)
  · rcases h with h | h
    · exact absurd (fun t ht q => hS2 (fun x => R1 (14 * S + x) = 1) (fun x hx r => hI x hx r) (fun x v hx hv r s => h x v hx hv r s) t ht q) e
    · have ⟨t, ht⟩ := Classical.not_forall.mp e
      have h14 : t < 14 := Classical.byContradiction (fun q => ht (fun a => absurd a q))
      have hne : R2 (14 * S + t) = 1 ∧ ¬ R1 (14 * S + t) = 1 := Classical.byContradiction (fun q => ht (fun _ a => Classical.byContradiction (fun b => q ⟨a, b⟩)))
      have hlt := cnt_lt (f := fun t => R1 (14 * S + t)) (g := fun t => R2 (14 * S + t)) 14 (fun j hj => by
        have a := hb1 (14 * S + j)
        have b := hI2 j hj
        show R1 (14 * S + j) ≤ R2 (14 * S + j)
        rcases (show R1 (14 * S + j) = 0 ∨ R1 (14 * S + j) = 1 by omega) with q | q
        · omega
        · rw [b q]; omega) ⟨t, h14, by
        have a := hb1 (14 * S + t)
        show R1 (14 * S + t) < R2 (14 * S + t)
        omega⟩
      exact Or.inr (by omega)
theorem CLo_end {R0 R1 : Nat → Nat} {S : Nat} (hb : ∀ j, R1 j < 2) (h : CLo R0 R1 S ∨ 14 ≤ cnt (fun t => R1 (14 * S + t)) 14) : CLo R0 R1 S := by
  rcases h with h | h
  · exact h
  · exact fun t v _ hv _ _ => cnt_full (f := fun t => R1 (14 * S + t)) (fun j => hb _) 14 h v hv
