/-! what both sides hold between calls -/
theorem SG1_up {n n2 : Nat} {Wd Wd2 : Nat → Nat} {K W O : Nat} {a b c : Int32} (h : SG1 n Wd K W O a b c) (hn : n ≤ n2) (h14 : n ≤ 14) (hW : ∀ z, z < n → Wd2 z = Wd z) : SG1 n2 Wd2 K W O a b c := by
  obtain ⟨h1, h2⟩ := h
  refine ⟨h1, fun k => ?_⟩
  obtain ⟨q1, q2, q3, q4, q5, q6, q7, q8, q9, q10, q11, q12⟩ := h2 k
  have up : ∀ {x : Int32}, (∃ X, X < n ∧ x = nI X) → ∃ X, X < n2 ∧ x = nI X := fun ⟨X, e1, e2⟩ => ⟨X, Nat.lt_of_lt_of_le e1 hn, e2⟩
  have ew : ∀ {x : Int32}, (∃ X, X < n ∧ x = nI X) → Wd2 (ix x) = Wd (ix x) := fun ⟨X, e1, e2⟩ => by rw [ix_of e2 (Nat.lt_of_lt_of_le e1 (Nat.le_trans h14 (by decide)))]; exact hW X e1
  refine ⟨q1, fun t => up (q2 t), fun t => up (q3 t), fun t => up (q4 t), q5, q6, fun e => ?_, fun e => ?_, q9, fun e => ?_, fun e => ?_, fun e => ?_⟩
  · rw [ew (q2 (by rw [e]; decide)), ew (q3 (by rw [e]; decide))]; exact q7 e
  · rw [ew (q2 (by rw [e]; decide)), ew (q3 (by rw [e]; decide))]; exact q8 e
  · rw [ew (q2 (by rw [e]; decide))]; exact q10 e
  · rw [ew (q2 (by rw [e]; decide)), ew (q3 (by rw [e]; decide))]; exact q11 e
  · rw [ew (q2 (by rw [e]; decide))]; exact q12 e
theorem hs_ex {n : Nat} {x : Int32} (h : hs n x = 1) : ∃ X, X < n ∧ x = nI X := by
  obtain ⟨X, a, b, _⟩ := hs_of (n := n) (x := x) (by rw [h]; decide)
  exact ⟨X, b, a⟩
theorem wdo_k {Wd : Nat → Nat} {x y z : Int32} : wdo Wd 0 x y z = Wd (ix x) ∧ wdo Wd 4 x y z = max (Wd (ix x)) (Wd (ix y)) + 1 ∧ wdo Wd 5 x y z = max (Wd (ix x)) (Wd (ix y)) ∧ wdo Wd 6 x y z = 1 ∧ wdo Wd 7 x y z = 1 ∧ wdo Wd 8 x y z = Wd (ix x) + Wd (ix y) ∧ wdo Wd 9 x y z = (if 0 ≤ y.toInt ∧ 1 ≤ z.toInt ∧ y.toInt ≤ 8 ∧ z.toInt ≤ 8 ∧ y.toInt + z.toInt ≤ Wd (ix x) then ix z else 0) ∧ wdo Wd 11 x y z = (if 1 ≤ y.toInt ∧ y.toInt ≤ 8 ∧ 0 ≤ x.toInt ∧ x.toInt < ((2 ^ ix y : Nat) : Int) then ix y else 0) := ⟨rfl, rfl, rfl, rfl, rfl, rfl, rfl, rfl⟩
theorem nwd_SG1 {n : Nat} {Wd : Nat → Nat} {o x y z : Int32} (h1 : 1 ≤ nwd n Wd o x y z) : SG1 n Wd 3 (nwd n Wd o x y z) (ix o) x y z ∧ 0 ≤ o.toInt ∧ o.toInt ≤ 11 ∧ ix o ≤ 11 := by
  by_cases c : 0 ≤ o.toInt ∧ o.toInt ≤ 11 ∧ (tab (ix o) < 1 ∨ hs n x = 1) ∧ (tab (ix o) < 2 ∨ hs n y = 1) ∧ (tab (ix o) < 3 ∨ hs n z = 1)
  · obtain ⟨o1, o2, hx, hy, hz⟩ := c
    rw [nwd_1 ⟨o1, o2, hx, hy, hz⟩] at h1 ⊢
    obtain ⟨O, eO, hO, hOb⟩ := raw_nat (x := o) o1
    have e := ix_of eO hOb
    rw [e] at h1 hx hy hz ⊢
    have hO11 : O ≤ 11 := by omega
    obtain ⟨w0, w4, w5, w6, w7, w8, w9, w11⟩ := wdo_k (Wd := Wd) (x := x) (y := y) (z := z)
    refine ⟨⟨h1, fun _ => ⟨hO11, fun t => hs_ex (hx.resolve_left (Nat.not_lt.mpr t)), fun t => hs_ex (hy.resolve_left (Nat.not_lt.mpr t)), fun t => hs_ex (hz.resolve_left (Nat.not_lt.mpr t)), fun q => ?_, fun q => ?_, fun q => ?_, fun q => ?_, fun q => ?_, fun q => ?_, fun q => ?_, fun q => ?_⟩⟩, o1, o2, hO11⟩
    · subst q
      rw [w9] at h1
      split at h1
      · next c =>
        obtain ⟨Y, a, b, d⟩ := raw_nat (x := y) c.1
        exact ⟨Y, by omega, a⟩
      · exact absurd h1 (by decide)
    · subst q
      rw [w11] at h1
      split at h1
      · next c =>
        obtain ⟨X, a, b, d⟩ := raw_nat (x := x) c.2.2.1
        obtain ⟨Y, a2, b2, d2⟩ := raw_nat (x := y) (Int.le_trans (by decide) c.1)
        have hp := pow8 (n := ix y) (by rw [ix_of a2 d2]; omega)
        exact ⟨X, by omega, a⟩
      · exact absurd h1 (by decide)
    · subst q; rw [w4]
    · subst q; rw [w5]
    · rcases q with q | q
      · subst q; exact w6
      · subst q; exact w7
    · subst q; exact w0
    · subst q; exact w8
    · subst q
      rw [w9] at h1 ⊢
      split at h1
      · next c =>
        obtain ⟨Y, a, b, d⟩ := raw_nat (x := y) c.1
        obtain ⟨Z, a2, b2, d2⟩ := raw_nat (x := z) (Int.le_trans (by decide) c.2.1)
        rw [if_pos c, ix_of a d, ix_of a2 d2]
        omega
      · exact absurd h1 (by decide)
  · rw [nwd_0 c] at h1
    exact absurd h1 (by decide)
/-- the same circuit, as each side writes it down -/
def REL (n : Nat) (Kd Wd So : Nat → Nat) (ms : Nat) (Rw Op : Nat → Nat) (Aa Ab Ac : Nat → Int32) (Su Sr : Nat → Nat) (ow : Nat) (Es mRs : Nat → Nat) (mOp mAa mAb mAc mOf mFr : Nat → Int32) : Prop :=
  WFC n Kd Wd Op Aa Ab Ac So Su Sr ms ∧ ow = dp So ms ∧ (∀ v, v < dp So ms → Es v = es So ms (v + 1)) ∧ (∀ z, z < n → Kd z = 2 → mRs z = Rw z) ∧ (∀ z, z < n → mOp z = if Kd z = 3 then nI (Op z) else -2) ∧
  (∀ z, z < n → Kd z = 3 → mAa z = Aa z ∧ mAb z = Ab z ∧ mAc z = Ac z) ∧ (∀ k, k < ms → So k = 0 ∨ So k = 1 → mOf k = nI (Su k)) ∧ ∀ k, k < ms → So k = 0 → mFr k = nI (Sr k)
section RL
variable {n : Nat} {Kd Wd So : Nat → Nat} {ms : Nat} {Rw Op : Nat → Nat} {Aa Ab Ac : Nat → Int32} {Su Sr : Nat → Nat} {ow : Nat} {Es mRs : Nat → Nat} {mOp mAa mAb mAc mOf mFr : Nat → Int32}
theorem up_lt {F : Nat → Nat} {n v z : Nat} (h : z < n) : upN F n v z = F z := upN_ne _ _ (by omega)
theorem up_lti {F : Nat → Int32} {n : Nat} {v : Int32} {z : Nat} (h : z < n) : upd F n v z = F z := upd_ne _ _ (by omega)
theorem STW_up {Kd2 : Nat → Nat} (h : STW n Kd So Su Sr ms) (hK : ∀ z, z < n → Kd2 z = Kd z) : STW (n + 1) Kd2 So Su Sr ms := fun k hk =>
  ⟨fun q => Nat.lt_succ_of_lt ((h k hk).1 q), fun q => ⟨Nat.lt_succ_of_lt ((h k hk).2 q).1, by rw [hK _ ((h k hk).1 (Or.inl q))]; exact ((h k hk).2 q).2⟩⟩
theorem REL_signal (h : REL n Kd Wd So ms Rw Op Aa Ab Ac Su Sr ow Es mRs mOp mAa mAb mAc mOf mFr) {X W R R2 : Nat} (hn : n < 14) (hX : X < 3) (hW1 : 1 ≤ W) (hW : W ≤ 8) (hR : X = 2 → R2 = R) :
    REL (n + 1) (upN Kd n X) (upN Wd n W) So ms (upN Rw n R) Op Aa Ab Ac Su Sr ow Es (upN mRs n R2) (upd mOp n (-2)) mAa mAb mAc mOf mFr := by
  obtain ⟨⟨a1, a2, a3, a4, a5, a6, a7, a8⟩, b1, b2, b3, b4, b5, b6, b7⟩ := h
  refine ⟨⟨hn, a2, upN_lt a3 (by omega), upN_lt a4 (by omega), a5, a6, fun z hz => ?_, STW_up a8 (fun z hz => up_lt hz)⟩, b1, b2, fun z hz k => ?_, fun z hz => ?_, fun z hz k => ?_, b6, b7⟩
  · by_cases e : z = n
    · subst e
      rw [upN_self, upN_self]
      exact ⟨hW1, fun k => by omega⟩
    · rw [upN_ne _ _ e, upN_ne _ _ e]
      exact SG1_up (a7 z (by omega)) (by omega) (by omega) (fun t ht => up_lt ht)
  · by_cases e : z = n
    · subst e
      rw [upN_self] at k
      rw [upN_self, upN_self]
      exact hR k
    · rw [upN_ne _ _ e] at k
      rw [upN_ne _ _ e, upN_ne _ _ e]
      exact b3 z (by omega) k
  · by_cases e : z = n
    · subst e
      rw [upN_self, upd_self, if_neg (by omega)]
    · rw [upN_ne _ _ e, upd_ne _ _ e]
      exact b4 z (by omega)
  · by_cases e : z = n
    · subst e
      rw [upN_self] at k
      omega
    · rw [upN_ne _ _ e] at k
      exact b5 z (by omega) k
theorem REL_node (h : REL n Kd Wd So ms Rw Op Aa Ab Ac Su Sr ow Es mRs mOp mAa mAb mAc mOf mFr) {o x y z : Int32} (hn : n < 14) (hW1 : 1 ≤ nwd n Wd o x y z) (hW : nwd n Wd o x y z ≤ 8) :
    REL (n + 1) (upN Kd n 3) (upN Wd n (nwd n Wd o x y z)) So ms (upN Rw n 0) (upN Op n (ix o)) (upd Aa n x) (upd Ab n y) (upd Ac n z) Su Sr ow Es (upN mRs n 0) (upd mOp n o) (upd mAa n x) (upd mAb n y) (upd mAc n z) mOf mFr := by
  obtain ⟨⟨a1, a2, a3, a4, a5, a6, a7, a8⟩, b1, b2, b3, b4, b5, b6, b7⟩ := h
  have sg := nwd_SG1 hW1
  have eo : o = nI (ix o) := by
    obtain ⟨O, eO, _, hOb⟩ := raw_nat (x := o) sg.2.1
    rw [ix_of eO hOb]; exact eO
  refine ⟨⟨hn, a2, upN_lt a3 (by decide), upN_lt a4 (Nat.lt_succ_of_le hW), a5, a6, fun t hz => ?_, STW_up a8 (fun z hz => up_lt hz)⟩, b1, b2, fun t hz k => ?_, fun t hz => ?_, fun t hz k => ?_, b6, b7⟩
  · by_cases e : t = n
    · subst e
      rw [upN_self, upN_self, upN_self, upd_self, upd_self, upd_self]
      exact SG1_up sg.1 (Nat.le_succ _) (Nat.le_of_lt hn) (fun t ht => up_lt ht)
    · have ht : t < n := by omega
      rw [upN_ne _ _ e, upN_ne _ _ e, upN_ne _ _ e, upd_ne _ _ e, upd_ne _ _ e, upd_ne _ _ e]
      exact SG1_up (a7 t ht) (Nat.le_succ _) (Nat.le_of_lt hn) (fun t ht => up_lt ht)
  · by_cases e : t = n
    · subst e
      rw [upN_self, upN_self]
    · rw [upN_ne _ _ e] at k
      rw [upN_ne _ _ e, upN_ne _ _ e]
      exact b3 t (by omega) k
  · by_cases e : t = n
    · subst e
      rw [upN_self, upd_self, upN_self, if_pos rfl]
      exact eo
    · rw [upN_ne _ _ e, upd_ne _ _ e, upN_ne _ _ e]
      exact b4 t (by omega)
  · by_cases e : t = n
    · subst e
      rw [upd_self, upd_self, upd_self, upd_self, upd_self, upd_self]
      exact ⟨rfl, rfl, rfl⟩
    · rw [upN_ne _ _ e] at k
      rw [upd_ne _ _ e, upd_ne _ _ e, upd_ne _ _ e, upd_ne _ _ e, upd_ne _ _ e, upd_ne _ _ e]
      exact b5 t (by omega) k
theorem dp_cg {So2 : Nat → Nat} : ∀ k, (∀ j, j < k → So2 j = So j) → dp So2 k = dp So k
  | 0, _ => rfl
  | k + 1, h => by
    unfold dp
    rw [h k (by omega), dp_cg k (fun j hj => h j (by omega))]
theorem es_cg {So2 : Nat → Nat} : ∀ k, (∀ j, j < k → So2 j = So j) → ∀ d, es So2 k d = es So k d
  | 0, _, _ => rfl
  | k + 1, h, d => by
    unfold es
    rw [h k (by omega), dp_cg k (fun j hj => h j (by omega)), es_cg k (fun j hj => h j (by omega)) d]
theorem LG_cg {So2 : Nat → Nat} (h : LG So ms) (e : ∀ j, j < ms → So2 j = So j) : LG So2 ms := fun k hk => by
  rw [e k hk, dp_cg k (fun j hj => e j (by omega)), es_cg k (fun j hj => e j (by omega))]
  exact h k hk
theorem REL_state (h : REL n Kd Wd So ms Rw Op Aa Ab Ac Su Sr ow Es mRs mOp mAa mAb mAc mOf mFr) {q x y : Int32} (hok : stOK q x y n Kd Wd) (hnn : ¬ stN q ow Es) (hnf : ¬ stF q ms ow) :
    REL n Kd Wd (upN So ms (ix q)) (ms + 1) Rw Op Aa Ab Ac (upN Su ms (if q.toInt ≤ 1 then ix x else 0)) (upN Sr ms (if q.toInt = 0 then ix y else 0)) (if q.toInt = 1 then ow + 1 else if q.toInt = 3 then ow - 1 else ow) (if q.toInt = 1 then upN Es ow 0 else if q.toInt = 2 then upN Es (ow - 1) 1 else Es) mRs mOp mAa mAb mAc (upd mOf ms x) (upd mFr ms y) := by
  obtain ⟨⟨a1, a2, a3, a4, a5, a6, a7, a8⟩, b1, b2, b3, b4, b5, b6, b7⟩ := h
  have lt : ∀ j, j < ms → upN So ms (ix q) j = So j := fun j hj => up_lt hj
  have ed : dp (upN So ms (ix q)) ms = dp So ms := dp_cg ms lt
  have ee : ∀ d, es (upN So ms (ix q)) ms d = es So ms d := es_cg ms lt
  have eq : upN So ms (ix q) ms = ix q := upN_self _ _ _
  have d4 := dp_le a6 ms (Nat.le_refl _)
  unfold stN at hnn
  unfold stF at hnf
  have hm : ms < 20 := by omega
  have hq : (q.toInt = 0 ∧ ix q = 0) ∨ (q.toInt = 1 ∧ ix q = 1) ∨ (q.toInt = 2 ∧ ix q = 2) ∨ (q.toInt = 3 ∧ ix q = 3) := by
    rcases hok with c | c | c | c
    · exact Or.inl ⟨c.1, ix_ti c.1⟩
    · exact Or.inr (Or.inl ⟨c.1, ix_ti c.1⟩)
    · exact Or.inr (Or.inr (Or.inl ⟨c, ix_ti c⟩))
    · exact Or.inr (Or.inr (Or.inr ⟨c, ix_ti c⟩))
  have hes : 0 < dp So ms → Es (dp So ms - 1) = es So ms (dp So ms) := fun d => by
    rw [b2 _ (by omega), show dp So ms - 1 + 1 = dp So ms by omega]
  refine ⟨⟨a1, hm, a3, a4, upN_lt a5 (by omega), fun k hk => ?_, a7, fun k hk => ?_⟩, ?_, fun v hv => ?_, b3, b4, b5, fun k hk w => ?_, fun k hk w => ?_⟩
  · by_cases e : k = ms
    · subst e
      rw [eq, ed, ee]
      refine ⟨fun c => ?_, fun c => ?_, fun c => ⟨?_, ?_⟩⟩
      · omega
      · omega
      · omega
      · have hp : 0 < dp So k := by omega
        rw [← hes hp, ← b1]
        omega
    · exact LG_cg a6 lt k (by omega)
  · by_cases e : k = ms
    · subst e
      rw [eq, upN_self, upN_self]
      rcases hok with c | c | c | c
      · obtain ⟨X, x1, x2⟩ := hs_ex c.2.1
        obtain ⟨Y, y1, y2⟩ := hs_ex c.2.2.2
        have ex := ix_of x2 (by omega)
        have ey := ix_of y2 (by omega)
        have kk := c.2.2.1
        rw [if_pos (by omega), if_pos c.1, ey]
        exact ⟨fun _ => by rw [ex]; exact x1, fun _ => ⟨y1, kk⟩⟩
      · obtain ⟨X, x1, x2⟩ := hs_ex c.2.1
        have ex := ix_of x2 (by omega)
        rw [if_pos (by omega), ex]
        exact ⟨fun _ => x1, fun w => by omega⟩
      · exact ⟨fun w => by omega, fun w => by omega⟩
      · exact ⟨fun w => by omega, fun w => by omega⟩
    · rw [lt k (by omega), upN_ne _ _ e, upN_ne _ _ e]
      exact a8 k (by omega)
  · rcases hq with c | c | c | c
    · rw [dp_o (by omega) (by omega), ed, if_neg (by omega), if_neg (by omega)]; exact b1
    · rw [dp_w (by omega), ed, if_pos c.1]; omega
    · rw [dp_o (by omega) (by omega), ed, if_neg (by omega), if_neg (by omega)]; exact b1
    · rw [dp_e (by omega), ed, if_neg (by omega), if_pos c.1]; omega
  · rcases hq with c | c | c | c
    · rw [dp_o (by omega) (by omega), ed] at hv
      rw [es_n (by omega) (by omega), ee, if_neg (by omega), if_neg (by omega)]; exact b2 v hv
    · rw [dp_w (by omega), ed] at hv
      rw [es_1 (by omega), ed, ee, if_pos c.1]
      by_cases e : v = ow
      · rw [e, upN_self, if_pos (by omega)]
      · rw [upN_ne _ _ e, if_neg (by omega)]; exact b2 v (by omega)
    · rw [dp_o (by omega) (by omega), ed] at hv
      rw [es_2 (by omega), ed, ee, if_neg (by omega), if_pos c.1]
      by_cases e : v = ow - 1
      · rw [e, upN_self, if_pos (by omega)]
      · rw [upN_ne _ _ e, if_neg (by omega)]; exact b2 v hv
    · rw [dp_e (by omega), ed] at hv
      rw [es_n (by omega) (by omega), ee, if_neg (by omega), if_neg (by omega)]; exact b2 v (by omega)
  · by_cases e : k = ms
    · subst e
      rw [eq] at w
      rw [upd_self, upN_self, if_pos (by omega)]
      have hx : hs n x = 1 := by
        rcases hok with c | c | c | c
        · exact c.2.1
        · exact c.2.1
        · omega
        · omega
      obtain ⟨X, x1, x2⟩ := hs_ex hx
      rw [ix_of x2 (by omega)]
      exact x2
    · rw [lt k (by omega)] at w
      rw [upd_ne _ _ e, upN_ne _ _ e]
      exact b6 k (by omega) w
  · by_cases e : k = ms
    · subst e
      rw [eq] at w
      rw [upd_self, upN_self, if_pos (by omega)]
      have hy : hs n y = 1 := by
        rcases hok with c | c | c | c
        · exact c.2.2.2
        · omega
        · omega
        · omega
      obtain ⟨Y, y1, y2⟩ := hs_ex hy
      rw [ix_of y2 (by omega)]
      exact y2
    · rw [lt k (by omega)] at w
      rw [upd_ne _ _ e, upN_ne _ _ e]
      exact b7 k (by omega) w
theorem REL_clear0 (h : REL n Kd Wd So ms Rw Op Aa Ab Ac Su Sr ow Es mRs mOp mAa mAb mAc mOf mFr) : REL n Kd Wd So 0 Rw Op Aa Ab Ac Su Sr 0 Es mRs mOp mAa mAb mAc mOf mFr := by
  obtain ⟨⟨a1, a2, a3, a4, a5, a6, a7, a8⟩, b1, b2, b3, b4, b5, b6, b7⟩ := h
  exact ⟨⟨a1, Nat.zero_le _, a3, a4, a5, fun k hk => absurd hk (Nat.not_lt_zero _), a7, fun k hk => absurd hk (Nat.not_lt_zero _)⟩, rfl, fun v hv => absurd hv (Nat.not_lt_zero _), b3, b4, b5, fun k hk => absurd hk (Nat.not_lt_zero _), fun k hk => absurd hk (Nat.not_lt_zero _)⟩
theorem REL_clear1 (h : REL n Kd Wd So ms Rw Op Aa Ab Ac Su Sr ow Es mRs mOp mAa mAb mAc mOf mFr) : REL 0 Kd Wd So 0 Rw Op Aa Ab Ac Su Sr 0 Es mRs mOp mAa mAb mAc mOf mFr := by
  obtain ⟨⟨a1, a2, a3, a4, a5, a6, a7, a8⟩, b1, b2, b3, b4, b5, b6, b7⟩ := h
  exact ⟨⟨Nat.zero_le _, Nat.zero_le _, a3, a4, a5, fun k hk => absurd hk (Nat.not_lt_zero _), fun k hk => absurd hk (Nat.not_lt_zero _), fun k hk => absurd hk (Nat.not_lt_zero _)⟩, rfl, fun v hv => absurd hv (Nat.not_lt_zero _), fun k hk => absurd hk (Nat.not_lt_zero _), fun k hk => absurd hk (Nat.not_lt_zero _), fun k hk => absurd hk (Nat.not_lt_zero _), fun k hk => absurd hk (Nat.not_lt_zero _), fun k hk => absurd hk (Nat.not_lt_zero _)⟩
theorem REL_ac (h : REL n Kd Wd So ms Rw Op Aa Ab Ac Su Sr ow Es mRs mOp mAa mAb mAc mOf mFr) {mAc2 : Nat → Int32} (e : ∀ z, ¬ Kd z = 2 → mAc2 z = mAc z) : REL n Kd Wd So ms Rw Op Aa Ab Ac Su Sr ow Es mRs mOp mAa mAb mAc2 mOf mFr :=
  ⟨h.1, h.2.1, h.2.2.1, h.2.2.2.1, h.2.2.2.2.1, fun z hz k => by rw [e z (by omega)]; exact h.2.2.2.2.2.1 z hz k, h.2.2.2.2.2.2⟩
end RL
