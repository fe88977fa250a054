theorem wv_ok {E V T : Nat → Nat} {g x v : Nat} (hs : ∀ z, z < 113 + g → V z = evn E (T z)) (h : OKc T g x v) : (V (x / 2) + x % 2) % 2 = evl E v := by
  rw [ev_lit (hs _ (by have := h.1; omega)), h.2]
