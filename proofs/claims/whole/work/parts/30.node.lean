/-! what a NODE's bits are, on trees' numbers -/
def catL (f : Nat → List Nat) : Nat → List Nat
  | 0 => []
  | n + 1 => catL f n ++ f n
theorem catL_in {f : Nat → List Nat} {b c : Nat} : ∀ w, b < w → c ∈ f b → c ∈ catL f w
  | 0, h, _ => by omega
  | w + 1, h, hc => by
    show c ∈ catL f w ++ f w
    by_cases e : b = w
    · rw [← e]
      exact List.mem_append_right _ hc
    · exact List.mem_append_left _ (catL_in w (by omega) hc)
/-- a literal of the net that stands for the tree v -/
def OKc (T : Nat → Nat) (g x v : Nat) : Prop := x < 2 * (113 + g) ∧ LT T x = v
theorem OKc_st {T T2 : Nat → Nat} {g g2 x v : Nat} {L : List Nat} (h : OKc T g x v) (hst : ST T g T2 g2 L) : OKc T2 g2 x v := by
  have := hst.1
  exact ⟨by have := h.1; omega, (ST_lit hst h.1).trans h.2⟩
theorem OKc_op {T : Nat → Nat} {g x v : Nat} (h : OKc T g x v) : OKc T g (op1 x) (op1 v) := ⟨op1_lt h.1, by rw [LT_op, h.2]⟩
theorem ST_eq {T T2 : Nat → Nat} {g g2 : Nat} {L L2 : List Nat} (h : ST T g T2 g2 L) (e : L = L2) : ST T g T2 g2 L2 := e ▸ h
/-- carries -/
def ca (X Y : Nat → Nat) (c0 : Nat) : Nat → Nat
  | 0 => c0
  | j + 1 => ei (jn (X j) (Y j)) (jn (df (X j) (Y j)) (ca X Y c0 j))
def adS (X Y : Nat → Nat) (c0 j : Nat) : List Nat := dfl (X j) (Y j) ++ (dfl (df (X j) (Y j)) (ca X Y c0 j) ++ (jl (X j) (Y j) ++ (jl (df (X j) (Y j)) (ca X Y c0 j) ++ eil (jn (X j) (Y j)) (jn (df (X j) (Y j)) (ca X Y c0 j)))))
def adL (X Y : Nat → Nat) (c0 : Nat) : Nat → List Nat := catL (adS X Y c0)
def sm (X Y : Nat → Nat) (c0 j : Nat) : Nat := df (df (X j) (Y j)) (ca X Y c0 j)
def eqc (X Y : Nat → Nat) : Nat → Nat
  | 0 => 1
  | j + 1 => jn (eqc X Y j) (op1 (df (X j) (Y j)))
def eqS (X Y : Nat → Nat) (j : Nat) : List Nat := dfl (X j) (Y j) ++ jl (eqc X Y j) (op1 (df (X j) (Y j)))
def eqL (X Y : Nat → Nat) : Nat → List Nat := catL (eqS X Y)
def oC (f : Nat → Nat) (t : Nat) : Nat → Nat := fun z => if t = 1 then op1 (f z) else f z
/-- bit j of a NODE -/
def nc (Wd : Nat → Nat) (CB : Nat → Nat → Nat) (o : Nat) (x y z : Int32) (j : Nat) : Nat :=
  if o = 0 then op1 (CB (ix x) j) else if o = 1 then jn (CB (ix x) j) (CB (ix y) j) else if o = 2 then ei (CB (ix x) j) (CB (ix y) j) else if o = 3 then df (CB (ix x) j) (CB (ix y) j)
  else if o = 4 then (if j < max (Wd (ix x)) (Wd (ix y)) then sm (CB (ix x)) (oC (CB (ix y)) 0) 0 j else ca (CB (ix x)) (oC (CB (ix y)) 0) 0 (max (Wd (ix x)) (Wd (ix y))))
  else if o = 5 then sm (CB (ix x)) (oC (CB (ix y)) 1) 1 j
  else if o = 6 then eqc (CB (ix x)) (CB (ix y)) (max (Wd (ix x)) (Wd (ix y)))
  else if o = 7 then op1 (ca (CB (ix x)) (oC (CB (ix y)) 1) 1 (max (Wd (ix x)) (Wd (ix y))))
  else if o = 8 then (if j < Wd (ix y) then CB (ix y) j else CB (ix x) (j - Wd (ix y)))
  else if o = 9 then CB (ix x) (ix y + j) else if o = 10 then pk (CB (ix x) 0) (CB (ix y) j) (CB (ix z) j)
  else ix x / 2 ^ j % 2
/-- the gates of bit j, of ops whose bits are made one by one -/
def ncS (CB : Nat → Nat → Nat) (o : Nat) (x y z : Int32) (j : Nat) : List Nat :=
  if o = 1 then jl (CB (ix x) j) (CB (ix y) j) else if o = 2 then eil (CB (ix x) j) (CB (ix y) j) else if o = 3 then dfl (CB (ix x) j) (CB (ix y) j)
  else if o = 10 then pkl (CB (ix x) 0) (CB (ix y) j) (CB (ix z) j) else []
/-- the gates of a NODE of WIDTH w -/
def ncL (Wd : Nat → Nat) (CB : Nat → Nat → Nat) (o : Nat) (x y z : Int32) (w : Nat) : List Nat :=
  if o = 4 then adL (CB (ix x)) (oC (CB (ix y)) 0) 0 (max (Wd (ix x)) (Wd (ix y)))
  else if o = 5 ∨ o = 7 then adL (CB (ix x)) (oC (CB (ix y)) 1) 1 (max (Wd (ix x)) (Wd (ix y)))
  else if o = 6 then eqL (CB (ix x)) (CB (ix y)) (max (Wd (ix x)) (Wd (ix y)))
  else catL (ncS CB o x y z) w
section KT
variable {p : Program} {l : Launch} {e : Env} {R : Room} {s : State} {m : MethodId} {args : Array Value} {below : List Frame} {meth : Method} {c : Code} {H : Heap} {locs : List Loc} {cells slots : Nat} {Q : State → Prop}
variable {cc : ByteArray} {pc : Nat} {ls : Array Slot} {rest : List Value}
theorem k_tabInL (hexec : p.tables.exec = Jvm.exec) (hb : c.code = cc) {dflt hi : Int} {offs : Array Int} {len X k lo : Nat} {off : Int} {tgt : Nat} (hdg : decode cc pc = .ok (.tableswitch dflt (lo : Int) hi offs, len)) (ek : X = lo + k) (hk : lo + k < 2147483648) (hh : ((lo + k : Nat) : Int) ≤ hi) (ho : offs[k]? = some off) (ht : (pc : Int) + off = (tgt : Int))
    (kk : W p l e R s m args below meth c H locs cells slots Q (F0 m tgt ls rest)) : W p l e R s m args below meth c H locs cells slots Q (F0 m pc ls (.int (nI X) :: rest)) := by
  subst ek
  have hz : (nI (lo + k)).toInt = ((lo + k : Nat) : Int) := nI_toInt (show lo + k < 2 ^ 31 by omega)
  exact lv_tableIn hexec hb hdg (by rw [hz]; omega) (by rw [hz]; omega) (by rw [hz, show (((lo + k : Nat) : Int) - (lo : Int)).toNat = k by omega]; exact ho) ht kk
theorem k_tabOutL (hexec : p.tables.exec = Jvm.exec) (hb : c.code = cc) {dflt hi : Int} {offs : Array Int} {len X k lo : Nat} {tgt : Nat} (hdg : decode cc pc = .ok (.tableswitch dflt (lo : Int) hi offs, len)) (ek : X < lo ∨ k < X) (hX : X < 2147483648) (hh : hi = (k : Int)) (ht : (pc : Int) + dflt = (tgt : Int))
    (kk : W p l e R s m args below meth c H locs cells slots Q (F0 m tgt ls rest)) : W p l e R s m args below meth c H locs cells slots Q (F0 m pc ls (.int (nI X) :: rest)) := by
  have hz : (nI X).toInt = (X : Int) := nI_toInt (show X < 2 ^ 31 by omega)
  exact lv_tableOut hexec hb hdg (by rw [hz, hh]; omega) ht kk
end KT
