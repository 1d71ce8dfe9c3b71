/-! What a state is: R routers; w: the wire of each place (-1: none); c: its cost; k: which wires are cut; d, n: rows of scratch; wp, wr: the way found last. -/
abbrev xw (ad : Nat → Nat) (tt : Nat → ClassId) (R : Nat) (w c k d n : Nat → Int32) (wp wr : Int32) : va_W := [(ad 0, .inr (0, [.int (nI R), .ref (ad 1), .ref (ad 2), .ref (ad 3), .ref (ad 4), .ref (ad 5), .int wp, .int wr])), (ad 1, .inl (tt 1, 40, .inl w)), (ad 2, .inl (tt 2, 40, .inl c)), (ad 3, .inl (tt 3, 16, .inl k)), (ad 4, .inl (tt 4, 10, .inl d)), (ad 5, .inl (tt 5, 16, .inl n))]
abbrev tyX (tt : Nat → ClassId) : List (ClassId × FieldType) := [(tt 1, .int), (tt 2, .int), (tt 3, .boolean), (tt 4, .int), (tt 5, .int)]
abbrev mw (ad : Nat → Nat) (tt : Nat → ClassId) (R : Nat) (w c k d : Nat → Int32) (wp wr : Int32) : va_W := [(ad 0, .inr (1, [.int (nI R), .ref (ad 1), .ref (ad 2), .ref (ad 3), .ref (ad 4), .int wp, .int wr])), (ad 1, .inl (tt 1, 40, .inl w)), (ad 2, .inl (tt 2, 40, .inl c)), (ad 3, .inl (tt 3, 16, .inl k)), (ad 4, .inl (tt 4, 10, .inl d))]
abbrev tyM (tt : Nat → ClassId) : List (ClassId × FieldType) := [(tt 1, .int), (tt 2, .int), (tt 3, .boolean), (tt 4, .int)]
section
variable {p : Program} {l : Launch} {e : Env} {R : Room} {s : State} {m : MethodId} {args : Array Value} {below : List Frame} {meth : Method} {c : Code} {H : Heap} {locs : List Loc} {cells slots : Nat} {Q : State → Prop}
variable {pc : Nat} {ls : Array Slot} {rest : List Value} {A : Nat → Prop} {H0 : Heap} {D : va_G} {tys : List (ClassId × FieldType)} {wt : va_W} {cc : ByteArray} {nL index : Nat} {Ts : List Cond} {h0 : Nat} {fs : List Value} {v : Value}
theorem x0_get (S0 : CallFix p m c cc nL s args Ts RX0) (hin : ∀ w ∈ wsX00, w ∈ Ts) (hK : va_K D vwCl tys s) (hP : va_P D vwCl ((h0, .inr (0, fs)) :: wt) H) (k : Nat) (hk : k < 8) (hlink : (Cond.fieldLink RX0 index RX0 (TX0 k).2.1 (TX0 k).2.2.1).before args s = true) (hT : (TX0 k).1 = RX0) (hv : fs[k]? = some v) (hdg : decode cc pc = .ok (.getfield index, 3))
    (kk : W p l e R s m args below meth c H locs cells slots Q (F0 m (pc + 3) ls (v :: rest))) : W p l e R s m args below meth c H locs cells slots Q (F0 m pc ls (.ref h0 :: rest)) :=
  va_get (C := RX0) (T := TX0) (N := 8) S0.1 S0.2.1 S0.2.2.2.2 hin S0.2.2.2.1 hK hP 0 rfl rfl k hk hlink (by rw [hT]; exact fun _ h => h) hv hdg kk
theorem x1_get (S0 : CallFix p m c cc nL s args Ts RX1) (hin : ∀ w ∈ wsX10, w ∈ Ts) (hK : va_K D vwCl tys s) (hP : va_P D vwCl ((h0, .inr (1, fs)) :: wt) H) (k : Nat) (hk : k < 7) (hlink : (Cond.fieldLink RX1 index RX1 (TX1 k).2.1 (TX1 k).2.2.1).before args s = true) (hT : (TX1 k).1 = RX1) (hv : fs[k]? = some v) (hdg : decode cc pc = .ok (.getfield index, 3))
    (kk : W p l e R s m args below meth c H locs cells slots Q (F0 m (pc + 3) ls (v :: rest))) : W p l e R s m args below meth c H locs cells slots Q (F0 m pc ls (.ref h0 :: rest)) :=
  va_get (C := RX1) (T := TX1) (N := 7) S0.1 S0.2.1 S0.2.2.2.2 hin S0.2.2.2.1 hK hP 0 rfl rfl k hk hlink (by rw [hT]; exact fun _ h => h) hv hdg kk
theorem x0_put {ty : FieldType} (S0 : CallFix p m c cc nL s args Ts RX0) (hin : ∀ w ∈ wsX00, w ∈ Ts) (hK : va_K D vwCl tys s) (hP : va_P D vwCl ((h0, .inr (0, fs)) :: wt) H) (hD : va_D A ((h0, .inr (0, fs)) :: wt)) (hS : va_S A H0 H locs) (k : Nat) (hk : k < 8) (hlink : (Cond.fieldLink RX0 index RX0 (TX0 k).2.1 (TX0 k).2.2.1).before args s = true) (hT : (TX0 k).1 = RX0) (hfin : (TX0 k).2.2.2 = false) (hd : tyX0 k = ty) (hn : narrow ty v = v) (hfit : fits ty v = true) (hl : k < fs.length) (hdg : decode cc pc = .ok (.putfield index, 3))
    (kk : ∀ (H1 : Heap) (locs1 : List Loc), va_P D vwCl ((h0, .inr (0, fs.set k v)) :: wt) H1 → va_D A ((h0, .inr (0, fs.set k v)) :: wt) → va_S A H0 H1 locs1 → W p l e R s m args below meth c H1 locs1 cells slots Q (F0 m (pc + 3) ls rest)) : W p l e R s m args below meth c H locs cells slots Q (F0 m pc ls (v :: .ref h0 :: rest)) :=
  va_put (C := RX0) (T := TX0) (N := 8) S0.1 S0.2.1 S0.2.2.2.2 hin tyX0 tyX0_ok nmX0 S0.2.2.2.1 hK hP hD hS 0 rfl rfl k hk hlink (by rw [hT]; exact fun _ h => h) hfin (by rw [tyX0_ok k hk, hd]) hn hfit hl hdg kk
theorem x1_put {ty : FieldType} (S0 : CallFix p m c cc nL s args Ts RX1) (hin : ∀ w ∈ wsX10, w ∈ Ts) (hK : va_K D vwCl tys s) (hP : va_P D vwCl ((h0, .inr (1, fs)) :: wt) H) (hD : va_D A ((h0, .inr (1, fs)) :: wt)) (hS : va_S A H0 H locs) (k : Nat) (hk : k < 7) (hlink : (Cond.fieldLink RX1 index RX1 (TX1 k).2.1 (TX1 k).2.2.1).before args s = true) (hT : (TX1 k).1 = RX1) (hfin : (TX1 k).2.2.2 = false) (hd : tyX1 k = ty) (hn : narrow ty v = v) (hfit : fits ty v = true) (hl : k < fs.length) (hdg : decode cc pc = .ok (.putfield index, 3))
    (kk : ∀ (H1 : Heap) (locs1 : List Loc), va_P D vwCl ((h0, .inr (1, fs.set k v)) :: wt) H1 → va_D A ((h0, .inr (1, fs.set k v)) :: wt) → va_S A H0 H1 locs1 → W p l e R s m args below meth c H1 locs1 cells slots Q (F0 m (pc + 3) ls rest)) : W p l e R s m args below meth c H locs cells slots Q (F0 m pc ls (v :: .ref h0 :: rest)) :=
  va_put (C := RX1) (T := TX1) (N := 7) S0.1 S0.2.1 S0.2.2.2.2 hin tyX1 tyX1_ok nmX1 S0.2.2.2.1 hK hP hD hS 0 rfl rfl k hk hlink (by rw [hT]; exact fun _ h => h) hfin (by rw [tyX1_ok k hk, hd]) hn hfit hl hdg kk
end
/-- x is one of 0 .. n-1 -/
def ix (x : Int32) (n : Nat) : Prop := ∃ j : Nat, j < n ∧ x = nI j
theorem ix_of {x : Int32} {n : Nat} (hn : n < 2 ^ 31) (h0 : ¬ x < 0) (h1 : ¬ nI n ≤ x) : ix x n := by
  rcases pk_ix x hn with h | h | h
  · exact absurd h h0
  · exact absurd h h1
  · exact h
theorem ix_n0 {x : Int32} {n : Nat} (hn : n < 2 ^ 31) (h : x < 0) : ¬ ix x n := by
  rintro ⟨j, hj, rfl⟩
  exact nI_pos (by omega) h
theorem ix_n1 {x : Int32} {n : Nat} (hn : n < 2 ^ 31) (h : nI n ≤ x) : ¬ ix x n := by
  rintro ⟨j, hj, rfl⟩
  exact nI_ge hj hn h
theorem ix_nm {n : Nat} (hn : n < 2 ^ 31) : ¬ ix (-1) n := ix_n0 hn (by decide)
theorem ix_nI {j n : Nat} (hn : n < 2 ^ 31) (hj : j < 2 ^ 31) : ix (nI j) n ↔ j < n := by
  refine ⟨fun h => ?_, fun h => ⟨j, h, rfl⟩⟩
  obtain ⟨i, hi, he⟩ := h
  have := (nI_eq hj (by omega)).mp he
  omega
theorem nI_m1 {j : Nat} (hj : j < 2 ^ 31) : ¬ nI j = -1 := fun h => ix_nm (n := j + 1) (by
  rcases Nat.lt_or_ge (j + 1) (2 ^ 31) with h1 | h1
  · exact h1
  · exfalso
    have : j = 2 ^ 31 - 1 := by omega
    subst this
    exact absurd h (by decide)) ⟨j, by omega, h.symm⟩
/-- a cost is 1 .. 9 -/
def okc (x : Int32) : Prop := ∃ y : Nat, 1 ≤ y ∧ y ≤ 9 ∧ x = nI y
/-- a wire that is up -/
def upw (k : Nat → Int32) (x : Int32) : Prop := ∃ j : Nat, j < 16 ∧ x = nI j ∧ k j = 0
/-- the first port of router r on wire x, or -1 -/
def ww_po (w : Nat → Int32) (r : Nat) (x v : Int32) : Prop := (v = -1 ∧ ∀ q, q < 4 → w (4 * r + q) ≠ x) ∨ ∃ q, q < 4 ∧ v = nI q ∧ w (4 * r + q) = x ∧ ∀ q', q' < q → w (4 * r + q') ≠ x
def ww_on (w : Nat → Int32) (r : Nat) (x : Int32) : Prop := ∃ q, q < 4 ∧ w (4 * r + q) = x
theorem ww_po_on {w : Nat → Int32} {r : Nat} {x v : Int32} (h : ww_po w r x v) : v = -1 ↔ ¬ ww_on w r x := by
  rcases h with ⟨h1, h2⟩ | ⟨q, h1, h2, h3, h4⟩
  · exact ⟨fun _ ⟨q, hq, e⟩ => h2 q hq e, fun _ => h1⟩
  · exact ⟨fun e => absurd (h2.symm.trans e) (nI_m1 (by omega)), fun hn => absurd ⟨q, h1, h3⟩ hn⟩
theorem ww_po_one {w : Nat → Int32} {r : Nat} {x v v' : Int32} (h : ww_po w r x v) (h' : ww_po w r x v') : v = v' := by
  rcases h with ⟨h1, h2⟩ | ⟨q, h1, h2, h3, h4⟩
  · rcases h' with ⟨g1, g2⟩ | ⟨q', g1, g2, g3, g4⟩
    · rw [h1, g1]
    · exact absurd g3 (h2 q' g1)
  · rcases h' with ⟨g1, g2⟩ | ⟨q', g1, g2, g3, g4⟩
    · exact absurd h3 (g2 q h1)
    · have : q = q' := by
        rcases Nat.lt_trichotomy q q' with z | z | z
        · exact absurd h3 (g4 q z)
        · exact z
        · exact absurd g3 (h4 q' z)
      rw [h2, g2, this]
theorem nI_pl (r q : Nat) : nI r * 4 + nI q = nI (4 * r + q) := by
  rw [show (4 : Int32) = nI 4 from rfl, pk_mul, nI_add, Nat.mul_comm]
theorem nI_lp (r q : Nat) : 4 * nI r + nI q = nI (4 * r + q) := by
  rw [show (4 : Int32) = nI 4 from rfl, pk_mul, nI_add]
