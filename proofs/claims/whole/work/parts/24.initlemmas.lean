theorem cell_ext {cA : ClassId} {n : Nat} {f g : Nat → Int32} (h : ∀ j, j < n → f j = g j) : vp_cell cA (n, .inl f) = vp_cell cA (n, .inl g) := by
  show arrV cA n (fun j => .int (f j)) = arrV cA n (fun j => .int (g j))
  unfold arrV
  have e : (fun j : Fin n => Value.int (f j.val)) = (fun j : Fin n => Value.int (g j.val)) := funext fun j => by rw [h j.val j.isLt]
  rw [e]
theorem va_Dfst {A : Nat → Prop} {ws ws' : va_W} (h : ws.map Prod.fst = ws'.map Prod.fst) (hD : va_D A ws) : va_D A ws' := by
  have key : ∀ (i : Nat) (q : Nat × va_E), ws'[i]? = some q → ∃ q', ws[i]? = some q' ∧ q'.1 = q.1 := by
    intro i q hq
    have h1 : (ws'.map Prod.fst)[i]? = some q.1 := by rw [List.getElem?_map, hq]; rfl
    rw [← h, List.getElem?_map] at h1
    cases hw : ws[i]? with
    | none => rw [hw] at h1; cases h1
    | some q' =>
      rw [hw] at h1
      exact ⟨q', rfl, Option.some.inj h1⟩
  refine ⟨fun i j p q hp hq e => ?_, fun i q hq => ?_⟩
  · obtain ⟨p', hp', ep⟩ := key i p hp
    obtain ⟨q', hq', eq⟩ := key j q hq
    exact hD.1 i j p' q' hp' hq' (by rw [ep, eq]; exact e)
  · obtain ⟨q', hq', eq⟩ := key i q hq
    rw [← eq]
    exact hD.2 i q' hq'
section
variable {D : va_G} {A : Nat → Prop} {ad : Nat → Nat} {tt : Nat → ClassId} {R : Nat} {w w' c k d n : Nat → Int32} {wp wr : Int32} {H : Heap}
theorem xw_w (hP : va_P D vwCl (xw ad tt R w c k d n wp wr) H) (h : ∀ j, j < 40 → w j = w' j) : va_P D vwCl (xw ad tt R w' c k d n wp wr) H := by
  intro i q hq
  match i, hq with
  | 0, hq => exact hP 0 q hq
  | 1, hq =>
    cases hq
    show H[ad 1]? = some (vp_cell (tt 1) (40, .inl w'))
    rw [← cell_ext h]
    exact hP 1 _ rfl
  | i + 2, hq => exact hP (i + 2) q hq
theorem xw_Dw (hD : va_D A (xw ad tt R w c k d n wp wr)) : va_D A (xw ad tt R w' c k d n wp wr) := va_Dfst (ws := xw ad tt R w c k d n wp wr) rfl hD
theorem mw_w (hP : va_P D vwCl (mw ad tt R w c k d wp wr) H) (h : ∀ j, j < 40 → w j = w' j) : va_P D vwCl (mw ad tt R w' c k d wp wr) H := by
  intro i q hq
  match i, hq with
  | 0, hq => exact hP 0 q hq
  | 1, hq =>
    cases hq
    show H[ad 1]? = some (vp_cell (tt 1) (40, .inl w'))
    rw [← cell_ext h]
    exact hP 1 _ rfl
  | i + 2, hq => exact hP (i + 2) q hq
theorem mw_Dw (hD : va_D A (mw ad tt R w c k d wp wr)) : va_D A (mw ad tt R w' c k d wp wr) := va_Dfst (ws := mw ad tt R w c k d wp wr) rfl hD
end
/-- how many routers there are -/
def clampR (x : Int32) : Nat := if x < 1 then 1 else if 10 < x then 10 else x.toNatClampNeg
section
variable {x : Int32}
theorem cl_lt {a b : Int32} (h : ¬ a < b) : b ≤ a := by
  rw [Int32.lt_iff_toInt_lt] at h
  rw [Int32.le_iff_toInt_le]
  omega
theorem cl_le {a b : Int32} (h : ¬ a ≤ b) : b < a := by
  rw [Int32.le_iff_toInt_le] at h
  rw [Int32.lt_iff_toInt_lt]
  omega
theorem cl_no {a b : Int32} (h : a ≤ b) : ¬ b < a := by
  rw [Int32.le_iff_toInt_le] at h
  rw [Int32.lt_iff_toInt_lt]
  omega
theorem cl_x (h1 : 1 ≤ x) (h2 : x ≤ 10) : ∃ j, 1 ≤ j ∧ j ≤ 10 ∧ x = nI j := by
  have h0 : ¬ x < 0 := by
    rw [Int32.le_iff_toInt_le] at h1
    rw [Int32.lt_iff_toInt_lt]
    rw [show (1 : Int32).toInt = 1 from rfl] at h1
    rw [show (0 : Int32).toInt = 0 from rfl]
    omega
  obtain ⟨j, hj, rfl⟩ := nI_of h0
  exact ⟨j, (nI_leI (a := 1) (by omega) hj).mp h1, (nI_leI (b := 10) hj (by omega)).mp h2, rfl⟩
theorem cl_1 (h : ¬ 1 ≤ x) : (1 : Int32) = nI (clampR x) := by
  unfold clampR
  rw [if_pos (cl_le h)]
  rfl
theorem cl_2 (h1 : 1 ≤ x) (h2 : ¬ x ≤ 10) : (10 : Int32) = nI (clampR x) := by
  unfold clampR
  rw [if_neg (cl_no h1), if_pos (cl_le h2)]
  rfl
theorem cl_3 (h1 : 1 ≤ x) (h2 : x ≤ 10) : x = nI (clampR x) := by
  unfold clampR
  rw [if_neg (cl_no h1), if_neg (cl_no h2)]
  obtain ⟨j, j1, j2, rfl⟩ := cl_x h1 h2
  rw [nI_clamp (by omega)]
theorem cl_ok (x : Int32) : 1 ≤ clampR x ∧ clampR x ≤ 10 := by
  by_cases h1 : 1 ≤ x
  · by_cases h2 : x ≤ 10
    · obtain ⟨j, j1, j2, rfl⟩ := cl_x h1 h2
      have := (nI_eq (by omega) (by unfold clampR; rw [if_neg (cl_no h1), if_neg (cl_no h2), nI_clamp (by omega)]; omega)).mp (cl_3 h1 h2)
      omega
    · unfold clampR
      rw [if_neg (cl_no h1), if_pos (cl_le h2)]
      omega
  · unfold clampR
    rw [if_pos (cl_le h1)]
    omega
theorem cl_mm (x : Int32) : (if (1 : Int32) < (if x < 10 then x else 10) then (if x < 10 then x else 10) else 1) = nI (clampR x) := by
  by_cases h2 : x < 10
  · rw [if_pos h2]
    by_cases h1 : 1 < x
    · rw [if_pos h1]
      refine cl_3 ?_ ?_
      · rw [Int32.lt_iff_toInt_lt] at h1
        rw [Int32.le_iff_toInt_le]
        omega
      · rw [Int32.lt_iff_toInt_lt] at h2
        rw [Int32.le_iff_toInt_le]
        omega
    · rw [if_neg h1]
      by_cases h0 : 1 ≤ x
      · have : x = 1 := by
          apply Int32.toInt_inj.mp
          rw [Int32.lt_iff_toInt_lt] at h1
          rw [Int32.le_iff_toInt_le] at h0
          omega
        subst this
        decide
      · exact cl_1 h0
  · rw [if_neg h2, if_pos (by decide)]
    have h10 := cl_lt h2
    by_cases h3 : x ≤ 10
    · have : x = 10 := by
        apply Int32.toInt_inj.mp
        rw [Int32.le_iff_toInt_le] at h10 h3
        omega
      subst this
      decide
    · refine cl_2 ?_ h3
      rw [Int32.le_iff_toInt_le] at h10 ⊢
      rw [show (10 : Int32).toInt = 10 from rfl] at h10
      rw [show (1 : Int32).toInt = 1 from rfl]
      omega
end
/-- what stands behind the constructors -/
abbrev z0 : Nat → Int32 := fun _ => 0
abbrev w0 : Nat → Int32 := fun _ => -1
def xBI (D : va_G) (A : Nat → Prop) (R : Nat) (u : (Nat → Nat) × (Nat → ClassId)) (t : State) : Prop := va_P D vwCl (xw u.1 u.2 R w0 z0 z0 z0 z0 (-1) (-1)) t.heap ∧ va_K D vwCl (tyX u.2) t ∧ va_D A (xw u.1 u.2 R w0 z0 z0 z0 z0 (-1) (-1))
def mBI (D : va_G) (A : Nat → Prop) (R : Nat) (u : (Nat → Nat) × (Nat → ClassId)) (t : State) : Prop := va_P D vwCl (mw u.1 u.2 R w0 z0 z0 z0 0 0) t.heap ∧ va_K D vwCl (tyM u.2) t ∧ va_D A (mw u.1 u.2 R w0 z0 z0 z0 0 0)
section
variable {p : Program} {l : Launch} {e : Env} {R : Room} {s : State} {m : MethodId} {args : Array Value} {below : List Frame} {meth : Method} {c : Code} {H : Heap} {locs : List Loc} {cells slots : Nat} {Q : State → Prop}
variable {pc : Nat} {ls : Array Slot} {rest : List Value} {A : Nat → Prop} {H0 : Heap} {D : va_G} {tys : List (ClassId × FieldType)} {wt : va_W} {cc : ByteArray} {nL index : Nat} {Ts : List Cond} {h0 : Nat} {fs : List Value} {v : Value}
theorem x0_putF {ty : FieldType} (S0 : CallFix p m c cc nL s args Ts RX0) (hin : ∀ w ∈ wsX00, w ∈ Ts) (hK : va_K D vwCl tys s) (hP : va_P D vwCl ((h0, .inr (0, fs)) :: wt) H) (hD : va_D A ((h0, .inr (0, fs)) :: wt)) (hS : va_S A H0 H locs) (hi : meth.name = "<init>") (k : Nat) (hk : k < 8) (hlink : (Cond.fieldLink RX0 index RX0 (TX0 k).2.1 (TX0 k).2.2.1).before args s = true) (hT : (TX0 k).1 = RX0) (hfin : (TX0 k).2.2.2 = true) (hd : tyX0 k = ty) (hn : narrow ty v = v) (hfit : fits ty v = true) (hl : k < fs.length) (hdg : decode cc pc = .ok (.putfield index, 3))
    (kk : ∀ (H1 : Heap) (locs1 : List Loc), va_P D vwCl ((h0, .inr (0, fs.set k v)) :: wt) H1 → va_D A ((h0, .inr (0, fs.set k v)) :: wt) → va_S A H0 H1 locs1 → W p l e R s m args below meth c H1 locs1 cells slots Q (F0 m (pc + 3) ls rest)) : W p l e R s m args below meth c H locs cells slots Q (F0 m pc ls (v :: .ref h0 :: rest)) :=
  va_putF (C := RX0) (T := TX0) (N := 8) S0.1 S0.2.1 S0.2.2.2.2 hin tyX0 tyX0_ok nmX0 S0.2.2.2.1 hK hP hD hS 0 rfl rfl k hk hlink (by rw [hT]; exact fun _ h => h) hfin hi hT (by rw [tyX0_ok k hk, hd]) hn hfit hl hdg kk
theorem x1_putF {ty : FieldType} (S0 : CallFix p m c cc nL s args Ts RX1) (hin : ∀ w ∈ wsX10, w ∈ Ts) (hK : va_K D vwCl tys s) (hP : va_P D vwCl ((h0, .inr (1, fs)) :: wt) H) (hD : va_D A ((h0, .inr (1, fs)) :: wt)) (hS : va_S A H0 H locs) (hi : meth.name = "<init>") (k : Nat) (hk : k < 7) (hlink : (Cond.fieldLink RX1 index RX1 (TX1 k).2.1 (TX1 k).2.2.1).before args s = true) (hT : (TX1 k).1 = RX1) (hfin : (TX1 k).2.2.2 = true) (hd : tyX1 k = ty) (hn : narrow ty v = v) (hfit : fits ty v = true) (hl : k < fs.length) (hdg : decode cc pc = .ok (.putfield index, 3))
    (kk : ∀ (H1 : Heap) (locs1 : List Loc), va_P D vwCl ((h0, .inr (1, fs.set k v)) :: wt) H1 → va_D A ((h0, .inr (1, fs.set k v)) :: wt) → va_S A H0 H1 locs1 → W p l e R s m args below meth c H1 locs1 cells slots Q (F0 m (pc + 3) ls rest)) : W p l e R s m args below meth c H locs cells slots Q (F0 m pc ls (v :: .ref h0 :: rest)) :=
  va_putF (C := RX1) (T := TX1) (N := 7) S0.1 S0.2.1 S0.2.2.2.2 hin tyX1 tyX1_ok nmX1 S0.2.2.2.1 hK hP hD hS 0 rfl rfl k hk hlink (by rw [hT]; exact fun _ h => h) hfin hi hT (by rw [tyX1_ok k hk, hd]) hn hfit hl hdg kk
end
