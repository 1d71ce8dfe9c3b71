theorem okc_n0 {x : Int32} (h : x < 1) : ¬ okc x := by
  rintro ⟨y, h1, h9, rfl⟩
  exact absurd h (nI_nlt (b := 1) (a := y) h1 (by omega))
theorem okc_n1 {x : Int32} (h : 9 < x) : ¬ okc x := by
  rintro ⟨y, h1, h9, rfl⟩
  exact absurd h (nI_nlt (b := y) (a := 9) h9 (by omega))
theorem okc_of {x : Int32} (h1 : ¬ x < 1) (h9 : ¬ 9 < x) : okc x := by
  have h0 : ¬ x < 0 := fun h => h1 (by
    rw [Int32.lt_iff_toInt_lt] at h ⊢
    exact Int.lt_trans h (by decide))
  obtain ⟨j, hj, rfl⟩ := nI_of h0
  refine ⟨j, ?_, ?_, rfl⟩
  · rcases Nat.lt_or_ge j 1 with h | h
    · exact absurd (nI_lt (b := 1) h (by omega)) h1
    · exact h
  · rcases Nat.lt_or_ge 9 j with h | h
    · exact absurd (nI_lt (a := 9) h hj) h9
    · exact h
theorem ex_in {x : Int32} {j n : Nat} (e : x = nI j) (h : j < n) (hn : n < 2 ^ 31) : vp_in x n := by rw [e]; exact vp_in_nI h hn
theorem ex_cl {x : Int32} {j : Nat} (e : x = nI j) (h : j < 2 ^ 31) : x.toNatClampNeg = j := by rw [e]; exact nI_clamp h
theorem upw_iff {k : Nat → Int32} {x : Int32} {j : Nat} (e : x = nI j) (hj : j < 16) : upw k x ↔ k j = 0 := by
  refine ⟨fun ⟨i, hi, ei, h⟩ => ?_, fun h => ⟨j, hj, e, h⟩⟩
  have := (nI_eq (by omega) (by omega)).mp (e.symm.trans ei)
  subst this
  exact h
theorem upw_ix {k : Nat → Int32} {x : Int32} (h : upw k x) : ix x 16 := by
  obtain ⟨j, hj, e, -⟩ := h
  exact ⟨j, hj, e⟩
/-- port y of router x there is, and it is on a wire -/
def plg (R : Nat) (w : Nat → Int32) (x y : Int32) : Prop := ∃ i j : Nat, i < R ∧ j < 4 ∧ x = nI i ∧ y = nI j ∧ ix (w (4 * i + j)) 16
theorem plg_ix {R : Nat} {w : Nat → Int32} {x y : Int32} (h : plg R w x y) : ix x R ∧ ix y 4 := by
  obtain ⟨i, j, hi, hj, ei, ej, -⟩ := h
  exact ⟨⟨i, hi, ei⟩, ⟨j, hj, ej⟩⟩
theorem plg_iff {R : Nat} {w : Nat → Int32} {x y : Int32} {i j : Nat} (hR : R ≤ 10) (hi : i < R) (hj : j < 4) (ei : x = nI i) (ej : y = nI j) : plg R w x y ↔ ix (w (4 * i + j)) 16 := by
  refine ⟨fun ⟨i', j', hi', hj', ei', ej', h⟩ => ?_, fun h => ⟨i, j, hi, hj, ei, ej, h⟩⟩
  have h1 := (nI_eq (by omega) (by omega)).mp (ei.symm.trans ei')
  have h2 := (nI_eq (by omega) (by omega)).mp (ej.symm.trans ej')
  subst h1
  subst h2
  exact h
/-- an aim that there is -/
def aim (R : Nat) (k : Nat → Int32) (ov t : Int32) : Prop := (ov ≠ 0 → upw k t) ∧ (ov = 0 → ix t R)
