/-! What the calls that change something answer and do: one relation for both sides. -/
def plc (R : Nat) (w : Nat → Int32) (x y z q : Int32) (i j : Nat) : Prop := i < R ∧ j < 4 ∧ x = nI i ∧ y = nI j ∧ ix z 16 ∧ okc q ∧ w (4 * i + j) = -1 ∧ ¬ ww_on w i z
def drc (R : Nat) (w : Nat → Int32) (x y : Int32) (i j : Nat) : Prop := i < R ∧ j < 4 ∧ x = nI i ∧ y = nI j ∧ w (4 * i + j) ≠ -1
def r_plug (R : Nat) (w c : Nat → Int32) (x y z q v : Int32) (u : (Nat → Int32) × (Nat → Int32)) : Prop := (v = 1 ∧ ∃ i j, plc R w x y z q i j ∧ u.1 = upd w (4 * i + j) z ∧ u.2 = upd c (4 * i + j) q) ∨ (v = 0 ∧ (¬ ∃ i j, plc R w x y z q i j) ∧ u.1 = w ∧ u.2 = c)
def r_draw (R : Nat) (w : Nat → Int32) (x y v : Int32) (u : Nat → Int32) : Prop := (v = 1 ∧ ∃ i j, drc R w x y i j ∧ u = upd w (4 * i + j) (-1)) ∨ (v = 0 ∧ (¬ ∃ i j, drc R w x y i j) ∧ u = w)
def r_cost (R : Nat) (w c : Nat → Int32) (x y q v : Int32) (u : Nat → Int32) : Prop := (∃ i j, drc R w x y i j ∧ okc q ∧ v = c (4 * i + j) ∧ u = upd c (4 * i + j) q) ∨ (v = -1 ∧ (¬ ((∃ i j, drc R w x y i j) ∧ okc q)) ∧ u = c)
def r_cut (k : Nat → Int32) (z v : Int32) (u : Nat → Int32) : Prop := (v = 1 ∧ ∃ a, a < 16 ∧ z = nI a ∧ k a = 0 ∧ u = upd k a 1) ∨ (v = 0 ∧ (¬ ∃ a, a < 16 ∧ z = nI a ∧ k a = 0) ∧ u = k)
def r_mend (k : Nat → Int32) (z v : Int32) (u : Nat → Int32) : Prop := (v = 1 ∧ ∃ a, a < 16 ∧ z = nI a ∧ k a ≠ 0 ∧ u = upd k a 0) ∨ (v = 0 ∧ (¬ ∃ a, a < 16 ∧ z = nI a ∧ k a ≠ 0) ∧ u = k)
section
variable {R : Nat} {w c k : Nat → Int32} {x y z q v v' : Int32} {i j : Nat}
theorem plc_p (h : ∃ i j, plc R w x y z q i j) : ix x R ∧ ix y 4 := by
  obtain ⟨i, j, h1, h2, h3, h4, -⟩ := h
  exact ⟨⟨i, h1, h3⟩, ⟨j, h2, h4⟩⟩
theorem plc_w (h : ∃ i j, plc R w x y z q i j) : ix z 16 := by
  obtain ⟨i, j, h1, h2, h3, h4, h5, -⟩ := h
  exact h5
theorem plc_c (h : ∃ i j, plc R w x y z q i j) : okc q := by
  obtain ⟨i, j, h1, h2, h3, h4, h5, h6, -⟩ := h
  exact h6
theorem nI_ij {i j i' j' : Nat} (hR : R ≤ 10) (hi : i < R) (hj : j < 4) (hi' : i' < R) (hj' : j' < 4) (e1 : nI i = nI i') (e2 : nI j = nI j') : i = i' ∧ j = j' := ⟨(nI_eq (by omega) (by omega)).mp e1, (nI_eq (by omega) (by omega)).mp e2⟩
theorem plc_e (hR : R ≤ 10) (hi : i < R) (hj : j < 4) (h : ∃ i' j', plc R w (nI i) (nI j) z q i' j') : w (4 * i + j) = -1 ∧ ¬ ww_on w i z := by
  obtain ⟨i', j', h1, h2, h3, h4, h5, h6, h7, h8⟩ := h
  obtain ⟨rfl, rfl⟩ := nI_ij hR hi hj h1 h2 h3 h4
  exact ⟨h7, h8⟩
theorem drc_p (h : ∃ i j, drc R w x y i j) : ix x R ∧ ix y 4 := by
  obtain ⟨i, j, h1, h2, h3, h4, -⟩ := h
  exact ⟨⟨i, h1, h3⟩, ⟨j, h2, h4⟩⟩
theorem drc_e (hR : R ≤ 10) (hi : i < R) (hj : j < 4) (h : ∃ i' j', drc R w (nI i) (nI j) i' j') : w (4 * i + j) ≠ -1 := by
  obtain ⟨i', j', h1, h2, h3, h4, h5⟩ := h
  obtain ⟨rfl, rfl⟩ := nI_ij hR hi hj h1 h2 h3 h4
  exact h5
theorem drc_plg (hR : R ≤ 10) (hW : ∀ a, a < 40 → w a = -1 ∨ ix (w a) 16) (h : ∃ i j, drc R w x y i j) : plg R w x y := by
  obtain ⟨i, j, h1, h2, h3, h4, h5⟩ := h
  exact ⟨i, j, h1, h2, h3, h4, (hW _ (by omega)).resolve_left h5⟩
theorem ix_m1 {a : Int32} (h : ix a 16) : a ≠ -1 := fun e => ix_nm (n := 16) (by omega) (e ▸ h)
theorem ww_on_of {r v : Nat} {x a : Int32} (h : ww_po w r x a) (hn : ¬ a = -1) : ww_on w r x := by
  apply Classical.byContradiction
  intro h1
  exact hn ((ww_po_on h).mpr h1)
theorem okc_ofle {x : Int32} (h1 : ¬ x < 1) (h9 : x ≤ 9) : okc x := okc_of h1 (fun h => by
  rw [Int32.lt_iff_toInt_lt] at h
  rw [Int32.le_iff_toInt_le] at h9
  omega)
theorem okc_nle {x : Int32} (h : ¬ x ≤ 9) : ¬ okc x := okc_n1 (by
  rw [Int32.le_iff_toInt_le] at h
  rw [Int32.lt_iff_toInt_lt]
  omega)
theorem cut_w (h : ∃ a, a < 16 ∧ z = nI a ∧ k a = 0) : ix z 16 := by
  obtain ⟨a, h1, h2, -⟩ := h
  exact ⟨a, h1, h2⟩
theorem cut_e {a : Nat} (ha : a < 16) (h : ∃ b, b < 16 ∧ nI a = nI b ∧ k b = 0) : k a = 0 := by
  obtain ⟨b, h1, h2, h3⟩ := h
  have := (nI_eq (by omega) (by omega)).mp h2
  subst this
  exact h3
theorem mend_w (h : ∃ a, a < 16 ∧ z = nI a ∧ k a ≠ 0) : ix z 16 := by
  obtain ⟨a, h1, h2, -⟩ := h
  exact ⟨a, h1, h2⟩
theorem mend_e {a : Nat} (ha : a < 16) (h : ∃ b, b < 16 ∧ nI a = nI b ∧ k b ≠ 0) : k a ≠ 0 := by
  obtain ⟨b, h1, h2, h3⟩ := h
  have := (nI_eq (by omega) (by omega)).mp h2
  subst this
  exact h3
theorem vn_1 : vp_nar .boolean 1 = 1 := by decide
theorem vn_0 : vp_nar .boolean 0 = 0 := by decide
theorem r_plug_one (hR : R ≤ 10) {u u' : (Nat → Int32) × (Nat → Int32)} (h : r_plug R w c x y z q v u) (h' : r_plug R w c x y z q v' u') : v = v' ∧ u = u' := by
  obtain ⟨u1, u2⟩ := u
  obtain ⟨t1, t2⟩ := u'
  rcases h with ⟨a1, i, j, a2, a3, a4⟩ | ⟨a1, a2, a3, a4⟩ <;> rcases h' with ⟨b1, i', j', b2, b3, b4⟩ | ⟨b1, b2, b3, b4⟩
  · obtain ⟨rfl, rfl⟩ := nI_ij hR a2.1 a2.2.1 b2.1 b2.2.1 (a2.2.2.1.symm.trans b2.2.2.1) (a2.2.2.2.1.symm.trans b2.2.2.2.1)
    dsimp only at a3 a4 b3 b4
    exact ⟨a1.trans b1.symm, by rw [a3, a4, b3, b4]⟩
  · exact absurd ⟨i, j, a2⟩ b2
  · exact absurd ⟨i', j', b2⟩ a2
  · dsimp only at a3 a4 b3 b4
    exact ⟨a1.trans b1.symm, by rw [a3, a4, b3, b4]⟩
theorem r_draw_one (hR : R ≤ 10) {u u' : Nat → Int32} (h : r_draw R w x y v u) (h' : r_draw R w x y v' u') : v = v' ∧ u = u' := by
  rcases h with ⟨a1, i, j, a2, a3⟩ | ⟨a1, a2, a3⟩ <;> rcases h' with ⟨b1, i', j', b2, b3⟩ | ⟨b1, b2, b3⟩
  · obtain ⟨rfl, rfl⟩ := nI_ij hR a2.1 a2.2.1 b2.1 b2.2.1 (a2.2.2.1.symm.trans b2.2.2.1) (a2.2.2.2.1.symm.trans b2.2.2.2.1)
    exact ⟨a1.trans b1.symm, by rw [a3, b3]⟩
  · exact absurd ⟨i, j, a2⟩ b2
  · exact absurd ⟨i', j', b2⟩ a2
  · exact ⟨a1.trans b1.symm, by rw [a3, b3]⟩
theorem r_cost_one (hR : R ≤ 10) {u u' : Nat → Int32} (h : r_cost R w c x y q v u) (h' : r_cost R w c x y q v' u') : v = v' ∧ u = u' := by
  rcases h with ⟨i, j, a2, a3, a4, a5⟩ | ⟨a1, a2, a3⟩ <;> rcases h' with ⟨i', j', b2, b3, b4, b5⟩ | ⟨b1, b2, b3⟩
  · obtain ⟨rfl, rfl⟩ := nI_ij hR a2.1 a2.2.1 b2.1 b2.2.1 (a2.2.2.1.symm.trans b2.2.2.1) (a2.2.2.2.1.symm.trans b2.2.2.2.1)
    exact ⟨a4.trans b4.symm, by rw [a5, b5]⟩
  · exact absurd ⟨⟨i, j, a2⟩, a3⟩ b2
  · exact absurd ⟨⟨i', j', b2⟩, b3⟩ a2
  · exact ⟨a1.trans b1.symm, by rw [a3, b3]⟩
theorem r_cut_one {u u' : Nat → Int32} (h : r_cut k z v u) (h' : r_cut k z v' u') : v = v' ∧ u = u' := by
  rcases h with ⟨a1, i, a2, a3, a4, a5⟩ | ⟨a1, a2, a3⟩ <;> rcases h' with ⟨b1, i', b2, b3, b4, b5⟩ | ⟨b1, b2, b3⟩
  · have := (nI_eq (by omega) (by omega)).mp (a3.symm.trans b3)
    subst this
    exact ⟨a1.trans b1.symm, by rw [a5, b5]⟩
  · exact absurd ⟨i, a2, a3, a4⟩ b2
  · exact absurd ⟨i', b2, b3, b4⟩ a2
  · exact ⟨a1.trans b1.symm, by rw [a3, b3]⟩
theorem r_mend_one {u u' : Nat → Int32} (h : r_mend k z v u) (h' : r_mend k z v' u') : v = v' ∧ u = u' := by
  rcases h with ⟨a1, i, a2, a3, a4, a5⟩ | ⟨a1, a2, a3⟩ <;> rcases h' with ⟨b1, i', b2, b3, b4, b5⟩ | ⟨b1, b2, b3⟩
  · have := (nI_eq (by omega) (by omega)).mp (a3.symm.trans b3)
    subst this
    exact ⟨a1.trans b1.symm, by rw [a5, b5]⟩
  · exact absurd ⟨i, a2, a3, a4⟩ b2
  · exact absurd ⟨i', b2, b3, b4⟩ a2
  · exact ⟨a1.trans b1.symm, by rw [a3, b3]⟩
end
