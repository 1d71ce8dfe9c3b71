section
variable {R : Nat} {w c k : Nat → Int32} {x ov z : Int32} {r t : Nat}
/-- what choose leaves -/
def ch_ok (R : Nat) (w c k : Nat → Int32) (ov : Int32) (t : Nat) (r : Nat) (p1 q1 : Int32) : Prop := (ww_T R w c k ov t r < 1000000 → fw_ok R w c k ov t 1000000 (ww_T R w c k ov t) r p1 q1) ∧ (¬ ww_T R w c k ov t r < 1000000 → p1 = -1 ∧ q1 = -1)
theorem as_r (h : ∃ r t, asks R x ov z r t) : ix x R := by
  obtain ⟨r, t, h⟩ := h
  exact ⟨r, h.1, h.2.1⟩
theorem as_z (h : ∃ r t, asks R x ov z r t) : (ov ≠ 0 → ix z 16) ∧ (ov = 0 → ix z R) := by
  obtain ⟨r, t, h⟩ := h
  exact ⟨fun h0 => ⟨t, h.2.2.2.1 h0, h.2.2.1⟩, fun h0 => ⟨t, h.2.2.2.2 h0, h.2.2.1⟩⟩
theorem as_no (h : ¬ ∃ r t, asks R x ov z r t) : ¬ ∃ r t, come R w c k x ov z r t := fun ⟨r, t, h1⟩ => h ⟨r, t, h1.1⟩
theorem as_no2 (hR : R ≤ 10) (h : asks R x ov z r t) (hk : ¬ ww_T R w c k ov t r < 1000000) : ¬ ∃ r t, come R w c k x ov z r t := come_no hR h (by omega)
/-- the walk's next place -/
theorem wk_step {a m : Nat} {p1 q1 : Int32} (hok : ww_ok R w c) (haR : a < R) (haK : ww_T R w c k ov t a < 1000000) (hws : wks (ww_tg w k ov t) (ww_E R w k) (ww_c c) 1000000 (ww_T R w c k ov t) m r a) (h : ch_ok R w c k ov t a p1 q1) :
    (∃ b, q1 = nI b ∧ b < R ∧ ww_T R w c k ov t b < 1000000 ∧ wks (ww_tg w k ov t) (ww_E R w k) (ww_c c) 1000000 (ww_T R w c k ov t) (m + 1) r b) ∨ (q1 = -1 ∧ ¬ ∃ b, wks (ww_tg w k ov t) (ww_E R w k) (ww_c c) 1000000 (ww_T R w c k ov t) (m + 1) r b) := by
  have hf := h.1 haK
  by_cases htg : ww_tg w k ov t a
  · exact Or.inr ⟨(hf.1 htg).1, wks_end hws htg⟩
  · obtain ⟨p, b, h1, h2, h3⟩ := hf.2 htg
    obtain ⟨g1, g2⟩ := dm_way_less (ww_gr hok) (ww_T_ok hok k ov t) haR htg haK h3
    exact Or.inl ⟨b, h2, g1, by omega, a, hws, htg, p, h3⟩
theorem rc_cnt (hok : ww_ok R w c) (hr : r < R) {n : Nat} (h : n = dm_cnt (fun a => decide (ww_T R w c k 0 a r < 1000000)) R) : n = dm_cnt (fun a => decide (ww_T R w c k 0 r a < 1000000)) R := by
  rw [h]
  apply Nat.le_antisymm
  · exact dm_cnt_mono (fun j hj hp => decide_eq_true ((ww_sym hok hr hj).mp (of_decide_eq_true hp)))
  · exact dm_cnt_mono (fun j hj hp => decide_eq_true ((ww_sym hok hr hj).mpr (of_decide_eq_true hp)))
theorem fa_m1 (hok : ww_ok R w c) {v : Int32} (h : fa_ok R w c k x ov z v) : v = -1 ↔ ¬ ∃ r t, come R w c k x ov z r t := by
  rcases h with ⟨r, t, h1, h2⟩ | ⟨h1, h2⟩
  · refine ⟨fun e => absurd (h2.symm.trans e) (nI_m1 (by have := h1.2; omega)), fun h => absurd ⟨r, t, h1⟩ h⟩
  · exact ⟨fun _ => h2, fun _ => h1⟩
theorem fa_0 {v : Int32} (hr : r < R) (ht : t < R) (hok : ww_ok R w c) (h : fa_ok R w c k (nI r) 0 (nI t) v) : v = -1 ↔ ¬ ww_T R w c k 0 t r < 1000000 := by
  have ha : asks R (nI r) 0 (nI t) r t := ⟨hr, rfl, rfl, fun h => absurd rfl h, fun _ => ht⟩
  rw [fa_m1 hok h]
  refine ⟨fun h1 h2 => h1 ⟨r, t, ha, h2⟩, fun h1 => as_no2 hok.2.1 ha h1⟩
theorem ch_po {p1 q1 : Int32} (hR : R ≤ 10) (ha : asks R x ov z r t) (h : ch_ok R w c k ov t r p1 q1) : po_ok R w c k x ov z p1 := by
  by_cases hTK : ww_T R w c k ov t r < 1000000
  · exact Or.inl ⟨r, t, ⟨ha, hTK⟩, _, h.1 hTK⟩
  · exact Or.inr ⟨(h.2 hTK).1, as_no2 hR ha hTK⟩
theorem ch_nx {p1 q1 : Int32} (hR : R ≤ 10) (ha : asks R x ov z r t) (h : ch_ok R w c k ov t r p1 q1) : nx_ok R w c k x ov z q1 := by
  by_cases hTK : ww_T R w c k ov t r < 1000000
  · exact Or.inl ⟨r, t, ⟨ha, hTK⟩, _, h.1 hTK⟩
  · exact Or.inr ⟨(h.2 hTK).2, as_no2 hR ha hTK⟩
end
