section
variable {R : Nat} {w c : Nat → Int32} {x y z q v : Int32}
theorem ok_plug (hok : ww_ok R w c) {u : (Nat → Int32) × (Nat → Int32)} (h : r_plug R w c x y z q v u) : ww_ok R u.1 u.2 := by
  rcases h with ⟨-, i, j, h1, h2, h3⟩ | ⟨-, -, h2, h3⟩
  · rw [h2, h3]
    refine ⟨hok.1, hok.2.1, fun a ha => ?_, fun a ha hne => ?_⟩
    · by_cases e : a = 4 * i + j
      · rw [e, pk_us]
        exact Or.inr h1.2.2.2.2.1
      · rw [pk_un e]
        exact hok.2.2.1 a ha
    · by_cases e : a = 4 * i + j
      · rw [e, pk_us]
        exact h1.2.2.2.2.2.1
      · rw [pk_un e] at hne ⊢
        exact hok.2.2.2 a ha hne
  · rw [h2, h3]
    exact hok
theorem ok_draw (hok : ww_ok R w c) {u : Nat → Int32} (h : r_draw R w x y v u) : ww_ok R u c := by
  rcases h with ⟨-, i, j, h1, h2⟩ | ⟨-, -, h2⟩
  · rw [h2]
    refine ⟨hok.1, hok.2.1, fun a ha => ?_, fun a ha hne => ?_⟩
    · by_cases e : a = 4 * i + j
      · rw [e, pk_us]
        exact Or.inl rfl
      · rw [pk_un e]
        exact hok.2.2.1 a ha
    · by_cases e : a = 4 * i + j
      · rw [e, pk_us] at hne
        exact absurd rfl hne
      · rw [pk_un e] at hne
        exact hok.2.2.2 a ha hne
  · rw [h2]
    exact hok
theorem ok_cost (hok : ww_ok R w c) {u : Nat → Int32} (h : r_cost R w c x y q v u) : ww_ok R w u := by
  rcases h with ⟨i, j, h1, h2, -, h3⟩ | ⟨-, -, h3⟩
  · rw [h3]
    refine ⟨hok.1, hok.2.1, hok.2.2.1, fun a ha hne => ?_⟩
    by_cases e : a = 4 * i + j
    · rw [e, pk_us]
      exact h2
    · rw [pk_un e]
      exact hok.2.2.2 a ha hne
  · rw [h3]
    exact hok
theorem ok_0 (x : Int32) : ww_ok (clampR x) w0 z0 := ⟨(cl_ok x).1, (cl_ok x).2, fun _ _ => Or.inl rfl, fun _ _ h => absurd rfl h⟩
theorem law_i {L i : Nat} (hL : L ≤ 2561) (hi : i ≤ L + 1) (h : ¬ nI L - 5 < nI i) : i + 5 ≤ L := by
  have h1 := pk_sub_toInt (a := L) (b := 5) (by omega) (by omega)
  have h2 := nI_toInt (n := i) (by omega)
  rw [Int32.lt_iff_toInt_lt, show nI L - 5 = nI L - nI 5 from rfl, h1, h2] at h
  omega
end
set_option maxHeartbeats 4000000 in
set_option maxRecDepth 100000 in
/-- cell(script, 0) -/
theorem k_L_cell (l : Launch) (b L : Nat) (xs : Nat → Int32) (hL : L ≤ 2561) (sz : Nat) : Met l yL_cell wsL_cell { frames := 0, cells := 0, slots := 0, locals := 0 } (va_Pc [.ref b, .int 0] (fun U => U.heap.size = sz ∧ b < sz ∧ va_X b L xs U U.heap)) (va_Qi (fun v (_ : Unit) => v = if 0 < L then xs 0 else 0) (fun _ _ => True) (va_A [] sz)) 0 0 (va_A [] sz) := by
  refine Met.ofW (cc := cL_cell) (maxL := 2) (ret := (some .int)) (by decide) rfl ?_
  intro p e s m args below meth cd s₁ B hml hv
  obtain ⟨rfl, hsz, hbs, hX⟩ := hv
  have hx := B.exec
  have hb := B.bytes
  have hr := B.returns
  have hlocks := B.notSynchronized
  subst hsz
  have hbA : ¬ va_A [] s.heap.size b := fun h => by
    rcases h with ⟨k, e, h⟩ | h
    · simp at h
    · omega
  have hS : va_S (va_A [] s.heap.size) s.heap s.heap [] := va_S.rf
  have hl := lv_entry ([.ref b, .int 0]) (n := 2) (Nat.le_of_ble_eq_true rfl)
  rw [lg_entry_eq]
  generalize (lg_sl ([.ref b, .int 0]) ++ List.replicate (2 - (lg_sl ([.ref b, .int 0])).length) Slot.unset).toArray = ls at hl ⊢
  have hl : lv_has ls 2 [(0, .ref b), (1, .int 0)] := hl
  refine lv_iload_n hx hb dL_cell_0 rfl (lv_at hl 1 rfl) ?_
  refine lv_aload_n hx hb dL_cell_1 rfl (lv_at hl 0 rfl) ?_
  refine va_slen hx hb hX hbs hbA hS dL_cell_2 ?_
  refine lv_icmp_ge (tgt := 12) hx hb dL_cell_3 (by decide) (fun c1 => ?_) (fun c1 => ?_)
  · have h0 : ¬ 0 < L := fun h => absurd c1 (nI_ge h (by omega))
    refine lv_iconst (v := 0) hx hb dL_cell_12 (by decide) ?_
    exact W.iret hx hb hr (fun t ht hW => ⟨⟨0, (), rfl, by rw [if_neg h0], trivial⟩, hS.F ht⟩) hS.2.2 dL_cell_13 hlocks
  · have h0 : 0 < L := by
      rcases Nat.lt_or_ge 0 L with h | h
      · exact h
      · exact absurd (nI_le h (by omega)) c1
    refine lv_aload_n hx hb dL_cell_6 rfl (lv_at hl 0 rfl) ?_
    refine lv_iload_n hx hb dL_cell_7 rfl (lv_at hl 1 rfl) ?_
    refine va_sld hx hb hX hbs hbA hS (vp_in_nI (n := 0) h0 (by omega)) dL_cell_8 ?_
    refine lv_goto (tgt := 13) hx hb dL_cell_9 (by decide) ?_
    exact W.iret hx hb hr (fun t ht hW => ⟨⟨_, (), rfl, by rw [if_pos h0]; rfl, trivial⟩, hS.F ht⟩) hS.2.2 dL_cell_13 hlocks
