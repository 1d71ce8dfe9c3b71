section
variable {R K : Nat} {w c k : Nat → Int32} {tg : Nat → Prop} {D dn nn dm : Nat → Nat}
theorem me_step (hok : ww_ok R w c) (hD : dm_ok R tg (ww_E R w k) (ww_c c) K D) (h1 : ∀ r, r < R → D r ≤ dn r) (hf : fn_ok R w k K dn nn (fun _ _ => True)) (hs : sd_ok R w c k nn dn dm (fun _ _ => True)) :
    (∀ r, r < R → D r ≤ dm r) ∧ (∀ r, r < R → dm r ≤ dn r) ∧ (∀ r q b, r < R → ww_E R w k r q b → dm r ≤ ww_c c r q + dn b) := by
  refine ⟨fun r hr => ?_, fun r hr => (hs r hr).1, fun r q b hr hE => ?_⟩
  · have h1r := h1 r hr
    rcases (hs r hr).2.2 with e | ⟨q, x, hq, hx, ex, hk0, e⟩
    · omega
    · rcases (hf x hx).2.2 with e2 | ⟨b, q', hb, hq', eb, -, e2⟩
      · have := hD.1 r hr
        omega
      · by_cases hbr : b = r
        · subst hbr
          omega
        · have h2 := hD.2.2.1 r q b hr ⟨hr, hq, hb, hbr, x, hx, ex, hk0, q', hq', eb⟩
          have h3 := h1 b hb
          omega
  · obtain ⟨-, hq, hb, hne, x, hx, ex, hk0, q', hq', eb⟩ := hE
    have h2 := (hs r hr).2.1 q x trivial hq hx ex hk0
    have h3 := (hf x hx).2.1 b q' trivial hb hq' eb hk0
    omega
theorem me_fix (hok : ww_ok R w c) (hD : dm_ok R tg (ww_E R w k) (ww_c c) K D) (h1 : ∀ r, r < R → D r ≤ dn r) (hK : ∀ r, r < R → dn r ≤ K) (hz : ∀ r, r < R → tg r → dn r = 0) (h3 : ∀ r q b, r < R → ww_E R w k r q b → dm r ≤ ww_c c r q + dn b) (he : ∀ r, r < R → dm r = dn r) : ∀ r, r < R → dm r = D r := fun r hr => by
  rw [he r hr]
  exact dm_fix (ww_gr hok) hD h1 hK hz (fun a q b ha hE => by rw [← he a ha]; exact h3 a q b ha hE) (D r) r hr rfl
theorem me_all (h1 : ∀ r, r < R → D r ≤ dn r) (hc : dm_cnt (fun x => decide (D x < dn x)) R ≤ 0) : ∀ r, r < R → dn r = D r := fun r hr => by
  have h0 := dm_cnt_0 (Nat.eq_zero_of_le_zero hc) r hr
  have h2 := h1 r hr
  by_cases h3 : D r < dn r
  · exact absurd (decide_eq_true h3) h0
  · omega
theorem me_init (hD : dm_ok R tg (ww_E R w k) (ww_c c) K D) {d1 : Nat → Int32} (h : ∀ a, a < R → (tg a → d1 a = nI 0) ∧ (¬ tg a → d1 a = nI K)) : ∃ dn : Nat → Nat, (∀ a, a < R → d1 a = nI (dn a) ∧ dn a ≤ K) ∧ (∀ a, a < R → D a ≤ dn a) ∧ (∀ a, a < R → tg a → dn a = 0) := by
  obtain ⟨dn, e1, e2⟩ : ∃ dn : Nat → Nat, (∀ r, tg r → dn r = 0) ∧ (∀ r, ¬ tg r → dn r = K) :=
    ⟨fun r => @ite _ (tg r) (Classical.propDecidable _) 0 K, fun r h => if_pos h, fun r h => if_neg h⟩
  refine ⟨dn, fun a ha => ?_, fun a ha => ?_, fun a _ ht => e1 a ht⟩
  · by_cases ht : tg a
    · rw [e1 a ht]
      exact ⟨(h a ha).1 ht, Nat.zero_le _⟩
    · rw [e2 a ht]
      exact ⟨(h a ha).2 ht, Nat.le_refl _⟩
  · by_cases ht : tg a
    · rw [hD.2.1 a ha ht]
      exact Nat.zero_le _
    · rw [e2 a ht]
      exact hD.1 a ha
end
theorem up_P {P : Nat → Int32 → Prop} {f : Nat → Int32} {r : Nat} {v : Int32} (h : ∀ a, a < r → P a (f a)) (hv : P r v) : ∀ a, a < r + 1 → P a (upd f r v a) := fun a ha => by
  by_cases e : a = r
  · subst e
    rw [pk_us]
    exact hv
  · rw [pk_un e]
    exact h a (by omega)
