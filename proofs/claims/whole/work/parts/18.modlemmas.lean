/-! The reference's own rows. -/
section
variable {R p q p' q' κ : Nat}
theorem pr_lt (hp : p < 4) (hq : q < R) : p * R + q < 4 * R := by
  have : p * R ≤ 3 * R := Nat.mul_le_mul_right R (by omega)
  omega
theorem pr_div (hq : q < R) : (p * R + q) / R = p := by
  rw [Nat.mul_comm, Nat.mul_add_div (by omega), Nat.div_eq_of_lt hq]
  rfl
theorem pr_mod (hq : q < R) : (p * R + q) % R = q := by
  rw [Nat.mul_comm, Nat.mul_add_mod]
  exact Nat.mod_eq_of_lt hq
theorem pr_of (κ : Nat) (hR : 0 < R) : κ / R * R + κ % R = κ := by
  rw [Nat.mul_comm]
  exact Nat.div_add_mod κ R
theorem pr_4 (h : κ < 4 * R) : κ / R < 4 := Nat.div_lt_of_lt_mul (by rw [Nat.mul_comm]; exact h)
theorem pr_lex (hq : q < R) (hq' : q' < R) (h : p * R + q < p' * R + q') : p < p' ∨ (p = p' ∧ q < q') := by
  rcases Nat.lt_trichotomy p p' with z | z | z
  · exact Or.inl z
  · subst z
    exact Or.inr ⟨rfl, by omega⟩
  · exfalso
    have : (p' + 1) * R ≤ p * R := Nat.mul_le_mul_right R z
    rw [Nat.add_mul] at this
    omega
end
/-- what by answers: the sum, or 100000 -/
def by_ok (R : Nat) (w c k : Nat → Int32) (dn : Nat → Nat) (r p q dv : Nat) : Prop := (ww_E R w k r p q ∧ dn q < 100000 ∧ dv = ww_c c r p + dn q) ∨ (¬ (ww_E R w k r p q ∧ dn q < 100000) ∧ dv = 100000)
section
variable {R : Nat} {w c k : Nat → Int32} {dn dm Tm : Nat → Nat} {tg : Nat → Prop} {r p q x dv κ b : Nat}
theorem by_x (hx : x < 16) (ex : w (4 * r + p) = nI x) (h : ww_E R w k r p q) : k x = 0 ∧ q ≠ r ∧ ww_on w q (w (4 * r + p)) := by
  obtain ⟨-, -, h1, h2, y, hy, ey, hk, h3⟩ := h
  have : x = y := (nI_eq (by omega) (by omega)).mp (ex.symm.trans ey)
  subst this
  exact ⟨hk, h2, by rw [ex]; exact h3⟩
theorem by_m1 (e : w (4 * r + p) = -1) (h : ww_E R w k r p q) : False := by
  obtain ⟨-, -, h1, h2, y, hy, ey, hk, h3⟩ := h
  exact nI_m1 (by omega) (ey.symm.trans e)
theorem by_le (hok : ww_ok R w c) (h : by_ok R w c k dn r p q dv) : dv ≤ 100009 := by
  rcases h with ⟨h1, h2, h3⟩ | ⟨h1, h2⟩
  · have := ww_gr hok r p q h1
    omega
  · omega
/-- one pass so far: nothing has come down and all pairs that V names hold, or something has -/
def rk_in (R : Nat) (w c k : Nat → Int32) (dn dm : Nat → Nat) (b : Nat) (V : Nat → Nat → Nat → Prop) : Prop := (b = 0 ∧ (∀ a, a < R → dm a = dn a) ∧ ∀ a p q, a < R → V a p q → ww_E R w k a p q → dn a ≤ ww_c c a p + dn q) ∨ (b = 1 ∧ dm_sum dm R < dm_sum dn R)
/-- the row: never too small, at most 100000, 0 at the aim -/
def rk_row (R : Nat) (tg : Nat → Prop) (Tm : Nat → Nat) (d : Nat → Int32) (dm : Nat → Nat) : Prop := (∀ a, a < R → d a = nI (dm a) ∧ dm a ≤ 100000) ∧ (∀ a, a < R → Tm a ≤ dm a) ∧ (∀ a, a < R → tg a → dm a = 0)
theorem rk_V {V V' : Nat → Nat → Nat → Prop} (h : rk_in R w c k dn dm b V) (hV : ∀ a p q, a < R → p < 4 → q < R → V' a p q → V a p q) : rk_in R w c k dn dm b V' := h.imp (fun h => ⟨h.1, h.2.1, fun a p q ha hv hE => h.2.2 a p q ha (hV a p q ha hE.2.1 hE.2.2.1 hv) hE⟩) id
theorem rk_same {d : Nat → Int32} (h : rk_row R tg Tm d dm) (hr : r < R) : rk_row R tg Tm (upd d r (nI (dm r))) dm := by
  refine ⟨fun a ha => ?_, h.2⟩
  by_cases e : a = r
  · subst e
    rw [pk_us]
    exact ⟨rfl, (h.1 a ha).2⟩
  · rw [pk_un e]
    exact h.1 a ha
theorem rk_put {d : Nat → Int32} (hok : ww_ok R w c) (hT : dm_ok R tg (ww_E R w k) (ww_c c) 100000 Tm) (h : rk_row R tg Tm d dm) (hr : r < R) (hb : by_ok R w c k dm r p q dv) (hlt : dv < dm r) : rk_row R tg Tm (upd d r (nI dv)) (nup dm r dv) := by
  have h9 := (h.1 r hr).2
  refine ⟨fun a ha => ?_, fun a ha => ?_, fun a ha ht => ?_⟩
  · by_cases e : a = r
    · subst e
      rw [pk_us, nup_s]
      exact ⟨rfl, by omega⟩
    · rw [pk_un e, nup_n e]
      exact h.1 a ha
  · by_cases e : a = r
    · subst e
      rw [nup_s]
      rcases hb with ⟨h1, h2, h3⟩ | ⟨h1, h2⟩
      · have g1 := hT.2.2.1 a p q ha h1
        have g2 := h.2.1 q h1.2.2.1
        omega
      · omega
    · rw [nup_n e]
      exact h.2.1 a ha
  · by_cases e : a = r
    · subst e
      have := h.2.2 a ha ht
      omega
    · rw [nup_n e]
      exact h.2.2 a ha ht
/-- the pair that stands at place κ holds -/
theorem rk_keep (hR : 0 < R) (h : rk_in R w c k dn dm b (fun a p q => a < r ∨ (a = r ∧ p * R + q < κ))) (hr : r < R) (hK : ∀ a, a < R → dm a ≤ 100000) (hb : by_ok R w c k dm r (κ / R) (κ % R) dv) (hle : dm r ≤ dv) : rk_in R w c k dn dm b (fun a p q => a < r ∨ (a = r ∧ p * R + q < κ + 1)) := by
  rcases h with ⟨h1, h2, h3⟩ | h
  · refine Or.inl ⟨h1, h2, fun a p q ha hv hE => ?_⟩
    by_cases e : a = r ∧ p * R + q = κ
    · obtain ⟨rfl, e⟩ := e
      have hq := hE.2.2.1
      have e1 : κ / R = p := by rw [← e]; exact pr_div hq
      have e2 : κ % R = q := by rw [← e]; exact pr_mod hq
      rw [e1, e2] at hb
      have k1 := h2 a ha
      have k2 := h2 q hq
      have k3 := hK a ha
      rcases hb with ⟨-, g2, g3⟩ | ⟨g1, g2⟩
      · omega
      · have : ¬ dm q < 100000 := fun h => g1 ⟨hE, h⟩
        omega
    · exact h3 a p q ha (by omega) hE
  · exact Or.inr h
theorem rk_less (h : rk_in R w c k dn dm b (fun a p q => a < r ∨ (a = r ∧ p * R + q < κ))) (hr : r < R) (hlt : dv < dm r) (V : Nat → Nat → Nat → Prop) : rk_in R w c k dn (nup dm r dv) 1 V := by
  have h0 : dm_sum dm R ≤ dm_sum dn R := by
    rcases h with ⟨h1, h2, h3⟩ | h
    · exact dm_sum_le (fun a ha => Nat.le_of_eq (h2 a ha))
    · exact Nat.le_of_lt h.2
  refine Or.inr ⟨rfl, Nat.lt_of_lt_of_le (dm_sum_lt hr (fun a _ => ?_) (by rw [nup_s]; exact hlt)) h0⟩
  by_cases e : a = r
  · subst e
    rw [nup_s]
    omega
  · rw [nup_n e]
    exact Nat.le_refl _
theorem rk_fix {d : Nat → Int32} (hok : ww_ok R w c) (hT : dm_ok R tg (ww_E R w k) (ww_c c) 100000 Tm) (h : rk_row R tg Tm d dm) (hi : rk_in R w c k dn dm 0 (fun _ _ _ => True)) : ∀ a, a < R → dm a = Tm a := by
  rcases hi with ⟨-, h2, h3⟩ | ⟨h, -⟩
  · intro a ha
    refine dm_fix (ww_gr hok) hT h.2.1 (fun a ha => (h.1 a ha).2) h.2.2 (fun a p q ha hE => ?_) (Tm a) a ha rfl
    rw [h2 a ha, h2 q hE.2.2.1]
    exact h3 a p q ha trivial hE
  · exact absurd h (by decide)
theorem rk_init {d : Nat → Int32} (hT : dm_ok R tg (ww_E R w k) (ww_c c) 100000 Tm) (h : ∀ a, a < R → (tg a → d a = nI 0) ∧ (¬ tg a → d a = nI 100000)) : ∃ dn, rk_row R tg Tm d dn := by
  obtain ⟨dn, h1, h2, h3⟩ := me_init hT h
  exact ⟨dn, h1, h2, h3⟩
end
/-- the way among the pairs below place κ -/
def cw_in (R : Nat) (E : Nat → Nat → Nat → Prop) (cs : Nat → Nat → Nat) (K : Nat) (T : Nat → Nat) (r κ lt : Nat) (p1 q1 : Int32) : Prop :=
  (lt = K ∧ p1 = -1 ∧ q1 = -1 ∧ ∀ p b, p * R + b < κ → E r p b → ¬ T b < K) ∨ ∃ p b, p * R + b < κ ∧ p1 = nI p ∧ q1 = nI b ∧ E r p b ∧ T b < K ∧ lt = cs r p + T b ∧ ∀ p' b', p' * R + b' < κ → E r p' b' → T b' < K → lt < cs r p' + T b' ∨ (lt = cs r p' + T b' ∧ (p < p' ∨ (p = p' ∧ b ≤ b')))
section
variable {R : Nat} {w c k : Nat → Int32} {T : Nat → Nat} {r κ lt dv : Nat} {p1 q1 : Int32}
theorem cw_0 {E : Nat → Nat → Nat → Prop} {cs : Nat → Nat → Nat} {K : Nat} : cw_in R E cs K T r 0 K (-1) (-1) := Or.inl ⟨rfl, rfl, rfl, fun p b h => absurd h (Nat.not_lt_zero _)⟩
theorem cw_skip (h : cw_in R (ww_E R w k) (ww_c c) 100000 T r κ lt p1 q1) (hb : by_ok R w c k T r (κ / R) (κ % R) dv) (hs : ∀ b, b < R → T b < 100000 → T b ≤ 90) (hok : ww_ok R w c) (hle : lt ≤ dv) : cw_in R (ww_E R w k) (ww_c c) 100000 T r (κ + 1) lt p1 q1 := by
  rcases h with ⟨h1, h2, h3, h4⟩ | ⟨p, b, h1, h2, h3, h4, h5, h6, h7⟩
  · refine Or.inl ⟨h1, h2, h3, fun p b hp hE hk => ?_⟩
    by_cases e : p * R + b = κ
    · have hq := hE.2.2.1
      have e1 : κ / R = p := by rw [← e]; exact pr_div hq
      have e2 : κ % R = b := by rw [← e]; exact pr_mod hq
      rw [e1, e2] at hb
      have := hs b hq hk
      have g := ww_gr hok r p b hE
      rcases hb with ⟨-, g2, g3⟩ | ⟨g1, g2⟩
      · omega
      · exact g1 ⟨hE, hk⟩
    · exact h4 p b (by omega) hE hk
  · refine Or.inr ⟨p, b, by omega, h2, h3, h4, h5, h6, fun p' b' hp' hE' hk' => ?_⟩
    by_cases e : p' * R + b' = κ
    · have hq := hE'.2.2.1
      have e1 : κ / R = p' := by rw [← e]; exact pr_div hq
      have e2 : κ % R = b' := by rw [← e]; exact pr_mod hq
      rw [e1, e2] at hb
      rcases hb with ⟨-, g2, g3⟩ | ⟨g1, g2⟩
      · have hx := pr_lex h4.2.2.1 hq (by omega : p * R + b < p' * R + b')
        omega
      · exact absurd ⟨hE', hk'⟩ g1
    · exact h7 p' b' (by omega) hE' hk'
theorem cw_put (h : cw_in R (ww_E R w k) (ww_c c) 100000 T r κ lt p1 q1) (hb : by_ok R w c k T r (κ / R) (κ % R) dv) (hR : 0 < R) (hlK : lt ≤ 100000) (hlt : dv < lt) : cw_in R (ww_E R w k) (ww_c c) 100000 T r (κ + 1) dv (nI (κ / R)) (nI (κ % R)) := by
  rcases hb with ⟨hE, hk, e⟩ | ⟨g1, g2⟩
  · have ek := pr_of κ hR
    refine Or.inr ⟨κ / R, κ % R, by omega, rfl, rfl, hE, hk, e, fun p' b' hp' hE' hk' => ?_⟩
    by_cases e9 : p' * R + b' = κ
    · have hq := hE'.2.2.1
      have e1 : κ / R = p' := by rw [← e9]; exact pr_div hq
      have e2 : κ % R = b' := by rw [← e9]; exact pr_mod hq
      rw [e1, e2] at e
      rw [e1, e2]
      exact Or.inr ⟨e, Or.inr ⟨rfl, Nat.le_refl _⟩⟩
    · rcases h with ⟨h1, h2, h3, h4⟩ | ⟨p, b, h1, h2, h3, h4, h5, h6, h7⟩
      · exact absurd hk' (h4 p' b' (by omega) hE')
      · have := h7 p' b' (by omega) hE' hk'
        omega
  · omega
theorem cw_way (h : cw_in R (ww_E R w k) (ww_c c) 100000 T r κ lt p1 q1) (hk : 4 * R ≤ κ) (hex : ∃ p b, ww_E R w k r p b ∧ T b < 100000) : ∃ p b, p1 = nI p ∧ q1 = nI b ∧ dm_way (ww_E R w k) (ww_c c) 100000 T r p b := by
  have hin : ∀ p b, ww_E R w k r p b → p * R + b < κ := fun p b hE => by
    have := pr_lt hE.2.1 hE.2.2.1
    omega
  rcases h with ⟨h1, h2, h3, h4⟩ | ⟨p, b, h1, h2, h3, h4, h5, h6, h7⟩
  · obtain ⟨p, b, he, hb⟩ := hex
    exact absurd hb (h4 p b (hin p b he) he)
  · exact ⟨p, b, h2, h3, h4, h5, fun p' b' he hb => by
      have := h7 p' b' (hin p' b' he) he hb
      omega⟩
end
/-- the same distances, with 100000 for none -/
noncomputable def ww_M (R : Nat) (w c k : Nat → Int32) (ov : Int32) (t : Nat) : Nat → Nat := fun a => if ww_T R w c k ov t a < 1000000 then ww_T R w c k ov t a else 100000
section
variable {R : Nat} {w c k : Nat → Int32} {ov : Int32} {t : Nat}
theorem ww_M_lt (hok : ww_ok R w c) {a : Nat} (ha : a < R) : ww_T R w c k ov t a < 1000000 → ww_T R w c k ov t a ≤ 90 := fun h => by
  have h1 := dm_small (ww_gr hok) (ww_T_ok hok k ov t) ha h
  have h2 := hok.2.1
  omega
theorem ww_M_1 {a : Nat} (h : ww_T R w c k ov t a < 1000000) : ww_M R w c k ov t a = ww_T R w c k ov t a := if_pos h
theorem ww_M_0 {a : Nat} (h : ¬ ww_T R w c k ov t a < 1000000) : ww_M R w c k ov t a = 100000 := if_neg h
theorem ww_M_iff (hok : ww_ok R w c) {a : Nat} (ha : a < R) : ww_M R w c k ov t a < 100000 ↔ ww_T R w c k ov t a < 1000000 := by
  by_cases h : ww_T R w c k ov t a < 1000000
  · rw [ww_M_1 h]
    have := ww_M_lt hok ha h
    omega
  · rw [ww_M_0 h]
    omega
theorem ww_M_ok (hok : ww_ok R w c) (k : Nat → Int32) (ov : Int32) (t : Nat) : dm_ok R (ww_tg w k ov t) (ww_E R w k) (ww_c c) 100000 (ww_M R w c k ov t) := by
  have hT := ww_T_ok hok k ov t
  refine ⟨fun r hr => ?_, fun r hr ht => ?_, fun r p q hr hE => ?_, fun r hr ht hk => ?_⟩
  · by_cases h : ww_T R w c k ov t r < 1000000
    · rw [ww_M_1 h]
      have := ww_M_lt hok hr h
      omega
    · rw [ww_M_0 h]
      exact Nat.le_refl _
  · have h0 := hT.2.1 r hr ht
    rw [ww_M_1 (by omega), h0]
  · have h1 := hT.2.2.1 r p q hr hE
    have hg := ww_gr hok r p q hE
    by_cases hq : ww_T R w c k ov t q < 1000000
    · have h2 := ww_M_lt hok hE.2.2.1 hq
      rw [ww_M_1 hq, ww_M_1 (by omega)]
      exact h1
    · rw [ww_M_0 hq]
      by_cases h : ww_T R w c k ov t r < 1000000
      · rw [ww_M_1 h]
        have := ww_M_lt hok hr h
        omega
      · rw [ww_M_0 h]
        omega
  · have hk' := (ww_M_iff hok hr).mp hk
    obtain ⟨p, q, hE, e⟩ := hT.2.2.2 r hr ht hk'
    refine ⟨p, q, hE, ?_⟩
    rw [ww_M_1 hk', ww_M_1 (by omega)]
    exact e
/-- the way is the same -/
theorem ww_M_way (hok : ww_ok R w c) {r p b : Nat} (h : dm_way (ww_E R w k) (ww_c c) 100000 (ww_M R w c k ov t) r p b) : dm_way (ww_E R w k) (ww_c c) 1000000 (ww_T R w c k ov t) r p b := by
  obtain ⟨h1, h2, h3⟩ := h
  have h2' := (ww_M_iff hok h1.2.2.1).mp h2
  rw [ww_M_1 h2'] at h3
  refine ⟨h1, h2', fun p' b' hE hk => ?_⟩
  have := h3 p' b' hE ((ww_M_iff hok hE.2.2.1).mpr hk)
  rw [ww_M_1 hk] at this
  exact this
theorem ww_M_fw (hok : ww_ok R w c) {r : Nat} {p1 q1 : Int32} (h : fw_ok R w c k ov t 100000 (ww_M R w c k ov t) r p1 q1) : fw_ok R w c k ov t 1000000 (ww_T R w c k ov t) r p1 q1 := by
  refine ⟨h.1, fun htg => ?_⟩
  obtain ⟨p, b, h1, h2, h3⟩ := h.2 htg
  exact ⟨p, b, h1, h2, ww_M_way hok h3⟩
/-- one can come there and back -/
theorem ww_back (hok : ww_ok R w c) {q r p : Nat} (hE : ww_E R w k q p r) : ∀ n x, x < R → ww_T R w c k 0 q x = n → n < 1000000 → ww_T R w c k 0 r x < 1000000 := by
  intro n
  induction n using Nat.strongRecOn with
  | ind n ih =>
    intro x hx hn hk
    have hT := ww_T_ok hok k 0 q
    have hr := ww_T_ok hok k 0 r
    have hqR := hE.1
    have hgE := ww_gr hok q p r hE
    by_cases htg : ww_tg w k 0 q x
    · have e : x = q := htg.2 rfl
      subst e
      have h1 := hr.2.2.1 x p r hx hE
      have h2 := hr.2.1 r hE.2.2.1 ⟨fun h => absurd rfl h, fun _ => rfl⟩
      omega
    · obtain ⟨p', y, hE', e⟩ := hT.2.2.2 x hx htg (by omega)
      have hg := ww_gr hok x p' y hE'
      have h1 := ih (ww_T R w c k 0 q y) (by omega) y hE'.2.2.1 rfl (by omega)
      have h2 := ww_M_lt (k := k) (ov := 0) (t := r) hok hE'.2.2.1 h1
      have h3 := hr.2.2.1 x p' y hx hE'
      omega
theorem ww_sym1 (hok : ww_ok R w c) {t : Nat} (ht : t < R) : ∀ n r, r < R → ww_T R w c k 0 t r = n → n < 1000000 → ww_T R w c k 0 r t < 1000000 := by
  intro n
  induction n using Nat.strongRecOn with
  | ind n ih =>
    intro r hr hn hk
    have hT := ww_T_ok hok k 0 t
    by_cases htg : ww_tg w k 0 t r
    · have e : r = t := htg.2 rfl
      subst e
      omega
    · obtain ⟨p, q, hE, e⟩ := hT.2.2.2 r hr htg (by omega)
      have hg := ww_gr hok r p q hE
      have h1 := ih (ww_T R w c k 0 t q) (by omega) q hE.2.2.1 rfl (by omega)
      obtain ⟨g1, g2, g3, g4, x, gx, ex, gk, p', gp', ep'⟩ := hE
      exact ww_back hok (q := q) (r := r) (p := p') ⟨g3, gp', hr, fun h => g4 h.symm, x, gx, ep', gk, p, g2, ex⟩ _ t ht rfl h1
theorem ww_sym (hok : ww_ok R w c) {r t : Nat} (hr : r < R) (ht : t < R) : ww_T R w c k 0 t r < 1000000 ↔ ww_T R w c k 0 r t < 1000000 := ⟨fun h => ww_sym1 hok ht _ r hr rfl h, fun h => ww_sym1 hok hr _ t ht rfl h⟩
end
