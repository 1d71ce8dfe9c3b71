/-- the distances: 1000000 stands for none -/
noncomputable def ww_T (R : Nat) (w c k : Nat → Int32) (ov : Int32) (t : Nat) : Nat → Nat := Classical.epsilon (fun D => dm_ok R (ww_tg w k ov t) (ww_E R w k) (ww_c c) 1000000 D)
theorem ww_T_ok {R : Nat} {w c : Nat → Int32} (hok : ww_ok R w c) (k : Nat → Int32) (ov : Int32) (t : Nat) : dm_ok R (ww_tg w k ov t) (ww_E R w k) (ww_c c) 1000000 (ww_T R w c k ov t) := Classical.epsilon_spec (dm_ex (ww_gr hok) 1000000)
/-- a question that is asked of routers and aims that there are -/
def asks (R : Nat) (x ov z : Int32) (r t : Nat) : Prop := r < R ∧ x = nI r ∧ z = nI t ∧ (ov ≠ 0 → t < 16) ∧ (ov = 0 → t < R)
def come (R : Nat) (w c k : Nat → Int32) (x ov z : Int32) (r t : Nat) : Prop := asks R x ov z r t ∧ ww_T R w c k ov t r < 1000000
section
variable {R : Nat} {w c k : Nat → Int32} {x ov z v v' : Int32} {r t r' t' : Nat}
theorem asks_t (hR : R ≤ 10) (h : asks R x ov z r t) : t < 16 := by
  by_cases h0 : ov = 0
  · have := h.2.2.2.2 h0
    omega
  · exact h.2.2.2.1 h0
theorem asks_one (hR : R ≤ 10) (h : asks R x ov z r t) (h' : asks R x ov z r' t') : r = r' ∧ t = t' := by
  have h1 := asks_t hR h
  have h2 := asks_t hR h'
  have h3 := h.1
  have h4 := h'.1
  exact ⟨(nI_eq (by omega) (by omega)).mp (h.2.1.symm.trans h'.2.1), (nI_eq (by omega) (by omega)).mp (h.2.2.1.symm.trans h'.2.2.1)⟩
theorem come_up (hok : ww_ok R w c) (h : come R w c k x ov z r t) : ov ≠ 0 → k t = 0 := by
  intro h0
  apply Classical.byContradiction
  intro hk
  exact dm_none (ww_gr hok) (ww_T_ok hok k ov t) (fun a _ htg => hk (htg.1 h0).1) _ r h.1.1 rfl h.2
theorem come_aim (hok : ww_ok R w c) (h : ∃ r t, come R w c k x ov z r t) : aim R k ov z := by
  obtain ⟨r, t, h⟩ := h
  exact ⟨fun h0 => ⟨t, h.1.2.2.2.1 h0, h.1.2.2.1, come_up hok h h0⟩, fun h0 => ⟨t, h.1.2.2.2.2 h0, h.1.2.2.1⟩⟩
theorem come_r (h : ∃ r t, come R w c k x ov z r t) : ix x R := by
  obtain ⟨r, t, h⟩ := h
  exact ⟨r, h.1.1, h.1.2.1⟩
theorem aim_t (h : aim R k ov z) : ∃ t, z = nI t ∧ (ov ≠ 0 → t < 16 ∧ k t = 0) ∧ (ov = 0 → t < R) := by
  by_cases h0 : ov = 0
  · obtain ⟨t, h1, h2⟩ := h.2 h0
    exact ⟨t, h2, fun h => absurd h0 h, fun _ => h1⟩
  · obtain ⟨t, h1, h2, h3⟩ := h.1 h0
    exact ⟨t, h2, fun _ => ⟨h1, h3⟩, fun h => absurd h h0⟩
theorem come_no (hR : R ≤ 10) (h : asks R x ov z r t) (hK : 1000000 ≤ ww_T R w c k ov t r) : ¬ ∃ r t, come R w c k x ov z r t := by
  rintro ⟨r', t', h1, h2⟩
  obtain ⟨rfl, rfl⟩ := asks_one hR h h1
  omega
theorem come_one (hR : R ≤ 10) (h : come R w c k x ov z r t) (h' : come R w c k x ov z r' t') : r = r' ∧ t = t' := asks_one hR h.1 h'.1
/-- the answers of far, port and next -/
def fa_ok (R : Nat) (w c k : Nat → Int32) (x ov z v : Int32) : Prop := (∃ r t, come R w c k x ov z r t ∧ v = nI (ww_T R w c k ov t r)) ∨ (v = -1 ∧ ¬ ∃ r t, come R w c k x ov z r t)
def po_ok (R : Nat) (w c k : Nat → Int32) (x ov z v : Int32) : Prop := (∃ r t, come R w c k x ov z r t ∧ ∃ q1, fw_ok R w c k ov t 1000000 (ww_T R w c k ov t) r v q1) ∨ (v = -1 ∧ ¬ ∃ r t, come R w c k x ov z r t)
def nx_ok (R : Nat) (w c k : Nat → Int32) (x ov z v : Int32) : Prop := (∃ r t, come R w c k x ov z r t ∧ ∃ p1, fw_ok R w c k ov t 1000000 (ww_T R w c k ov t) r p1 v) ∨ (v = -1 ∧ ¬ ∃ r t, come R w c k x ov z r t)
theorem fa_one (hR : R ≤ 10) (h : fa_ok R w c k x ov z v) (h' : fa_ok R w c k x ov z v') : v = v' := by
  rcases h with ⟨r, t, a1, a2⟩ | ⟨a1, a2⟩ <;> rcases h' with ⟨r', t', b1, b2⟩ | ⟨b1, b2⟩
  · obtain ⟨rfl, rfl⟩ := come_one hR a1 b1
    rw [a2, b2]
  · exact absurd ⟨r, t, a1⟩ b2
  · exact absurd ⟨r', t', b1⟩ a2
  · rw [a1, b1]
theorem fw_one {K : Nat} {T : Nat → Nat} {p1 q1 p1' q1' : Int32} (h : fw_ok R w c k ov t K T r p1 q1) (h' : fw_ok R w c k ov t K T r p1' q1') : p1 = p1' ∧ q1 = q1' := by
  by_cases htg : ww_tg w k ov t r
  · obtain ⟨a1, a2, a3⟩ := h.1 htg
    obtain ⟨b1, b2, b3⟩ := h'.1 htg
    refine ⟨?_, a1.trans b1.symm⟩
    by_cases h0 : ov = 0
    · rw [a2 h0, b2 h0]
    · exact ww_po_one (a3 h0) (b3 h0)
  · obtain ⟨p, b, a1, a2, a3⟩ := h.2 htg
    obtain ⟨p', b', b1, b2, b3⟩ := h'.2 htg
    obtain ⟨rfl, rfl⟩ := dm_way_one a3 b3
    exact ⟨a1.trans b1.symm, a2.trans b2.symm⟩
theorem po_one (hR : R ≤ 10) (h : po_ok R w c k x ov z v) (h' : po_ok R w c k x ov z v') : v = v' := by
  rcases h with ⟨r, t, a1, q1, a2⟩ | ⟨a1, a2⟩ <;> rcases h' with ⟨r', t', b1, q1', b2⟩ | ⟨b1, b2⟩
  · obtain ⟨rfl, rfl⟩ := come_one hR a1 b1
    exact (fw_one a2 b2).1
  · exact absurd ⟨r, t, a1⟩ b2
  · exact absurd ⟨r', t', b1⟩ a2
  · rw [a1, b1]
theorem nx_one (hR : R ≤ 10) (h : nx_ok R w c k x ov z v) (h' : nx_ok R w c k x ov z v') : v = v' := by
  rcases h with ⟨r, t, a1, q1, a2⟩ | ⟨a1, a2⟩ <;> rcases h' with ⟨r', t', b1, q1', b2⟩ | ⟨b1, b2⟩
  · obtain ⟨rfl, rfl⟩ := come_one hR a1 b1
    exact (fw_one a2 b2).2
  · exact absurd ⟨r, t, a1⟩ b2
  · exact absurd ⟨r', t', b1⟩ a2
  · rw [a1, b1]
/-- the way leads on, and nearer -/
theorem fw_r1 (hok : ww_ok R w c) {T : Nat → Nat} {a : Nat} {p1 q1 : Int32} (hT : dm_ok R (ww_tg w k ov t) (ww_E R w k) (ww_c c) 1000000 T) (h : fw_ok R w c k ov t 1000000 T a p1 q1) (haR : a < R) (haK : T a < 1000000) (hi : ix q1 R) : ∃ b, q1 = nI b ∧ b < R ∧ T b < T a ∧ ¬ ww_tg w k ov t a ∧ ∃ p, dm_way (ww_E R w k) (ww_c c) 1000000 T a p b := by
  by_cases htg : ww_tg w k ov t a
  · have := (h.1 htg).1
    rw [this] at hi
    exact absurd hi (ix_nm (by have := hok.2.1; omega))
  · obtain ⟨p, b, a1, a2, a3⟩ := h.2 htg
    obtain ⟨hb, hl⟩ := dm_way_less (ww_gr hok) hT haR htg haK a3
    exact ⟨b, a2, hb, hl, htg, p, a3⟩
theorem fw_r0 {T : Nat → Nat} {K a : Nat} {p1 q1 : Int32} (h : fw_ok R w c k ov t K T a p1 q1) (hi : ¬ ix q1 R) : ww_tg w k ov t a := by
  apply Classical.byContradiction
  intro htg
  obtain ⟨p, b, a1, a2, a3⟩ := h.2 htg
  exact hi ⟨b, a3.1.2.2.1, a2⟩
end
/-- the walk: after n steps from r it is at a -/
def wks (tg : Nat → Prop) (E : Nat → Nat → Nat → Prop) (cs : Nat → Nat → Nat) (K : Nat) (T : Nat → Nat) : Nat → Nat → Nat → Prop
  | 0, r, a => a = r
  | n + 1, r, a => ∃ b, wks tg E cs K T n r b ∧ ¬ tg b ∧ ∃ p, dm_way E cs K T b p a
section
variable {R : Nat} {tg : Nat → Prop} {E : Nat → Nat → Nat → Prop} {cs : Nat → Nat → Nat} {K : Nat} {T : Nat → Nat}
theorem wks_one : ∀ {n r a a' : Nat}, wks tg E cs K T n r a → wks tg E cs K T n r a' → a = a' := by
  intro n
  induction n with
  | zero => intro r a a' h h'; exact h.trans h'.symm
  | succ n ih =>
    intro r a a' h h'
    obtain ⟨b, h1, h2, p, h3⟩ := h
    obtain ⟨b', g1, g2, p', g3⟩ := h'
    have := ih h1 g1
    subst this
    exact (dm_way_one h3 g3).2
theorem wks_stop {r m : Nat} (h : ¬ ∃ a, wks tg E cs K T m r a) : ∀ n, ¬ ∃ a, wks tg E cs K T (m + n) r a := by
  intro n
  induction n with
  | zero => exact h
  | succ n ih =>
    rintro ⟨a, b, h1, -⟩
    exact ih ⟨b, h1⟩
theorem wks_end {r m a : Nat} (h : wks tg E cs K T m r a) (ht : tg a) : ¬ ∃ b, wks tg E cs K T (m + 1) r b := by
  rintro ⟨b, a', h1, h2, -⟩
  have := wks_one h h1
  subst this
  exact h2 ht
theorem wks_rk (hg : dm_gr R E cs) (hD : dm_ok R tg E cs K T) {r : Nat} (hr : r < R) (hk : T r < K) : ∀ n a, wks tg E cs K T n r a → a < R ∧ T a < K ∧ n + dm_rk T R (T a) ≤ dm_rk T R (T r) := by
  intro n
  induction n with
  | zero =>
    intro a h
    have h' : a = r := h
    subst h'
    exact ⟨hr, hk, by omega⟩
  | succ n ih =>
    intro a h
    obtain ⟨b, h1, h2, p, h3⟩ := h
    obtain ⟨g1, g2, g3⟩ := ih b h1
    obtain ⟨k1, k2⟩ := dm_way_less hg hD g1 h2 g2 h3
    have := dm_rk_lt (D := T) (R := R) k1 k2
    exact ⟨k1, by omega, by omega⟩
theorem wks_R (hg : dm_gr R E cs) (hD : dm_ok R tg E cs K T) {r n : Nat} (hr : r < R) (hk : T r < K) (hn : R ≤ n) : ¬ ∃ a, wks tg E cs K T n r a := by
  rintro ⟨a, h⟩
  have h1 := (wks_rk hg hD hr hk n a h).2.2
  have h2 := dm_rk_R (D := T) hr
  omega
end
def wk_ok (R : Nat) (w c k : Nat → Int32) (x ov z kk v : Int32) : Prop :=
  (∃ r t m, come R w c k x ov z r t ∧ m < 2 ^ 31 ∧ kk = nI m ∧ ((∃ a, v = nI a ∧ wks (ww_tg w k ov t) (ww_E R w k) (ww_c c) 1000000 (ww_T R w c k ov t) m r a) ∨ (v = -1 ∧ ¬ ∃ a, wks (ww_tg w k ov t) (ww_E R w k) (ww_c c) 1000000 (ww_T R w c k ov t) m r a))) ∨ (v = -1 ∧ (kk < 0 ∨ ¬ ∃ r t, come R w c k x ov z r t))
section
variable {R : Nat} {w c k : Nat → Int32} {x ov z kk v v' : Int32}
theorem wk_one (hR : R ≤ 10) (h : wk_ok R w c k x ov z kk v) (h' : wk_ok R w c k x ov z kk v') : v = v' := by
  rcases h with ⟨r, t, m, a1, a2, a3, a4⟩ | ⟨a1, a2⟩ <;> rcases h' with ⟨r', t', m', b1, b2, b3, b4⟩ | ⟨b1, b2⟩
  · obtain ⟨rfl, rfl⟩ := come_one hR a1 b1
    have := (nI_eq a2 b2).mp (a3.symm.trans b3)
    subst this
    rcases a4 with ⟨a, e1, e2⟩ | ⟨e1, e2⟩ <;> rcases b4 with ⟨a', f1, f2⟩ | ⟨f1, f2⟩
    · rw [e1, f1, wks_one e2 f2]
    · exact absurd ⟨a, e2⟩ f2
    · exact absurd ⟨a', f2⟩ e2
    · rw [e1, f1]
  · rcases b2 with b2 | b2
    · rw [a3] at b2
      exact absurd b2 (nI_pos a2)
    · exact absurd ⟨r, t, a1⟩ b2
  · rcases a2 with a2 | a2
    · rw [b3] at a2
      exact absurd a2 (nI_pos b2)
    · exact absurd ⟨r', t', b1⟩ a2
  · rw [a1, b1]
theorem wk_big (hok : ww_ok R w c) (h0 : ¬ kk < 0) (h : nI R ≤ kk) : wk_ok R w c k x ov z kk (-1) := by
  by_cases hc : ∃ r t, come R w c k x ov z r t
  · obtain ⟨r, t, hc⟩ := hc
    obtain ⟨m, hm, em⟩ := nI_of h0
    refine Or.inl ⟨r, t, m, hc, hm, em, Or.inr ⟨rfl, ?_⟩⟩
    rw [em] at h
    have hR := hok.2.1
    exact wks_R (ww_gr hok) (ww_T_ok hok k ov t) hc.1.1 hc.2 ((nI_leI (by omega) hm).mp h)
  · exact Or.inr ⟨rfl, Or.inr hc⟩
end
theorem cnt_t {P : Nat → Bool} {a n : Nat} (h : n = dm_cnt P a) (hp : P a = true) : n + 1 = dm_cnt P (a + 1) := by
  show n + 1 = dm_cnt P a + (if P a = true then 1 else 0)
  rw [if_pos hp, h]
theorem cnt_f {P : Nat → Bool} {a n : Nat} (h : n = dm_cnt P a) (hp : ¬ P a = true) : n = dm_cnt P (a + 1) := by
  show n = dm_cnt P a + (if P a = true then 1 else 0)
  rw [if_neg hp, h]
  rfl
def mx1 (T : Nat → Nat) (K : Nat) : Nat → Nat → Nat
  | 0, g => g
  | n + 1, g => if T n < K ∧ mx1 T K n g < T n then T n else mx1 T K n g
def mx2 (TT : Nat → Nat → Nat) (K R : Nat) : Nat → Nat
  | 0 => 0
  | n + 1 => mx1 (TT n) K R (mx2 TT K R n)
theorem mx1_le {T : Nat → Nat} {K g : Nat} (hg : g ≤ K) : ∀ n, mx1 T K n g ≤ K := by
  intro n
  induction n with
  | zero => exact hg
  | succ n ih =>
    show (if T n < K ∧ mx1 T K n g < T n then T n else mx1 T K n g) ≤ K
    split
    · omega
    · exact ih
theorem mx2_le (TT : Nat → Nat → Nat) (K R : Nat) : ∀ n, mx2 TT K R n ≤ K := by
  intro n
  induction n with
  | zero => exact Nat.zero_le _
  | succ n ih => exact mx1_le ih R
theorem mx1_t {T : Nat → Nat} {K n g h : Nat} (e : h = mx1 T K n g) (h1 : T n < K) (h2 : h < T n) : T n = mx1 T K (n + 1) g := by
  show T n = if T n < K ∧ mx1 T K n g < T n then T n else mx1 T K n g
  rw [if_pos ⟨h1, by omega⟩]
theorem mx1_f {T : Nat → Nat} {K n g h : Nat} (e : h = mx1 T K n g) (hn : ¬ (T n < K ∧ h < T n)) : h = mx1 T K (n + 1) g := by
  show h = if T n < K ∧ mx1 T K n g < T n then T n else mx1 T K n g
  rw [if_neg (by rw [← e]; exact hn), e]
def rc_ok (R : Nat) (w c k : Nat → Int32) (x v : Int32) : Prop := (∃ r, r < R ∧ x = nI r ∧ v = nI (dm_cnt (fun a => decide (ww_T R w c k 0 r a < 1000000)) R)) ∨ (v = -1 ∧ ¬ ix x R)
noncomputable def ww_mx (R : Nat) (w c k : Nat → Int32) : Nat := mx2 (fun t => ww_T R w c k 0 t) 1000000 R R
def ct_ok (R : Nat) (w c k : Nat → Int32) (x v : Int32) : Prop := (x = 0 ∧ v = nI R) ∨ (x = 1 ∧ v = nI (dm_cnt (fun a => decide (w a ≠ -1)) 40)) ∨ (x = 2 ∧ v = nI (dm_cnt (fun a => decide (k a ≠ 0)) 16)) ∨ (x = 3 ∧ v = nI (ww_mx R w c k)) ∨ (x ≠ 0 ∧ x ≠ 1 ∧ x ≠ 2 ∧ x ≠ 3 ∧ v = -1)
theorem rc_one {R : Nat} {w c k : Nat → Int32} {x v v' : Int32} (hR : R ≤ 10) (h : rc_ok R w c k x v) (h' : rc_ok R w c k x v') : v = v' := by
  rcases h with ⟨r, a1, a2, a3⟩ | ⟨a1, a2⟩ <;> rcases h' with ⟨r', b1, b2, b3⟩ | ⟨b1, b2⟩
  · have := (nI_eq (by omega) (by omega)).mp (a2.symm.trans b2)
    subst this
    rw [a3, b3]
  · exact absurd ⟨r, a1, a2⟩ b2
  · exact absurd ⟨r', b1, b2⟩ a2
  · rw [a1, b1]
theorem ct_one {R : Nat} {w c k : Nat → Int32} {x v v' : Int32} (h : ct_ok R w c k x v) (h' : ct_ok R w c k x v') : v = v' := by
  rcases h with ⟨a1, a2⟩ | ⟨a1, a2⟩ | ⟨a1, a2⟩ | ⟨a1, a2⟩ | ⟨a1, a2, a3, a4, a5⟩ <;> rcases h' with ⟨b1, b2⟩ | ⟨b1, b2⟩ | ⟨b1, b2⟩ | ⟨b1, b2⟩ | ⟨b1, b2, b3, b4, b5⟩ <;> first | exact absurd (a1.symm.trans b1) (by decide) | exact a2.trans b2.symm | exact a5.trans b5.symm | exact absurd a1 b1 | exact absurd a1 b2 | exact absurd a1 b3 | exact absurd a1 b4 | exact absurd b1 a1 | exact absurd b1 a2 | exact absurd b1 a3 | exact absurd b1 a4
theorem tb4 {x : Int32} (h0 : ¬ x = 0) (h1 : ¬ x = 1) (h2 : ¬ x = 2) (h3 : ¬ x = 3) : x.toInt < 0 ∨ 3 < x.toInt := by
  have g : ∀ y : Int32, ¬ x = y → ¬ x.toInt = y.toInt := fun y h e => h (Int32.toInt_inj.mp e)
  have g0 := g 0 h0
  have g1 := g 1 h1
  have g2 := g 2 h2
  have g3 := g 3 h3
  rw [show (0 : Int32).toInt = 0 from rfl] at g0
  rw [show (1 : Int32).toInt = 1 from rfl] at g1
  rw [show (2 : Int32).toInt = 2 from rfl] at g2
  rw [show (3 : Int32).toInt = 3 from rfl] at g3
  omega
