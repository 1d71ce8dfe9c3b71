/-! Pure rows: least sums over a graph. R routers; tg: the routers that are the aim, or on it; E r p q: port p of router r leads to router q; cs r p: that port's cost; K: what stands for 'none'. -/
def dm_gr (R : Nat) (E : Nat → Nat → Nat → Prop) (cs : Nat → Nat → Nat) : Prop := ∀ r p q, E r p q → q < R ∧ q ≠ r ∧ 1 ≤ cs r p ∧ cs r p ≤ 9
/-- D is the row of distances, K standing for none -/
def dm_ok (R : Nat) (tg : Nat → Prop) (E : Nat → Nat → Nat → Prop) (cs : Nat → Nat → Nat) (K : Nat) (D : Nat → Nat) : Prop :=
  (∀ r, r < R → D r ≤ K) ∧ (∀ r, r < R → tg r → D r = 0) ∧ (∀ r p q, r < R → E r p q → D r ≤ cs r p + D q) ∧ (∀ r, r < R → ¬ tg r → D r < K → ∃ p q, E r p q ∧ D r = cs r p + D q)
def dm_sum (d : Nat → Nat) : Nat → Nat
  | 0 => 0
  | n + 1 => dm_sum d n + d n
theorem dm_sum_le {d e : Nat → Nat} : ∀ {n : Nat}, (∀ j, j < n → e j ≤ d j) → dm_sum e n ≤ dm_sum d n := by
  intro n
  induction n with
  | zero => intro _; exact Nat.le_refl _
  | succ n ih =>
    intro h
    have h1 := ih (fun j hj => h j (by omega))
    have h2 := h n (by omega)
    show dm_sum e n + e n ≤ dm_sum d n + d n
    omega
theorem dm_sum_lt {d e : Nat → Nat} {r : Nat} : ∀ {n : Nat}, r < n → (∀ j, j < n → e j ≤ d j) → e r < d r → dm_sum e n < dm_sum d n := by
  intro n
  induction n with
  | zero => intro h; omega
  | succ n ih =>
    intro hr h hl
    show dm_sum e n + e n < dm_sum d n + d n
    by_cases hrn : r = n
    · subst hrn
      have h1 := dm_sum_le (d := d) (e := e) (n := r) (fun j hj => h j (by omega))
      omega
    · have h1 := ih (by omega) (fun j hj => h j (by omega)) hl
      have h2 := h n (by omega)
      omega
def dm_cnt (P : Nat → Bool) : Nat → Nat
  | 0 => 0
  | n + 1 => dm_cnt P n + (if P n = true then 1 else 0)
theorem dm_cnt_le (P : Nat → Bool) (n : Nat) : dm_cnt P n ≤ n := by
  induction n with
  | zero => exact Nat.le_refl _
  | succ n ih =>
    show dm_cnt P n + (if P n = true then 1 else 0) ≤ n + 1
    split <;> omega
theorem dm_cnt_mono {P Q : Nat → Bool} : ∀ {n : Nat}, (∀ j, j < n → P j = true → Q j = true) → dm_cnt P n ≤ dm_cnt Q n := by
  intro n
  induction n with
  | zero => intro _; exact Nat.le_refl _
  | succ n ih =>
    intro h
    have h1 := ih (fun j hj => h j (by omega))
    have h2 := h n (by omega)
    show dm_cnt P n + (if P n = true then 1 else 0) ≤ dm_cnt Q n + (if Q n = true then 1 else 0)
    by_cases hp : P n = true
    · rw [if_pos hp, if_pos (h2 hp)]
      omega
    · rw [if_neg hp]
      split <;> omega
theorem dm_cnt_lt {P Q : Nat → Bool} {r : Nat} : ∀ {n : Nat}, r < n → (∀ j, j < n → P j = true → Q j = true) → ¬ P r = true → Q r = true → dm_cnt P n < dm_cnt Q n := by
  intro n
  induction n with
  | zero => intro h; omega
  | succ n ih =>
    intro hr h hp hq
    show dm_cnt P n + (if P n = true then 1 else 0) < dm_cnt Q n + (if Q n = true then 1 else 0)
    by_cases hrn : r = n
    · subst hrn
      have h1 := dm_cnt_mono (P := P) (Q := Q) (n := r) (fun j hj => h j (by omega))
      rw [if_neg hp, if_pos hq]
      omega
    · have h1 := ih (by omega) (fun j hj => h j (by omega)) hp hq
      have h2 := h n (by omega)
      by_cases hpn : P n = true
      · rw [if_pos hpn, if_pos (h2 hpn)]
        omega
      · rw [if_neg hpn]
        split <;> omega
theorem dm_cnt_0 {P : Nat → Bool} : ∀ {n : Nat}, dm_cnt P n = 0 → ∀ j, j < n → ¬ P j = true := by
  intro n
  induction n with
  | zero => intro _ j hj; omega
  | succ n ih =>
    intro h j hj hp
    have h' : dm_cnt P n + (if P n = true then 1 else 0) = 0 := h
    by_cases hjn : j = n
    · subst hjn
      rw [if_pos hp] at h'
      omega
    · exact ih (by omega) j (by omega) hp
/-- how many routers are nearer than v -/
def dm_rk (D : Nat → Nat) (R v : Nat) : Nat := dm_cnt (fun x => decide (D x < v)) R
theorem dm_rk_le (D : Nat → Nat) (R v : Nat) : dm_rk D R v ≤ R := dm_cnt_le _ _
theorem dm_rk_lt {D : Nat → Nat} {R v q : Nat} (hq : q < R) (h : D q < v) : dm_rk D R (D q) < dm_rk D R v := by
  refine dm_cnt_lt hq (fun j _ hj => ?_) ?_ ?_
  · have hj' := of_decide_eq_true hj
    exact decide_eq_true (by omega)
  · intro hj
    have hj' := of_decide_eq_true hj
    omega
  · exact decide_eq_true h
theorem dm_rk_R {D : Nat → Nat} {R r : Nat} (hr : r < R) : dm_rk D R (D r) < R := by
  have h : dm_rk D R (D r) < dm_cnt (fun _ => true) R := dm_cnt_lt hr (fun _ _ _ => rfl) (fun hj => by have hj' := of_decide_eq_true hj; omega) rfl
  exact Nat.lt_of_lt_of_le h (dm_cnt_le _ _)
section
variable {R : Nat} {tg : Nat → Prop} {E : Nat → Nat → Nat → Prop} {cs : Nat → Nat → Nat} {K : Nat} {D : Nat → Nat}
theorem dm_ex_aux (hg : dm_gr R E cs) : ∀ (n : Nat) (d : Nat → Nat), dm_sum d R < n → (∀ r, r < R → d r ≤ K) → (∀ r, r < R → tg r → d r = 0) → (∀ r, r < R → ¬ tg r → d r < K → ∃ p q, E r p q ∧ cs r p + d q ≤ d r) → ∃ D, dm_ok R tg E cs K D := by
  intro n
  induction n with
  | zero => intro d h; omega
  | succ n ih =>
    intro d hn h1 h2 h3
    by_cases hf : ∀ r p q, r < R → E r p q → d r ≤ cs r p + d q
    · exact ⟨d, h1, h2, hf, fun r hr ht hk => by
        obtain ⟨p, q, he, hle⟩ := h3 r hr ht hk
        exact ⟨p, q, he, Nat.le_antisymm (hf r p q hr he) hle⟩⟩
    · have hf' : ∃ r p q, r < R ∧ E r p q ∧ cs r p + d q < d r := by
        apply Classical.byContradiction
        intro hc
        refine hf (fun r p q hr he => ?_)
        apply Classical.byContradiction
        intro hv
        exact hc ⟨r, p, q, hr, he, by omega⟩
      obtain ⟨r, p, q, hr, he, hv⟩ := hf'
      obtain ⟨hq, hne, c1, c9⟩ := hg r p q he
      obtain ⟨d', hd'⟩ : ∃ d' : Nat → Nat, d' = fun j => if j = r then cs r p + d q else d j := ⟨_, rfl⟩
      have er : d' r = cs r p + d q := by rw [hd']; exact if_pos rfl
      have eo : ∀ j, j ≠ r → d' j = d j := fun j hj => by rw [hd']; exact if_neg hj
      have hle : ∀ j, d' j ≤ d j := fun j => by
        by_cases hj : j = r
        · subst hj
          omega
        · exact Nat.le_of_eq (eo j hj)
      refine ih d' ?_ ?_ ?_ ?_
      · have := dm_sum_lt (n := R) (d := d) (e := d') hr (fun j _ => hle j) (by omega)
        omega
      · intro j hj
        exact Nat.le_trans (hle j) (h1 j hj)
      · intro j hj ht
        have := h2 j hj ht
        have := hle j
        omega
      · intro j hj ht hk
        by_cases hjr : j = r
        · subst hjr
          exact ⟨p, q, he, by rw [er, eo q hne]; exact Nat.le_refl _⟩
        · rw [eo j hjr] at hk ⊢
          obtain ⟨p', q', he', hle'⟩ := h3 j hj ht hk
          exact ⟨p', q', he', Nat.le_trans (Nat.add_le_add_left (hle q') _) hle'⟩
/-- there are distances -/
theorem dm_ex (hg : dm_gr R E cs) (K : Nat) : ∃ D, dm_ok R tg E cs K D := by
  obtain ⟨d, h1, h2⟩ : ∃ d : Nat → Nat, (∀ r, tg r → d r = 0) ∧ (∀ r, ¬ tg r → d r = K) := by
    refine ⟨fun r => @ite _ (tg r) (Classical.propDecidable _) 0 K, fun r h => if_pos h, fun r h => if_neg h⟩
  refine dm_ex_aux hg (dm_sum d R + 1) d (Nat.lt_succ_self _) (fun r _ => ?_) (fun r _ h => h1 r h) (fun r _ h hk => ?_)
  · by_cases h : tg r
    · rw [h1 r h]
      exact Nat.zero_le _
    · exact Nat.le_of_eq (h2 r h)
  · exact absurd hk (by rw [h2 r h]; exact Nat.lt_irrefl _)
theorem dm_bound (hg : dm_gr R E cs) (hD : dm_ok R tg E cs K D) : ∀ n r, r < R → D r = n → n < K → n ≤ 9 * dm_rk D R n := by
  intro n
  induction n using Nat.strongRecOn with
  | ind n ih =>
    intro r hr hn hk
    by_cases ht : tg r
    · have := hD.2.1 r hr ht
      omega
    · obtain ⟨p, q, he, h⟩ := hD.2.2.2 r hr ht (by omega)
      obtain ⟨hq, hne, c1, c9⟩ := hg r p q he
      have h1 := ih (D q) (by omega) q hq rfl (by omega)
      have h2 : dm_rk D R (D q) < dm_rk D R n := dm_rk_lt hq (by omega)
      omega
theorem dm_small (hg : dm_gr R E cs) (hD : dm_ok R tg E cs K D) {r : Nat} (hr : r < R) (hk : D r < K) : D r ≤ 9 * R := by
  have h1 := dm_bound hg hD (D r) r hr rfl hk
  have h2 := dm_rk_le D R (D r)
  omega
/-- a row that is nowhere too small and that no port can lessen is the row of distances -/
theorem dm_fix (hg : dm_gr R E cs) (hD : dm_ok R tg E cs K D) {d : Nat → Nat} (h1 : ∀ r, r < R → D r ≤ d r) (hK : ∀ r, r < R → d r ≤ K) (h2 : ∀ r, r < R → tg r → d r = 0) (h3 : ∀ r p q, r < R → E r p q → d r ≤ cs r p + d q) : ∀ n r, r < R → D r = n → d r = n := by
  intro n
  induction n using Nat.strongRecOn with
  | ind n ih =>
    intro r hr hn
    have hle := hD.1 r hr
    have h1r := h1 r hr
    have hKr := hK r hr
    by_cases hk : D r < K
    · by_cases ht : tg r
      · have := h2 r hr ht
        omega
      · obtain ⟨p, q, he, h⟩ := hD.2.2.2 r hr ht hk
        obtain ⟨hq, hne, c1, c9⟩ := hg r p q he
        have e1 := ih (D q) (by omega) q hq rfl
        have e2 := h3 r p q hr he
        omega
    · omega
/-- one row for every K that is large enough -/
theorem dm_two (hg : dm_gr R E cs) {K' : Nat} {D' : Nat → Nat} (hD : dm_ok R tg E cs K D) (hD' : dm_ok R tg E cs K' D') (hK : 9 * R < K) (hK' : 9 * R < K') : ∀ r, r < R → (D r < K ↔ D' r < K') ∧ (D r < K → D r = D' r) := by
  have go : ∀ {K1 K2 : Nat} {D1 D2 : Nat → Nat}, dm_ok R tg E cs K1 D1 → dm_ok R tg E cs K2 D2 → 9 * R < K1 → 9 * R < K2 → ∀ n r, r < R → D1 r = n → n < K1 → D2 r ≤ n ∧ D2 r < K2 := by
    intro K1 K2 D1 D2 a1 a2 b1 b2 n
    induction n using Nat.strongRecOn with
    | ind n ih =>
      intro r hr hn hk
      have hs := dm_small hg a1 hr (by omega)
      by_cases ht : tg r
      · have := a2.2.1 r hr ht
        omega
      · obtain ⟨p, q, he, h⟩ := a1.2.2.2 r hr ht (by omega)
        obtain ⟨hq, hne, c1, c9⟩ := hg r p q he
        have e1 := ih (D1 q) (by omega) q hq rfl (by omega)
        have e2 := a2.2.2.1 r p q hr he
        omega
  intro r hr
  refine ⟨⟨fun h => (go hD hD' hK hK' _ r hr rfl h).2, fun h => (go hD' hD hK' hK _ r hr rfl h).2⟩, fun h => ?_⟩
  have x1 := go hD hD' hK hK' _ r hr rfl h
  have x2 := go hD' hD hK' hK _ r hr rfl x1.2
  omega
/-- 0 is the distance of the aim's own routers alone -/
theorem dm_zero (hg : dm_gr R E cs) (hD : dm_ok R tg E cs K D) (hK : 0 < K) {r : Nat} (hr : r < R) : D r = 0 ↔ tg r := by
  refine ⟨fun h => ?_, fun h => hD.2.1 r hr h⟩
  apply Classical.byContradiction
  intro ht
  obtain ⟨p, q, he, h'⟩ := hD.2.2.2 r hr ht (by omega)
  obtain ⟨hq, hne, c1, c9⟩ := hg r p q he
  omega
theorem dm_none (hg : dm_gr R E cs) (hD : dm_ok R tg E cs K D) (hn : ∀ r, r < R → ¬ tg r) : ∀ n r, r < R → D r = n → ¬ n < K := by
  intro n
  induction n using Nat.strongRecOn with
  | ind n ih =>
    intro r hr hn' hk
    obtain ⟨p, q, he, h'⟩ := hD.2.2.2 r hr (hn r hr) (by omega)
    obtain ⟨hq, hne, c1, c9⟩ := hg r p q he
    exact ih (D q) (by omega) q hq rfl (by omega)
/-- a whole round over all ports settles one router more -/
theorem dm_round (hg : dm_gr R E cs) (hD : dm_ok R tg E cs K D) {d d' : Nat → Nat} {m : Nat} (h1 : ∀ r, r < R → D r ≤ d' r) (h1' : ∀ r, r < R → d' r ≤ d r) (hK : ∀ r, r < R → d r ≤ K) (h2 : ∀ r, r < R → tg r → d r = 0) (h3 : ∀ r p q, r < R → E r p q → d' r ≤ cs r p + d q) (hc : dm_cnt (fun x => decide (D x < d x)) R ≤ m + 1) : dm_cnt (fun x => decide (D x < d' x)) R ≤ m := by
  by_cases hu : ∃ n r, r < R ∧ D r = n ∧ D r < d r
  · obtain ⟨n, ⟨r, hr, hn, hl⟩, hmin⟩ := pk_least (fun n => ∃ r, r < R ∧ D r = n ∧ D r < d r) hu
    have hset : ∀ q, q < R → D q < D r → d q = D q := fun q hq hlt => by
      have a := hmin (D q) (by omega)
      have b := h1 q hq
      have b' := h1' q hq
      apply Classical.byContradiction
      intro hne
      exact a ⟨q, hq, rfl, by omega⟩
    have hr' : ¬ D r < d' r := by
      have hKr := hK r hr
      by_cases ht : tg r
      · have := h2 r hr ht
        omega
      · obtain ⟨p, q, he, h⟩ := hD.2.2.2 r hr ht (by omega)
        obtain ⟨hq, hne, c1, c9⟩ := hg r p q he
        have e1 := hset q hq (by omega)
        have e2 := h3 r p q hr he
        omega
    have : dm_cnt (fun x => decide (D x < d' x)) R < dm_cnt (fun x => decide (D x < d x)) R := by
      refine dm_cnt_lt hr (fun j hj hp => ?_) (fun hp => hr' (of_decide_eq_true hp)) (decide_eq_true hl)
      have hp' := of_decide_eq_true hp
      have := h1' j hj
      exact decide_eq_true (by omega)
    omega
  · have h0 : dm_cnt (fun x => decide (D x < d' x)) R ≤ dm_cnt (fun _ => false) R := by
      refine dm_cnt_mono (fun j hj hp => ?_)
      have hp' := of_decide_eq_true hp
      have := h1' j hj
      exact absurd ⟨D j, j, hj, rfl, by omega⟩ hu
    have hz : ∀ n, dm_cnt (fun _ => false) n = 0 := by
      intro n
      induction n with
      | zero => rfl
      | succ n ih => show dm_cnt (fun _ => false) n + (if false = true then 1 else 0) = 0; rw [ih]; rfl
    rw [hz] at h0
    omega
/-- the way from r: the first of the least pairs -/
def dm_way (E : Nat → Nat → Nat → Prop) (cs : Nat → Nat → Nat) (K : Nat) (D : Nat → Nat) (r p q : Nat) : Prop :=
  E r p q ∧ D q < K ∧ ∀ p' q', E r p' q' → D q' < K → cs r p + D q < cs r p' + D q' ∨ (cs r p + D q = cs r p' + D q' ∧ (p < p' ∨ (p = p' ∧ q ≤ q')))
theorem dm_way_one {r p q p' q' : Nat} (h : dm_way E cs K D r p q) (h' : dm_way E cs K D r p' q') : p = p' ∧ q = q' := by
  have a := h.2.2 p' q' h'.1 h'.2.1
  have b := h'.2.2 p q h.1 h.2.1
  omega
/-- the way leads nearer -/
theorem dm_way_less (hg : dm_gr R E cs) (hD : dm_ok R tg E cs K D) {r p q : Nat} (hr : r < R) (ht : ¬ tg r) (hk : D r < K) (h : dm_way E cs K D r p q) : q < R ∧ D q < D r := by
  obtain ⟨p', q', he, e⟩ := hD.2.2.2 r hr ht hk
  obtain ⟨hq', hne', c1', c9'⟩ := hg r p' q' he
  obtain ⟨hq, hne, c1, c9⟩ := hg r p q h.1
  have a := h.2.2 p' q' he (by omega)
  exact ⟨hq, by omega⟩
end
