/-! The graph that a state is: port q of router r leads to router b if both are on a wire that is up. -/
def ww_E (R : Nat) (w k : Nat → Int32) (r q b : Nat) : Prop := r < R ∧ q < 4 ∧ b < R ∧ b ≠ r ∧ ∃ x, x < 16 ∧ w (4 * r + q) = nI x ∧ k x = 0 ∧ ww_on w b (nI x)
def ww_c (c : Nat → Int32) (r q : Nat) : Nat := (c (4 * r + q)).toNatClampNeg
/-- what holds of every state -/
def ww_ok (R : Nat) (w c : Nat → Int32) : Prop := 1 ≤ R ∧ R ≤ 10 ∧ (∀ a, a < 40 → w a = -1 ∨ ix (w a) 16) ∧ (∀ a, a < 40 → w a ≠ -1 → okc (c a))
/-- the routers that are the aim, or on it -/
def ww_tg (w k : Nat → Int32) (ov : Int32) (t r : Nat) : Prop := (ov ≠ 0 → k t = 0 ∧ ww_on w r (nI t)) ∧ (ov = 0 → r = t)
theorem ww_c_ok {R : Nat} {w c : Nat → Int32} (h : ww_ok R w c) {r q x : Nat} (hr : r < R) (hq : q < 4) (hx : x < 16) (e : w (4 * r + q) = nI x) : c (4 * r + q) = nI (ww_c c r q) ∧ 1 ≤ ww_c c r q ∧ ww_c c r q ≤ 9 := by
  obtain ⟨h1, h2, h3, h4⟩ := h
  obtain ⟨y, y1, y9, ey⟩ := h4 (4 * r + q) (by omega) (by rw [e]; exact nI_m1 (by omega))
  have ec : ww_c c r q = y := by
    show (c (4 * r + q)).toNatClampNeg = y
    rw [ey]
    exact nI_clamp (by omega)
  rw [ec]
  exact ⟨ey, y1, y9⟩
theorem ww_gr {R : Nat} {w c k : Nat → Int32} (h : ww_ok R w c) : dm_gr R (ww_E R w k) (ww_c c) := by
  rintro r q b ⟨h1, h2, h3, h4, x, hx, ex, -⟩
  have := ww_c_ok h h1 h2 hx ex
  exact ⟨h3, h4, this.2.1, this.2.2⟩
def nup (f : Nat → Nat) (k v : Nat) : Nat → Nat := fun j => if j = k then v else f j
theorem nup_s {f : Nat → Nat} {k v : Nat} : nup f k v k = v := if_pos rfl
theorem nup_n {f : Nat → Nat} {k v j : Nat} (h : j ≠ k) : nup f k v j = f j := if_neg h
theorem row_up {N : Nat} {f : Nat → Int32} {g : Nat → Nat} (h : ∀ x, x < N → f x = nI (g x)) (i v : Nat) : ∀ x, x < N → upd f i (nI v) x = nI (nup g i v x) := fun x hx => by
  by_cases e : x = i
  · subst e
    rw [pk_us, nup_s]
  · rw [pk_un e, nup_n e]
    exact h x hx
theorem up_all {f : Nat → Int32} {i : Nat} {v : Int32} (h : ∀ x, x < i → f x = v) : ∀ x, x < i + 1 → upd f i v x = v := fun x hx => by
  by_cases e : x = i
  · subst e
    exact pk_us
  · rw [pk_un e]
    exact h x (by omega)
/-- nearest: for each wire the least distance of a router on it, over the places that V names -/
def fn_ok (R : Nat) (w k : Nat → Int32) (K : Nat) (dn nn : Nat → Nat) (V : Nat → Nat → Prop) : Prop := ∀ x, x < 16 → nn x ≤ K ∧ (∀ r q, V r q → r < R → q < 4 → w (4 * r + q) = nI x → k x = 0 → nn x ≤ dn r) ∧ (nn x = K ∨ ∃ r q, r < R ∧ q < 4 ∧ w (4 * r + q) = nI x ∧ k x = 0 ∧ nn x = dn r)
section
variable {R K : Nat} {w c k : Nat → Int32} {dn nn dm : Nat → Nat} {r q x : Nat}
theorem fn_V {V V' : Nat → Nat → Prop} (h : fn_ok R w k K dn nn V) (hV : ∀ a b, a < R → b < 4 → V' a b → V a b) : fn_ok R w k K dn nn V' := fun x hx => ⟨(h x hx).1, fun a b hv ha hb => (h x hx).2.1 a b (hV a b ha hb hv) ha hb, (h x hx).2.2⟩
theorem fn_0 (V : Nat → Nat → Prop) (hV : ∀ a b, ¬ V a b) : fn_ok R w k K dn (fun _ => K) V := fun x _ => ⟨Nat.le_refl _, fun a b hv => absurd hv (hV a b), Or.inl rfl⟩
theorem fn_skip (h : fn_ok R w k K dn nn (fun a b => a < r ∨ (a = r ∧ b < q))) (hno : ¬ upw k (w (4 * r + q))) : fn_ok R w k K dn nn (fun a b => a < r ∨ (a = r ∧ b < q + 1)) := fun x hx => by
  refine ⟨(h x hx).1, fun a b hv ha hb e hk => ?_, (h x hx).2.2⟩
  by_cases hab : a = r ∧ b = q
  · obtain ⟨rfl, rfl⟩ := hab
    exact absurd ⟨x, hx, e, hk⟩ hno
  · exact (h x hx).2.1 a b (by omega) ha hb e hk
theorem fn_keep (h : fn_ok R w k K dn nn (fun a b => a < r ∨ (a = r ∧ b < q))) (hx : x < 16) (ex : w (4 * r + q) = nI x) (hle : nn x ≤ dn r) : fn_ok R w k K dn nn (fun a b => a < r ∨ (a = r ∧ b < q + 1)) := fun y hy => by
  refine ⟨(h y hy).1, fun a b hv ha hb e hk => ?_, (h y hy).2.2⟩
  by_cases hab : a = r ∧ b = q
  · obtain ⟨rfl, rfl⟩ := hab
    have : x = y := (nI_eq (by omega) (by omega)).mp (ex.symm.trans e)
    subst this
    exact hle
  · exact (h y hy).2.1 a b (by omega) ha hb e hk
theorem fn_put (h : fn_ok R w k K dn nn (fun a b => a < r ∨ (a = r ∧ b < q))) (hr : r < R) (hq : q < 4) (hx : x < 16) (ex : w (4 * r + q) = nI x) (hk0 : k x = 0) (hlt : dn r < nn x) : fn_ok R w k K dn (nup nn x (dn r)) (fun a b => a < r ∨ (a = r ∧ b < q + 1)) := fun y hy => by
  by_cases hxy : y = x
  · subst hxy
    rw [nup_s]
    refine ⟨Nat.le_trans (Nat.le_of_lt hlt) (h y hy).1, fun a b hv ha hb e hk => ?_, Or.inr ⟨r, q, hr, hq, ex, hk0, rfl⟩⟩
    by_cases hab : a = r ∧ b = q
    · obtain ⟨rfl, rfl⟩ := hab
      exact Nat.le_refl _
    · have := (h y hy).2.1 a b (by omega) ha hb e hk
      omega
  · rw [nup_n hxy]
    refine ⟨(h y hy).1, fun a b hv ha hb e hk => ?_, (h y hy).2.2⟩
    by_cases hab : a = r ∧ b = q
    · obtain ⟨rfl, rfl⟩ := hab
      exact absurd ((nI_eq (by omega) (by omega)).mp (e.symm.trans ex)) hxy
    · exact (h y hy).2.1 a b (by omega) ha hb e hk
/-- a round: every router's distance may come down by its ports that V names -/
def sd_ok (R : Nat) (w c k : Nat → Int32) (nn dn dm : Nat → Nat) (V : Nat → Nat → Prop) : Prop := ∀ r, r < R → dm r ≤ dn r ∧ (∀ q x, V r q → q < 4 → x < 16 → w (4 * r + q) = nI x → k x = 0 → dm r ≤ ww_c c r q + nn x) ∧ (dm r = dn r ∨ ∃ q x, q < 4 ∧ x < 16 ∧ w (4 * r + q) = nI x ∧ k x = 0 ∧ dm r = ww_c c r q + nn x)
theorem sd_V {V V' : Nat → Nat → Prop} (h : sd_ok R w c k nn dn dm V) (hV : ∀ a b, a < R → b < 4 → V' a b → V a b) : sd_ok R w c k nn dn dm V' := fun r hr => ⟨(h r hr).1, fun q x hv hq => (h r hr).2.1 q x (hV r q hr hq hv) hq, (h r hr).2.2⟩
theorem sd_0 (V : Nat → Nat → Prop) (hV : ∀ a b, ¬ V a b) : sd_ok R w c k nn dn dn V := fun r _ => ⟨Nat.le_refl _, fun q x hv => absurd hv (hV r q), Or.inl rfl⟩
theorem sd_skip (h : sd_ok R w c k nn dn dm (fun a b => a < r ∨ (a = r ∧ b < q))) (hno : ¬ upw k (w (4 * r + q))) : sd_ok R w c k nn dn dm (fun a b => a < r ∨ (a = r ∧ b < q + 1)) := fun a ha => by
  refine ⟨(h a ha).1, fun b x hv hb hx e hk => ?_, (h a ha).2.2⟩
  by_cases hab : a = r ∧ b = q
  · obtain ⟨rfl, rfl⟩ := hab
    exact absurd ⟨x, hx, e, hk⟩ hno
  · exact (h a ha).2.1 b x (by omega) hb hx e hk
theorem sd_keep (h : sd_ok R w c k nn dn dm (fun a b => a < r ∨ (a = r ∧ b < q))) (hx : x < 16) (ex : w (4 * r + q) = nI x) (hle : dm r ≤ ww_c c r q + nn x) : sd_ok R w c k nn dn dm (fun a b => a < r ∨ (a = r ∧ b < q + 1)) := fun a ha => by
  refine ⟨(h a ha).1, fun b y hv hb hy e hk => ?_, (h a ha).2.2⟩
  by_cases hab : a = r ∧ b = q
  · obtain ⟨rfl, rfl⟩ := hab
    have : x = y := (nI_eq (by omega) (by omega)).mp (ex.symm.trans e)
    subst this
    exact hle
  · exact (h a ha).2.1 b y (by omega) hb hy e hk
theorem sd_put (h : sd_ok R w c k nn dn dm (fun a b => a < r ∨ (a = r ∧ b < q))) (hq : q < 4) (hx : x < 16) (ex : w (4 * r + q) = nI x) (hk0 : k x = 0) (hlt : ww_c c r q + nn x < dm r) : sd_ok R w c k nn dn (nup dm r (ww_c c r q + nn x)) (fun a b => a < r ∨ (a = r ∧ b < q + 1)) := fun a ha => by
  by_cases har : a = r
  · subst har
    rw [nup_s]
    have h0 := h a ha
    refine ⟨by omega, fun b y hv hb hy e hk => ?_, Or.inr ⟨q, x, hq, hx, ex, hk0, rfl⟩⟩
    by_cases hab : b = q
    · subst hab
      have : x = y := (nI_eq (by omega) (by omega)).mp (ex.symm.trans e)
      subst this
      exact Nat.le_refl _
    · have := h0.2.1 b y (by omega) hb hy e hk
      omega
  · rw [nup_n har]
    refine ⟨(h a ha).1, fun b y hv hb hy e hk => ?_, (h a ha).2.2⟩
    exact (h a ha).2.1 b y (by omega) hb hy e hk
theorem sd_le (h : sd_ok R w c k nn dn dm (fun a b => a < r ∨ (a = r ∧ b < q))) {a : Nat} (ha : a < R) : dm a ≤ dn a := (h a ha).1
end
