/-- among the routers below a: the nearest one on wire x other than r, or none -/
def no_in (w : Nat → Int32) (T : Nat → Nat) (K r : Nat) (x : Int32) (a : Nat) (bv : Int32) (lt : Nat) : Prop :=
  (bv = -1 ∧ lt = K ∧ ∀ b, b < a → b ≠ r → ww_on w b x → ¬ T b < K) ∨ ∃ b, b < a ∧ b ≠ r ∧ bv = nI b ∧ ww_on w b x ∧ T b = lt ∧ lt < K ∧ ∀ b', b' < a → b' ≠ r → ww_on w b' x → T b' < K → T b < T b' ∨ (T b = T b' ∧ b ≤ b')
section
variable {w : Nat → Int32} {T : Nat → Nat} {K r a lt : Nat} {x bv : Int32}
theorem no_0 : no_in w T K r x 0 (-1) K := Or.inl ⟨rfl, rfl, fun b h => absurd h (Nat.not_lt_zero b)⟩
theorem no_le (h : no_in w T K r x a bv lt) : lt ≤ K := by
  rcases h with ⟨-, h, -⟩ | ⟨b, -, -, -, -, -, h, -⟩ <;> omega
/-- the next one doesn't count, or isn't nearer -/
theorem no_skip (h : no_in w T K r x a bv lt) (hs : a ≠ r → ww_on w a x → lt ≤ T a) : no_in w T K r x (a + 1) bv lt := by
  rcases h with ⟨h1, h2, h3⟩ | ⟨b, h1, h2, h3, h4, h5, h6, h7⟩
  · refine Or.inl ⟨h1, h2, fun b hb hne hon => ?_⟩
    by_cases hba : b = a
    · subst hba
      have := hs hne hon
      omega
    · exact h3 b (by omega) hne hon
  · refine Or.inr ⟨b, by omega, h2, h3, h4, h5, h6, fun b' hb' hne hon hk => ?_⟩
    by_cases hba : b' = a
    · subst hba
      have := hs hne hon
      omega
    · exact h7 b' (by omega) hne hon hk
theorem no_put (h : no_in w T K r x a bv lt) (hne : a ≠ r) (hon : ww_on w a x) (hlt : T a < lt) : no_in w T K r x (a + 1) (nI a) (T a) := by
  have hK := no_le h
  refine Or.inr ⟨a, by omega, hne, rfl, hon, rfl, by omega, fun b' hb' hne' hon' hk => ?_⟩
  by_cases hba : b' = a
  · subst hba
    exact Or.inr ⟨rfl, Nat.le_refl _⟩
  · rcases h with ⟨h1, h2, h3⟩ | ⟨b, h1, h2, h3, h4, h5, h6, h7⟩
    · exact absurd hk (h3 b' (by omega) hne' hon')
    · have := h7 b' (by omega) hne' hon' hk
      omega
end
/-- among the ports below j of router r: the way, or none -/
def fw_in (E : Nat → Nat → Nat → Prop) (cs : Nat → Nat → Nat) (K : Nat) (T : Nat → Nat) (r j lt : Nat) (p1 q1 : Int32) : Prop :=
  (lt = K ∧ p1 = -1 ∧ q1 = -1 ∧ ∀ p b, p < j → E r p b → ¬ T b < K) ∨ ∃ p b, p < j ∧ p1 = nI p ∧ q1 = nI b ∧ E r p b ∧ T b < K ∧ lt = cs r p + T b ∧ ∀ p' b', p' < j → E r p' b' → T b' < K → lt < cs r p' + T b' ∨ (lt = cs r p' + T b' ∧ (p < p' ∨ (p = p' ∧ b ≤ b')))
section
variable {E : Nat → Nat → Nat → Prop} {cs : Nat → Nat → Nat} {K : Nat} {T : Nat → Nat} {r j lt b : Nat} {p1 q1 : Int32}
theorem fw_0 : fw_in E cs K T r 0 K (-1) (-1) := Or.inl ⟨rfl, rfl, rfl, fun p b h => absurd h (Nat.not_lt_zero p)⟩
/-- no pair of port j is better -/
theorem fw_skip (h : fw_in E cs K T r j lt p1 q1) (hs : ∀ b', E r j b' → T b' < K → lt ≤ cs r j + T b') (hk : lt = K → ∀ b', E r j b' → ¬ T b' < K) : fw_in E cs K T r (j + 1) lt p1 q1 := by
  rcases h with ⟨h1, h2, h3, h4⟩ | ⟨p, b, h1, h2, h3, h4, h5, h6, h7⟩
  · refine Or.inl ⟨h1, h2, h3, fun p b hp hE => ?_⟩
    by_cases hpj : p = j
    · subst hpj
      exact hk h1 b hE
    · exact h4 p b (by omega) hE
  · refine Or.inr ⟨p, b, by omega, h2, h3, h4, h5, h6, fun p' b' hp' hE' hk' => ?_⟩
    by_cases hpj : p' = j
    · subst hpj
      have := hs b' hE' hk'
      omega
    · exact h7 p' b' (by omega) hE' hk'
theorem fw_put (h : fw_in E cs K T r j lt p1 q1) (hE : E r j b) (hb : T b < K) (hlt : cs r j + T b < lt) (hn : ∀ b', E r j b' → T b' < K → T b < T b' ∨ (T b = T b' ∧ b ≤ b')) : fw_in E cs K T r (j + 1) (cs r j + T b) (nI j) (nI b) := by
  refine Or.inr ⟨j, b, by omega, rfl, rfl, hE, hb, rfl, fun p' b' hp' hE' hk' => ?_⟩
  by_cases hpj : p' = j
  · subst hpj
    have := hn b' hE' hk'
    omega
  · rcases h with ⟨h1, h2, h3, h4⟩ | ⟨p, b0, h1, h2, h3, h4, h5, h6, h7⟩
    · exact absurd hk' (h4 p' b' (by omega) hE')
    · have := h7 p' b' (by omega) hE' hk'
      omega
theorem fw_way (h : fw_in E cs K T r 4 lt p1 q1) (hE4 : ∀ p b, E r p b → p < 4) (hex : ∃ p b, E r p b ∧ T b < K) : ∃ p b, p1 = nI p ∧ q1 = nI b ∧ dm_way E cs K T r p b := by
  rcases h with ⟨h1, h2, h3, h4⟩ | ⟨p, b, h1, h2, h3, h4, h5, h6, h7⟩
  · obtain ⟨p, b, he, hb⟩ := hex
    exact absurd hb (h4 p b (hE4 p b he) he)
  · exact ⟨p, b, h2, h3, h4, h5, fun p' b' he hb => by
      have := h7 p' b' (hE4 p' b' he) he hb
      omega⟩
end
/-- the way's port and router, found for router r that can come to the aim -/
def fw_ok (R : Nat) (w c k : Nat → Int32) (ov : Int32) (t K : Nat) (T : Nat → Nat) (r : Nat) (p1 q1 : Int32) : Prop :=
  (ww_tg w k ov t r → q1 = -1 ∧ (ov = 0 → p1 = -1) ∧ (ov ≠ 0 → ww_po w r (nI t) p1)) ∧ (¬ ww_tg w k ov t r → ∃ p b, p1 = nI p ∧ q1 = nI b ∧ dm_way (ww_E R w k) (ww_c c) K T r p b)
section
variable {R K : Nat} {w c k : Nat → Int32} {T : Nat → Nat} {r j lt b x : Nat} {p1 q1 : Int32}
/-- what nearestOther says of the pairs of port j -/
theorem no_E (hx : x < 16) (ex : w (4 * r + j) = nI x) {b' : Nat} (hE : ww_E R w k r j b') : b' < R ∧ b' ≠ r ∧ ww_on w b' (w (4 * r + j)) := by
  obtain ⟨-, -, h1, h2, y, hy, ey, -, h3⟩ := hE
  exact ⟨h1, h2, by rw [ey]; exact h3⟩
theorem no_notup (hno : ¬ upw k (w (4 * r + j))) {b' : Nat} (hE : ww_E R w k r j b') : False := by
  obtain ⟨-, -, h1, h2, y, hy, ey, hk, h3⟩ := hE
  exact hno ⟨y, hy, ey, hk⟩
theorem ww_E4 {p : Nat} (hE : ww_E R w k r p b) : p < 4 := hE.2.1
end
