section
variable {R : Nat} {w c k : Nat → Int32} {dn dm Tm : Nat → Nat} {tg : Nat → Prop} {r b : Nat} {V : Nat → Nat → Nat → Prop}
theorem rk_b1 (h : rk_in R w c k dn dm b V) (hn : ¬ b = 0) : b = 1 := by
  rcases h with h | h
  · exact absurd h.1 hn
  · exact h.1
theorem rk_b2 (h : rk_in R w c k dn dm b V) : b ≤ 1 := by
  rcases h with h | h <;> omega
theorem rk_b0 {d : Nat → Int32} (hok : ww_ok R w c) (hT : dm_ok R tg (ww_E R w k) (ww_c c) 100000 Tm) (h : rk_row R tg Tm d dm) (hi : rk_in R w c k dn dm b (fun a _ _ => a < r)) (hr : R ≤ r) : (b = 0 ∧ ∀ a, a < R → dm a = Tm a) ∨ b = 1 := by
  by_cases hb : b = 0
  · subst hb
    exact Or.inl ⟨rfl, rk_fix hok hT h (rk_V hi (fun a p q ha _ _ _ => by omega))⟩
  · exact Or.inr (rk_b1 hi hb)
theorem rk_mu {fuel : Nat} (hi : rk_in R w c k dn dm b V) (hm : 2 * dm_sum dn R + 1 < fuel + 1) : 2 * dm_sum dm R + b < fuel := by
  rcases hi with ⟨h1, h2, h3⟩ | ⟨h1, h2⟩
  · have : dm_sum dm R ≤ dm_sum dn R := dm_sum_le (fun a ha => Nat.le_of_eq (h2 a ha))
    omega
  · omega
end
