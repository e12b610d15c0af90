/-! the world at the beginning -/
def h0 : mH := fun a => if a = 2 ∨ a = 19 ∨ a = 36 then fun _ => 50 else if a = 1 ∨ a = 18 ∨ a = 35 then fun i => if i = 1 then 2 else 0 else if a = 60 then fun i => if i = 3 then 2 else if 4 ≤ i ∧ i < 9 then 50 else 0 else fun _ => 0
theorem h0_eq : cS h0 = mS h0 := by
  have e : cv 1 h0 = mv 60 h0 := by
    funext i
    rcases Nat.lt_or_ge i 89 with q | q
    · have : ∀ i, i < 89 → cv 1 h0 i = mv 60 h0 i := by decide +kernel
      exact this i q
    · unfold cv mv
      rw [if_neg (by omega), if_neg (by omega), if_neg (by omega), if_neg (by omega), if_neg (by omega), if_neg (by omega), if_neg (by omega), if_neg (by omega)]
  show (cv 1 h0, _) = (mv 60 h0, _)
  rw [e]
  rfl
theorem h0_gd : gdN (cv 1 h0) 0 0 := by
  have f1 : ∀ t, t < 5 → cv 1 h0 (4 + t) = nI 50 := by decide +kernel
  have f2 : ∀ k, k < 10 → ∀ t, t < 5 → cv 1 h0 (9 + 7 * k + t) = nI 0 := by decide +kernel
  have f3 : ∀ k, k < 10 → cv 1 h0 (9 + 7 * k + 6) = 0 := by decide +kernel
  have f4 : ∀ m, m < 5 → cv 1 h0 (79 + 2 * m) = nI 0 := by decide +kernel
  have f5 : ∀ m, m < 5 → cv 1 h0 (79 + 2 * m + 1) = nI 0 := by decide +kernel
  refine ⟨by decide, rfl, by decide, rfl, ⟨0, by decide, rfl⟩, ⟨2, by decide, rfl⟩, fun t ht => ⟨50, by decide, f1 t ht⟩, fun k t hk ht => ⟨0, by decide, f2 k hk t ht⟩, fun k hk => absurd hk (Nat.not_lt_zero k), fun k hk => Or.inl (f3 k hk), fun m hm => ⟨0, by decide, f4 m hm⟩, fun m hm => ⟨0, by decide, f5 m hm⟩, fun i hi => ?_⟩
  unfold cv
  rw [if_neg (by omega), if_neg (by omega), if_neg (by omega), if_neg (by omega), if_neg (by omega), if_neg (by omega), if_neg (by omega)]
theorem h0_inv : Inv h0 := ⟨h0_eq, ⟨0, 0, h0_gd⟩, Or.inl rfl, ⟨0, fun _ => 0, rfl, by decide, fun i hi => absurd hi (Nat.not_lt_zero i)⟩, 0, by decide, rfl⟩
