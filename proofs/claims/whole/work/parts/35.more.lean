theorem tX_le {τ : Nat → Nat → Nat} {σ : St} {X : Nat → Bool} (h : ∀ i, τ 0 i ≤ 1) (i : Nat) : tX τ σ X 0 i ≤ 1 := by
  show (if 0 = 0 ∧ X i = true then 0 else if 0 = 1 ∧ X i = true ∧ ct_fails σ i = false then 1 else τ 0 i) ≤ 1
  split
  · omega
  · rw [if_neg (by omega)]
    exact h i
theorem ct_micro_n (σ : St) : (ct_micro σ).1 0 0 = σ.1 0 0 := by simp [ct_micro, ct_sl, ct_wl, ct_mul]
