/-! Facts for the reference's walks. -/
abbrev tyM (cI cZ cJ : ClassId) : List (ClassId × FieldType) := [(cI, .int), (cZ, .boolean), (cJ, .long)]
theorem fr_put1 {σ : St} {i u : Nat} (h : σ.1 9 (u + 1) = i) : ct_sg (ct_fr σ i u) 9 (u + 1) 0 = ct_fr σ i (u + 1) := by
  refine Prod.ext (funext fun a => funext fun x => ?_) rfl
  show (if _ then _ else if _ then _ else _) = (if _ then _ else _)
  by_cases q : a = 9 ∧ x = u + 1
  · obtain ⟨rfl, rfl⟩ := q
    rw [if_pos ⟨rfl, rfl⟩, if_pos ⟨rfl, by omega, by omega, h⟩]
  · rw [if_neg q]
    have e : (a = 9 ∧ 1 ≤ x ∧ x ≤ u + 1 ∧ σ.1 9 x = i) ↔ (a = 9 ∧ 1 ≤ x ∧ x ≤ u ∧ σ.1 9 x = i) := by omega
    simp only [e]
theorem fr_put0 {σ : St} {i u : Nat} (h : ¬ σ.1 9 (u + 1) = i) : ct_sg (ct_fr σ i u) 9 (u + 1) ((ct_fr σ i u).1 9 (u + 1)) = ct_fr σ i (u + 1) := by
  rw [ct_fr_skip h]
  refine Prod.ext (funext fun a => funext fun x => ?_) rfl
  show (if _ then _ else _) = _
  split
  · rename_i q
    rw [q.1, q.2]
  · rfl
theorem fr_end2 {σ : St} (hv : ∀ t, t = 0 ∨ 16 < t → σ.1 9 t = 0) {i : Nat} (h1 : 1 ≤ i) : ct_fr (ct_sg (ct_sg σ 4 i 1) 7 i (σ.1 7 i + 1)) i 16 = ct_end σ i := by
  refine Prod.ext (funext fun a => funext fun x => ?_) rfl
  by_cases h4 : a = 4
  · subst h4
    simp [ct_sg, ct_fr, ct_end]
  · by_cases h7 : a = 7
    · subst h7
      simp [ct_sg, ct_fr, ct_end]
    · by_cases h9 : a = 9
      · subst h9
        by_cases q : 1 ≤ x ∧ x ≤ 16
        · simp [ct_sg, ct_fr, ct_end, q]
        · have := hv x (by omega)
          have q2 : ¬ σ.1 9 x = i := by omega
          simp [ct_sg, ct_fr, ct_end, q2]
      · simp [ct_sg, ct_fr, ct_end, h4, h7, h9]
theorem ct_new_eq {σ : St} {a b : Nat} : ct_new σ a b = ct_sl (ct_sg (ct_sg (ct_sg σ 0 0 (σ.1 0 0 + 1)) 1 (σ.1 0 0 + 1) a) 2 (σ.1 0 0 + 1) b) (σ.1 0 0 + 1) (-1) := by
  refine Prod.ext (funext fun k => funext fun x => ?_) rfl
  unfold ct_new
  by_cases h0 : k = 0
  · subst h0
    simp [ct_sg, ct_sl]
  · by_cases h1 : k = 1
    · subst h1
      simp [ct_sg, ct_sl]
    · simp [ct_sg, ct_sl, h0, h1]
theorem ct_W_note {σ : St} (h : ct_W σ) {e : Nat} : ct_W (ct_note σ e) := by
  obtain ⟨w1, w2, w3, w4⟩ := h
  refine ⟨by simpa [ct_note, ct_wl] using w1, fun x => by simpa [ct_note, ct_wl] using w2 x, fun t => by simpa [ct_note, ct_wl] using w3 t, fun t ht => by simpa [ct_note, ct_wl] using w4 t ht⟩
def mR (ρ : Nat → Nat) (σ : St) (k : Nat) : Nat → Nat := fun i => if 1 ≤ i ∧ i ≤ k then bN (ct_go σ i) else ρ i
theorem mR_0 (ρ : Nat → Nat) (σ : St) : mR ρ σ 0 = ρ := by
  funext i
  unfold mR
  rw [if_neg (by omega)]
theorem mR_s {ρ : Nat → Nat} {σ : St} {k : Nat} : va_up (mR ρ σ k) (k + 1) (bN (ct_go σ (k + 1))) = mR ρ σ (k + 1) := by
  funext i
  by_cases q : i = k + 1
  · subst q
    rw [va_up_self]
    unfold mR
    rw [if_pos ⟨by omega, by omega⟩]
  · rw [va_up_ne _ _ q]
    unfold mR
    by_cases z : 1 ≤ i ∧ i ≤ k
    · rw [if_pos z, if_pos ⟨z.1, by omega⟩]
    · rw [if_neg z, if_neg (by omega)]
theorem mR_in {ρ : Nat → Nat} {σ : St} {k i : Nat} (h1 : 1 ≤ i) (h2 : i ≤ k) : mR ρ σ k i = bN (ct_go σ i) := by
  unfold mR
  rw [if_pos ⟨h1, h2⟩]
theorem mR_at {ρ : Nat → Nat} {σ : St} {k : Nat} : mR ρ σ (k + 1) (k + 1) = bN (ct_go σ (k + 1)) := mR_in (by omega) (by omega)
theorem mR_le {ρ : Nat → Nat} (h : ∀ i, ρ i ≤ 1) (σ : St) (k : Nat) : ∀ i, mR ρ σ k i ≤ 1 := fun i => by
  unfold mR
  split
  · exact bN_le _
  · exact h i
