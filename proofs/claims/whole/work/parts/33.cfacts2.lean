/-! Facts for a microsecond of the class. -/
def bN (b : Bool) : Nat := if b = true then 1 else 0
theorem bN_le (b : Bool) : bN b ≤ 1 := by cases b <;> decide
theorem bN_0 {b : Bool} (h : bN b = 0) : b = false := by cases b <;> simp_all [bN]
theorem bN_1 {b : Bool} (h : ¬ bN b = 0) : b = true := by cases b <;> simp_all [bN]
/-- what the end of a node rests on -/
def ct_W (σ : St) : Prop := σ.1 0 0 ≤ 30 ∧ (∀ i, σ.1 4 i ≤ 1) ∧ (∀ t, σ.1 9 t ≤ σ.1 0 0) ∧ ∀ t, t = 0 ∨ 16 < t → σ.1 9 t = 0
theorem ct_Inv.toW {σ : St} (h : ct_Inv σ) : ct_W σ := by
  refine ⟨h.1.1, fun i => ?_, h.2.2.2.1, h.2.2.2.2⟩
  by_cases q : 1 ≤ i ∧ i ≤ σ.1 0 0
  · exact (h.2.1 i q.1 q.2).2.2.2.2.2.1
  · have := (h.2.2.1 i (by omega)).1 4 (by omega) (by omega)
    omega
theorem ct_W.sg {σ : St} (h : ct_W σ) {a i v : Nat} (h0 : a ≠ 0) (h4 : a ≠ 4) (h9 : a ≠ 9) : ct_W (ct_sg σ a i v) := by
  obtain ⟨w1, w2, w3, w4⟩ := h
  refine ⟨by simpa [ct_sg, Ne.symm h0] using w1, fun x => by simpa [ct_sg, Ne.symm h4] using w2 x, fun t => by simpa [ct_sg, Ne.symm h0, Ne.symm h9] using w3 t, fun t ht => by simpa [ct_sg, Ne.symm h9] using w4 t ht⟩
theorem ct_go_iff {σ : St} {i : Nat} (h : σ.1 3 i ≤ 200) : ct_go σ i = true ↔ σ.1 4 i = 0 ∧ ct_wait σ i = false ∧ (σ.1 0 1 = 0 ∨ σ.1 3 i % σ.1 0 1 ≠ 0 ∨ σ.1 3 i ≤ ct_least σ (σ.1 0 0)) := by
  have := ct_least_all (σ := σ) h (σ.1 0 0)
  unfold ct_go ct_bar
  by_cases q : ct_all σ (σ.1 3 i) (σ.1 0 0) = true
  · simp [q, this.mp q]
  · simp [q, fun z => q (this.mpr z)]
    constructor
    · rintro ⟨⟨a, b⟩, c⟩
      refine ⟨a, b, ?_⟩
      rcases c with c | c
      · exact Or.inl c
      · exact Or.inr (Or.inl c)
    · rintro ⟨a, b, c⟩
      refine ⟨⟨a, b⟩, ?_⟩
      rcases c with c | c | c
      · exact Or.inl c
      · exact Or.inr c
      · exact absurd (this.mpr c) q
def tR (τ : Nat → Nat → Nat) (σ : St) (k : Nat) : Nat → Nat → Nat := fun a i => if a = 0 ∧ 1 ≤ i ∧ i ≤ k then bN (ct_go σ i) else τ a i
theorem tR_0 (τ : Nat → Nat → Nat) (σ : St) : tR τ σ 0 = τ := by
  funext a i
  unfold tR
  rw [if_neg (by omega)]
theorem tR_s {τ : Nat → Nat → Nat} {σ : St} {k v : Nat} (h : bN (ct_go σ (k + 1)) = v) : tu (tR τ σ k) 0 (k + 1) v = tR τ σ (k + 1) := by
  funext a i
  unfold tu tR
  by_cases q : a = 0 ∧ i = k + 1
  · rw [if_pos q, if_pos ⟨q.1, by omega, by omega⟩, q.2, h]
  · rw [if_neg q]
    by_cases z : a = 0 ∧ 1 ≤ i ∧ i ≤ k
    · rw [if_pos z, if_pos ⟨z.1, by omega, by omega⟩]
    · rw [if_neg z, if_neg (by omega)]
def tS (τ : Nat → Nat → Nat) (σ : St) (i : Nat) : Nat → Nat → Nat := if ct_fails σ i = true then tu τ 0 i 0 else tu (tu τ 0 i 0) 1 i 1
def tX (τ : Nat → Nat → Nat) (σ : St) (X : Nat → Bool) : Nat → Nat → Nat := fun a i => if a = 0 ∧ X i = true then 0 else if a = 1 ∧ X i = true ∧ ct_fails σ i = false then 1 else τ a i
theorem tX_nil (τ : Nat → Nat → Nat) (σ : St) : tX τ σ (fun _ => false) = τ := by
  funext a i
  simp [tX]
theorem tS_tX {τ : Nat → Nat → Nat} {σ : St} {X : Nat → Bool} {i : Nat} (hX : X i = false) : tS (tX τ σ X) (ct_mul σ X) i = tX τ σ (fun x => X x || x == i) := by
  unfold tS
  rw [ct_fails_mul _ _ hX]
  funext a x
  by_cases hf : ct_fails σ i = true
  · rw [if_pos hf]
    by_cases q : x = i
    · subst q
      simp [tu, tX, hX, hf]
    · simp [tu, tX, q]
  · rw [if_neg hf]
    simp at hf
    by_cases q : x = i
    · subst q
      by_cases a0 : a = 0
      · subst a0
        simp [tu, tX, hX, hf]
      · by_cases a1 : a = 1
        · subst a1
          simp [tu, tX, hX, hf]
        · simp [tu, tX, a0, a1]
    · simp [tu, tX, q]
theorem tX_0 {τ : Nat → Nat → Nat} {σ : St} {X : Nat → Bool} {i : Nat} (h : ¬ tX τ σ X 0 i = 0) : X i = false ∧ ¬ τ 0 i = 0 := by
  unfold tX at h
  cases q : X i
  · simp [q] at h
    exact ⟨rfl, h⟩
  · simp [q] at h
theorem tX_0' {τ : Nat → Nat → Nat} {σ : St} {X : Nat → Bool} {i : Nat} (h : tX τ σ X 0 i = 0) : X i = true ∨ τ 0 i = 0 := by
  unfold tX at h
  cases q : X i
  · simp [q] at h
    exact Or.inr h
  · exact Or.inl rfl
def tN (τ : Nat → Nat → Nat) (k : Nat) : Nat → Nat → Nat := fun a i => if a = 1 ∧ 1 ≤ i ∧ i ≤ k then 0 else τ a i
theorem tN_0 (τ : Nat → Nat → Nat) : tN τ 0 = τ := by
  funext a i
  unfold tN
  rw [if_neg (by omega)]
theorem tN_s {τ : Nat → Nat → Nat} {k : Nat} : tu (tN τ k) 1 (k + 1) 0 = tN τ (k + 1) := by
  funext a i
  unfold tu tN
  by_cases q : a = 1 ∧ i = k + 1
  · rw [if_pos q, if_pos ⟨q.1, by omega, by omega⟩]
  · rw [if_neg q]
    by_cases z : a = 1 ∧ 1 ≤ i ∧ i ≤ k
    · rw [if_pos z, if_pos ⟨z.1, by omega, by omega⟩]
    · rw [if_neg z, if_neg (by omega)]
theorem tN_k {τ : Nat → Nat → Nat} {k : Nat} (h : τ 1 (k + 1) = 0) : tN τ (k + 1) = tN τ k := by
  funext a i
  unfold tN
  by_cases z : a = 1 ∧ i = k + 1
  · rw [if_pos ⟨z.1, by omega, by omega⟩, if_neg (by omega), z.1, z.2, h]
  · by_cases y : a = 1 ∧ 1 ≤ i ∧ i ≤ k
    · rw [if_pos y, if_pos ⟨y.1, by omega, by omega⟩]
    · rw [if_neg y, if_neg (by omega)]
theorem tN_at (τ : Nat → Nat → Nat) (k : Nat) : tN τ k 1 (k + 1) = τ 1 (k + 1) := by
  unfold tN
  rw [if_neg (by omega)]
def nY (τ : Nat → Nat → Nat) (x : Nat) : Bool := !(τ 1 x == 0)
def nE (σ : St) (x : Nat) : Nat := x * 1000 + σ.1 3 x
/-- the class's log of a microsecond is the reference's -/
theorem ct_log_eq {τ : Nat → Nat → Nat} {σ : St} (h1 : ∀ i, τ 1 i = 0) : ct_wl (ct_mul σ (ct_X σ)) (ct_lg (nY (tX τ σ (ct_X σ))) (nE (ct_mul σ (ct_X σ))) (ct_L (ct_mul σ (ct_X σ))) (σ.1 0 0)) = ct_wl (ct_mul σ (ct_X σ)) (ct_lg (ct_Y σ (ct_X σ)) (ct_E σ) (ct_L σ) (σ.1 0 0)) := by
  have e : ct_L (ct_mul σ (ct_X σ)) = ct_L σ := by
    refine Prod.ext ?_ (funext fun x => ?_)
    · simp [ct_L, ct_mul]
    · simp [ct_L, ct_mul]
  rw [e]
  congr 1
  refine ct_lg_cg _ (fun x _ _ => ?_)
  by_cases q : ct_X σ x = true
  · by_cases f : ct_fails σ x = true
    · refine ⟨by simp [nY, tX, ct_Y, q, f, h1], fun z => ?_⟩
      simp [nY, tX, q, f, h1] at z
    · simp at f
      refine ⟨by simp [nY, tX, ct_Y, q, f], fun _ => ?_⟩
      simp [nE, ct_E, ct_mul, q, f]
      omega
  · simp at q
    refine ⟨by simp [nY, tX, ct_Y, q, h1], fun z => ?_⟩
    simp [nY, tX, q, h1] at z
theorem lg_cmp_0 {x y : Int64} : lg_cmp x y = 0 ↔ x = y := by
  unfold lg_cmp
  by_cases h1 : y < x
  · simp [h1]
    intro q
    subst q
    exact absurd h1 (Int64.lt_irrefl)
  · by_cases h2 : x = y
    · simp [h1, h2]
    · simp [h1, h2]
theorem sw_row {ad : Nat → Nat} {σ : St} {i j v : Nat} (h : 1 ≤ v) : va_up (fun s => cw_rf ad (σ.2.1 i s)) j (some (ad (3 + 2 * v))) = fun s => cw_rf ad ((ct_sw σ i j v).2.1 i s) := by
  funext s
  by_cases q : s = j
  · subst q
    rw [va_up_self]
    simp [ct_sw, cw_rf]
    omega
  · rw [va_up_ne _ _ q]
    simp [ct_sw, q]
theorem hd_row {ad : Nat → Nat} {σ : St} {j v : Nat} (h : 1 ≤ v) : va_up (fun t => cw_rf ad (σ.1 9 (t + 1))) j (some (ad (3 + 2 * v))) = fun t => cw_rf ad ((ct_sg σ 9 (j + 1) v).1 9 (t + 1)) := by
  funext s
  by_cases q : s = j
  · subst q
    rw [va_up_self]
    simp [ct_sg, cw_rf]
    omega
  · rw [va_up_ne _ _ q]
    simp [ct_sg, q]
def tK (τ : Nat → Nat → Nat) : Prop := (∀ i, τ 0 i ≤ 1) ∧ (∀ i, τ 1 i = 0) ∧ τ 2 0 ≤ 500
theorem tK_R {τ : Nat → Nat → Nat} (h : tK τ) (σ : St) (k : Nat) : tK (tR τ σ k) := by
  refine ⟨fun i => ?_, fun i => ?_, h.2.2⟩
  · unfold tR
    split
    · exact bN_le _
    · exact h.1 i
  · show τ 1 i = 0
    exact h.2.1 i
theorem tR_in {τ : Nat → Nat → Nat} {σ : St} {k i : Nat} (h1 : 1 ≤ i) (h2 : i ≤ k) : tR τ σ k 0 i = bN (ct_go σ i) := by
  unfold tR
  rw [if_pos ⟨rfl, h1, h2⟩]
theorem tK_N {τ : Nat → Nat → Nat} (h : tK τ) (h2 : τ 2 0 = 0) (σ : St) (k : Nat) (hk : σ.1 0 0 = k) : tK (tN (tX τ σ (ct_X σ)) k) := by
  refine ⟨fun i => ?_, fun i => ?_, ?_⟩
  · show (if 0 = 0 ∧ ct_X σ i = true then 0 else τ 0 i) ≤ 1
    split
    · omega
    · exact h.1 i
  · unfold tN
    by_cases q : 1 ≤ i ∧ i ≤ k
    · rw [if_pos ⟨rfl, q⟩]
    · rw [if_neg (by omega)]
      have z : ct_X σ i = false := by
        cases z : ct_X σ i
        · rfl
        · have := ct_X_of z
          omega
      simp [tX, z]
      exact h.2.1 i
  · show τ 2 0 ≤ 500
    omega
