/-! More of the state: barrier by the least, one microsecond by sets. -/
def ct_least (σ : St) : Nat → Nat
  | 0 => 200
  | k + 1 => if σ.1 4 (k + 1) = 0 then min (ct_least σ k) (σ.1 3 (k + 1)) else ct_least σ k
theorem ct_least_all {σ : St} {d : Nat} (hd : d ≤ 200) : ∀ k, (ct_all σ d k = true ↔ d ≤ ct_least σ k)
  | 0 => by simp [ct_all, ct_least, hd]
  | k + 1 => by
    have ih := ct_least_all (σ := σ) hd k
    unfold ct_all ct_least
    by_cases q : σ.1 4 (k + 1) = 0
    · simp [q, ih]
      omega
    · simp [q, ih]
theorem ct_least_le (σ : St) : ∀ k, ct_least σ k ≤ 200
  | 0 => Nat.le_refl _
  | k + 1 => by
    have := ct_least_le σ k
    unfold ct_least
    split
    · omega
    · exact this
def ct_note (σ : St) (e : Nat) : St := ct_wl σ (ct_add (ct_L σ) e)
/-- a step as the reference does it, the log with it -/
def ct_stepL (σ : St) (i : Nat) : St := if ct_fails σ i = true then ct_end (ct_sg σ 5 i 1) i else if ct_ends σ i = true then ct_end (ct_note (ct_sg σ 3 i (σ.1 3 i + 1)) (1000 * i + (σ.1 3 i + 1))) i else ct_note (ct_sg σ 3 i (σ.1 3 i + 1)) (1000 * i + (σ.1 3 i + 1))
theorem ct_end_wl (σ : St) (L : Lg) (i : Nat) : ct_end (ct_wl σ L) i = ct_wl (ct_end σ i) L := by
  refine Prod.ext (funext fun a => funext fun x => ?_) rfl
  by_cases h0 : a = 0
  · subst h0
    simp [ct_end, ct_wl]
  · by_cases h1 : a = 10
    · subst h1
      simp [ct_end, ct_wl]
    · simp [ct_end, ct_wl, h0, h1]
theorem ct_sg_wl (σ : St) (L : Lg) {a i v : Nat} (h0 : a ≠ 0) (h1 : a ≠ 10) : ct_sg (ct_wl σ L) a i v = ct_wl (ct_sg σ a i v) L := by
  refine Prod.ext (funext fun b => funext fun x => ?_) rfl
  by_cases q0 : b = 0
  · subst q0
    simp [ct_sg, ct_wl, Ne.symm h0]
  · by_cases q1 : b = 10
    · subst q1
      simp [ct_sg, ct_wl, Ne.symm h1]
    · simp [ct_sg, ct_wl, q0, q1]
theorem ct_wl_at (σ : St) (L : Lg) {a i : Nat} (h0 : a ≠ 0) (h1 : a ≠ 10) : (ct_wl σ L).1 a i = σ.1 a i := by simp [ct_wl, h0, h1]
theorem ct_fails_wl (σ : St) (L : Lg) (i : Nat) : ct_fails (ct_wl σ L) i = ct_fails σ i := by simp [ct_fails, ct_wl]
theorem ct_ends_wl (σ : St) (L : Lg) (i : Nat) : ct_ends (ct_wl σ L) i = ct_ends σ i := by simp [ct_ends, ct_fails, ct_wl]
theorem ct_stepL_wl (σ : St) (L : Lg) (i : Nat) : ct_stepL (ct_wl σ L) i = ct_wl (ct_step σ i) (if ct_fails σ i = true then L else ct_add L (1000 * i + (σ.1 3 i + 1))) := by
  unfold ct_stepL ct_step
  rw [ct_fails_wl, ct_ends_wl, ct_wl_at _ _ (by omega) (by omega), ct_sg_wl _ _ (by omega) (by omega), ct_sg_wl _ _ (by omega) (by omega)]
  by_cases hf : ct_fails σ i = true
  · rw [if_pos hf, if_pos hf, if_pos hf, ct_end_wl]
  · rw [if_neg hf, if_neg hf, if_neg hf]
    by_cases he : ct_ends σ i = true
    · rw [if_pos he, if_pos he, ct_note, ct_L_wl, ct_wl_wl, ct_end_wl]
    · rw [if_neg he, if_neg he, ct_note, ct_L_wl, ct_wl_wl]
/-- the nodes of X up to k -/
def ct_to (X : Nat → Bool) (k : Nat) (x : Nat) : Bool := X x && decide (x ≤ k)
theorem ct_to_skip {X : Nat → Bool} {k : Nat} (h : X (k + 1) = false) : ct_to X (k + 1) = ct_to X k := by
  funext x
  unfold ct_to
  by_cases q : x = k + 1
  · subst q
    simp [h]
  · have : (x ≤ k + 1) ↔ (x ≤ k) := by omega
    simp [this]
theorem ct_to_add {X : Nat → Bool} {k : Nat} (h : X (k + 1) = true) : (fun x => ct_to X k x || x == k + 1) = ct_to X (k + 1) := by
  funext x
  unfold ct_to
  by_cases q : x = k + 1
  · subst q
    simp [h]
  · have : (x ≤ k + 1) ↔ (x ≤ k) := by omega
    simp [this, q]
/-- the reference's state when the nodes 1 .. k had their turn -/
def ct_part (σ : St) (X : Nat → Bool) (k : Nat) : St := ct_wl (ct_mul σ (ct_to X k)) (ct_lg (ct_Y σ X) (ct_E σ) (ct_L σ) k)
theorem ct_mul_at (σ : St) (X : Nat → Bool) {a i : Nat} (h3 : a ≠ 3) (h4 : a ≠ 4) (h5 : a ≠ 5) (h7 : a ≠ 7) (h9 : a ≠ 9) : (ct_mul σ X).1 a i = σ.1 a i := by simp [ct_mul, h3, h4, h5, h7, h9]
theorem ct_mul_3 (σ : St) (X : Nat → Bool) {i : Nat} (h : X i = false) : (ct_mul σ X).1 3 i = σ.1 3 i := by simp [ct_mul, h]
theorem ct_fails_mul (σ : St) (X : Nat → Bool) {i : Nat} (h : X i = false) : ct_fails (ct_mul σ X) i = ct_fails σ i := by
  unfold ct_fails
  rw [ct_mul_3 _ _ h, ct_mul_at _ _ (by omega) (by omega) (by omega) (by omega) (by omega)]
theorem ct_part_0 {σ : St} {X : Nat → Bool} (h0 : X 0 = false) : ct_part σ X 0 = σ := by
  have e : ct_to X 0 = fun _ => false := by
    funext x
    unfold ct_to
    by_cases q : x = 0
    · subst q
      simp [h0]
    · simp
      intro _
      omega
  unfold ct_part
  rw [e, ct_mul_nil]
  exact ct_wl_L σ
theorem ct_part_skip {σ : St} {X : Nat → Bool} {k : Nat} (h : X (k + 1) = false) : ct_part σ X (k + 1) = ct_part σ X k := by
  unfold ct_part
  rw [ct_to_skip h]
  congr 1
  show (if ct_Y σ X (k + 1) = true then _ else _) = _
  rw [if_neg (by simp [ct_Y, h])]
theorem ct_part_step {σ : St} {X : Nat → Bool} {k : Nat} (h : X (k + 1) = true) : ct_stepL (ct_part σ X k) (k + 1) = ct_part σ X (k + 1) := by
  have hX : ct_to X k (k + 1) = false := by simp [ct_to]
  unfold ct_part
  rw [ct_stepL_wl, ct_fails_mul _ _ hX, ct_mul_3 _ _ hX, ct_mul_step (by omega) hX, ct_to_add h]
  congr 1
  show _ = (if ct_Y σ X (k + 1) = true then ct_add (ct_lg (ct_Y σ X) (ct_E σ) (ct_L σ) k) (ct_E σ (k + 1)) else _)
  by_cases hf : ct_fails σ (k + 1) = true
  · rw [if_pos hf, if_neg (by simp [ct_Y, hf])]
  · rw [if_neg hf, if_pos (by simp [ct_Y, h, hf])]
    rfl
theorem ct_to_X (σ : St) : ct_to (ct_X σ) (σ.1 0 0) = ct_X σ := by
  funext x
  unfold ct_to
  by_cases q : ct_X σ x = true
  · simp [q, (ct_X_of q).2.1]
  · simp at q
    simp [q]
theorem ct_part_n (σ : St) : ct_sl (ct_part σ (ct_X σ) (σ.1 0 0)) 0 (σ.2.2 0 + 1) = ct_micro σ := by
  unfold ct_part ct_micro
  rw [ct_to_X]
theorem ct_X_0 (σ : St) : ct_X σ 0 = false := by simp [ct_X]
theorem ct_X_in {σ : St} {i : Nat} (h1 : 1 ≤ i) (h2 : i ≤ σ.1 0 0) : ct_X σ i = ct_go σ i := by simp [ct_X, h1, h2]
theorem ct_Inv_part {σ : St} (h : ct_Inv σ) (k : Nat) : ct_Inv (ct_part σ (ct_X σ) k) := ct_Inv_wl (ct_Inv_mul h (fun x q => ct_X_of (by simp [ct_to] at q; exact q.1))) (ct_lg_le h.1.2.2 _)
