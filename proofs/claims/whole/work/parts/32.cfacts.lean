/-! Facts for the class's walks. -/
abbrev tyC (cN cI : ClassId) : List (ClassId × FieldType) := [(cN, .object "CarThreads$Node"), (cI, .int)]
def tu (τ : Nat → Nat → Nat) (a i v : Nat) : Nat → Nat → Nat := fun a' i' => if a' = a ∧ i' = i then v else τ a' i'
def tOK (τ : Nat → Nat → Nat) : Prop := (∀ i, τ 0 i ≤ 1) ∧ (∀ i, τ 1 i ≤ 1) ∧ τ 2 0 ≤ 500
theorem cw_ns_at {ad : Nat → Nat} {n i : Nat} (h1 : 1 ≤ i) (h2 : i ≤ n) : cw_ns ad n (i - 1) = some (ad (3 + 2 * i)) := by
  unfold cw_ns
  rw [if_pos (by omega), show i - 1 + 1 = i by omega]
theorem cw_ns_in {ad : Nat → Nat} {n j : Nat} (h : j < n) : cw_ns ad n j = some (ad (3 + 2 * (j + 1))) := by
  unfold cw_ns
  rw [if_pos h]
theorem cw_ns_out {ad : Nat → Nat} {n j : Nat} (h : ¬ j < n) : cw_ns ad n j = none := by
  unfold cw_ns
  rw [if_neg h]
theorem cw_rf_eq {ad : Nat → Nat} {n v i : Nat} (hI : adI ad (5 + 2 * n)) (hv : v ≤ n) (h1 : 1 ≤ i) (h2 : i ≤ n) : cw_rf ad v = some (ad (3 + 2 * i)) ↔ v = i := by
  unfold cw_rf
  constructor
  · intro q
    split at q
    · cases q
    · have := hI (3 + 2 * v) (3 + 2 * i) (by omega) (by omega) (Option.some.inj q)
      omega
  · intro q
    subst q
    rw [if_neg (by omega)]
theorem hy_one {d t : Nat} (h : d < t) (ht : t ≤ 200) : (if nI (d + 1) ≤ nI d ∨ nI t < nI (d + 1) then nI 0 else nI 1) = nI 1 := by
  rw [if_neg]
  intro q
  rcases q with q | q
  · have := (nI_leI (by omega) (by omega)).mp q
    omega
  · have := (nI_ltI (by omega) (by omega)).mp q
    omega
theorem mm_nat {a b : Nat} (ha : a < 2 ^ 31) (hb : b < 2 ^ 31) : (if nI b < nI a then nI b else nI a) = nI (min a b) := by
  by_cases q : b < a
  · rw [if_pos (nI_lt q ha), Nat.min_eq_right (by omega)]
  · rw [if_neg (nI_nlt (by omega) hb), Nat.min_eq_left (by omega)]
/-- things 1 .. t of node i are free -/
def ct_fr (σ : St) (i t : Nat) : St := (fun a x => if a = 9 ∧ 1 ≤ x ∧ x ≤ t ∧ σ.1 9 x = i then 0 else σ.1 a x, σ.2)
theorem ct_fr_0 (σ : St) (i : Nat) : ct_fr σ i 0 = σ := by
  refine Prod.ext (funext fun a => funext fun x => ?_) rfl
  show (if _ then _ else _) = _
  rw [if_neg (by omega)]
theorem ct_fr_at (σ : St) (i t : Nat) : (ct_fr σ i t).1 9 (t + 1) = σ.1 9 (t + 1) := by
  show (if _ then _ else _) = _
  rw [if_neg (by omega)]
theorem ct_fr_skip {σ : St} {i t : Nat} (h : ¬ σ.1 9 (t + 1) = i) : ct_fr σ i (t + 1) = ct_fr σ i t := by
  refine Prod.ext (funext fun a => funext fun x => ?_) rfl
  show (if _ then _ else _) = (if _ then _ else _)
  by_cases q : x = t + 1
  · subst q
    rw [if_neg (by intro z; exact h z.2.2.2), if_neg (by omega)]
  · have e : (a = 9 ∧ 1 ≤ x ∧ x ≤ t + 1 ∧ σ.1 9 x = i) ↔ (a = 9 ∧ 1 ≤ x ∧ x ≤ t ∧ σ.1 9 x = i) := by omega
    simp only [e]
theorem ct_fr_end {σ : St} (hv : ∀ t, t = 0 ∨ 16 < t → σ.1 9 t = 0) {i : Nat} (h1 : 1 ≤ i) : ct_sg (ct_fr (ct_sg σ 4 i 1) i 16) 7 i (σ.1 7 i + 1) = ct_end σ i := by
  refine Prod.ext (funext fun a => funext fun x => ?_) rfl
  by_cases h4 : a = 4
  · subst h4
    simp [ct_sg, ct_fr, ct_end]
  · by_cases h7 : a = 7
    · subst h7
      simp [ct_sg, ct_fr, ct_end]
    · by_cases h9 : a = 9
      · subst h9
        by_cases q : 1 ≤ x ∧ x ≤ 16
        · simp [ct_sg, ct_fr, ct_end, q]
        · have := hv x (by omega)
          have q2 : ¬ σ.1 9 x = i := by omega
          simp [ct_sg, ct_fr, ct_end, q2]
      · simp [ct_sg, ct_fr, ct_end, h4, h7, h9]
theorem ct_note_lt {σ : St} {e : Nat} (h : σ.1 0 2 < 2000) : ct_sg (ct_sg σ 10 (σ.1 0 2) e) 0 2 (σ.1 0 2 + 1) = ct_note σ e := by
  refine Prod.ext (funext fun a => funext fun x => ?_) rfl
  by_cases h0 : a = 0
  · subst h0
    simp [ct_sg, ct_note, ct_wl, ct_add, ct_L, h]
  · by_cases h1 : a = 10
    · subst h1
      by_cases q : x = σ.1 0 2
      · simp [ct_sg, ct_note, ct_wl, ct_add, ct_L, h, q]
      · simp [ct_sg, ct_note, ct_wl, ct_add, ct_L, h, q]
    · simp [ct_sg, ct_note, ct_wl, h0, h1]
theorem ct_note_ge {σ : St} {e : Nat} (h : ¬ σ.1 0 2 < 2000) : ct_note σ e = σ := by
  unfold ct_note ct_add
  rw [if_neg (by simpa [ct_L] using h)]
  exact ct_wl_L σ
theorem upr_note {σ : St} {j e : Nat} : upd (fun x => nI (σ.1 10 x)) j (nI e) = fun x => nI ((ct_sg σ 10 j e).1 10 x) := by
  rw [upd_nI]
  funext x
  simp [ct_sg]
theorem fr_row {ad : Nat → Nat} {σ : St} {i t : Nat} (h : σ.1 9 (t + 1) = i) : va_up (fun u => cw_rf ad ((ct_fr σ i t).1 9 (u + 1))) t none = fun u => cw_rf ad ((ct_fr σ i (t + 1)).1 9 (u + 1)) := by
  funext u
  by_cases q : u = t
  · subst q
    rw [va_up_self]
    have e : (ct_fr σ i (u + 1)).1 9 (u + 1) = 0 := by
      show (if _ then _ else _) = _
      rw [if_pos ⟨rfl, by omega, by omega, h⟩]
    rw [e]
    rfl
  · rw [va_up_ne _ _ q]
    congr 1
    show (if 9 = 9 ∧ 1 ≤ u + 1 ∧ u + 1 ≤ t ∧ σ.1 9 (u + 1) = i then 0 else σ.1 9 (u + 1)) = (if 9 = 9 ∧ 1 ≤ u + 1 ∧ u + 1 ≤ t + 1 ∧ σ.1 9 (u + 1) = i then 0 else σ.1 9 (u + 1))
    by_cases z : u + 1 ≤ t ∧ σ.1 9 (u + 1) = i
    · rw [if_pos ⟨rfl, by omega, z.1, z.2⟩, if_pos ⟨rfl, by omega, by omega, z.2⟩]
    · rw [if_neg (by omega), if_neg (by omega)]
