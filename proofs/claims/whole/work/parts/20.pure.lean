/-! The state of the system as one mathematical value, for class and reference alike. Nodes are numbered from 1.
σ.1 a i: a = 0: i = 0 how many nodes, i = 1 the barrier, i = 2 how many log entries; a = 1 steps, 2 failsAt, 3 done, 4 ended, 5 safe, 6 interrupted, 7 last parts, 9 the holder of thing i (0: none), 10 log entry i.
σ.2.1 i s: whom node i waits for before step s (0: nobody). σ.2.2 0: the next microsecond; σ.2.2 i: the microsecond in which node i is to be cut. -/
abbrev St : Type := (Nat → Nat → Nat) × (Nat → Nat → Nat) × (Nat → Int64)
def ct_sg (σ : St) (a i v : Nat) : St := (fun a' i' => if a' = a ∧ i' = i then v else σ.1 a' i', σ.2.1, σ.2.2)
def ct_sw (σ : St) (i s v : Nat) : St := (σ.1, fun i' s' => if i' = i ∧ s' = s then v else σ.2.1 i' s', σ.2.2)
def ct_sl (σ : St) (i : Nat) (v : Int64) : St := (σ.1, σ.2.1, fun i' => if i' = i then v else σ.2.2 i')
def ct_0 : St := (fun _ _ => 0, fun _ _ => 0, fun _ => 0)
/-- node i ends -/
def ct_end (σ : St) (i : Nat) : St := (fun a x => if a = 4 ∧ x = i then 1 else if a = 7 ∧ x = i then σ.1 7 i + 1 else if a = 9 ∧ σ.1 9 x = i then 0 else σ.1 a x, σ.2.1, σ.2.2)
/-- cuts of the nodes 1 .. k -/
def ct_cut (σ : St) : Nat → St
  | 0 => σ
  | k + 1 => if (ct_cut σ k).1 4 (k + 1) = 0 ∧ (ct_cut σ k).2.2 (k + 1) = (ct_cut σ k).2.2 0 then ct_end (ct_cut σ k) (k + 1) else ct_cut σ k
/-- of the nodes 1 .. k those that are alive have done d at least -/
def ct_all (σ : St) (d : Nat) : Nat → Bool
  | 0 => true
  | k + 1 => ct_all σ d k && (!(σ.1 4 (k + 1) == 0) || decide (d ≤ σ.1 3 (k + 1)))
def ct_wait (σ : St) (i : Nat) : Bool := !(σ.2.1 i (σ.1 3 i + 1) == 0) && (σ.1 4 (σ.2.1 i (σ.1 3 i + 1)) == 0) && decide (σ.1 3 (σ.2.1 i (σ.1 3 i + 1)) ≤ σ.1 3 i)
def ct_bar (σ : St) (i : Nat) : Bool := !(σ.1 0 1 == 0) && (σ.1 3 i % σ.1 0 1 == 0) && !(ct_all σ (σ.1 3 i) (σ.1 0 0))
def ct_go (σ : St) (i : Nat) : Bool := (σ.1 4 i == 0) && !(ct_wait σ i) && !(ct_bar σ i)
def ct_any (σ : St) : Nat → Bool
  | 0 => false
  | k + 1 => ct_any σ k || ct_go σ (k + 1)
def ct_fails (σ : St) (i : Nat) : Bool := decide (σ.1 3 i + 1 = σ.1 2 i)
def ct_ends (σ : St) (i : Nat) : Bool := ct_fails σ i || !(σ.1 6 i == 0) || decide (σ.1 3 i + 1 = σ.1 1 i)
/-- one step of node i, without the log -/
def ct_step (σ : St) (i : Nat) : St := if ct_fails σ i = true then ct_end (ct_sg σ 5 i 1) i else if ct_ends σ i = true then ct_end (ct_sg σ 3 i (σ.1 3 i + 1)) i else ct_sg σ 3 i (σ.1 3 i + 1)
/-- a step of each node of X -/
def ct_mul (σ : St) (X : Nat → Bool) : St := (fun a x => if a = 3 then (if (X x && !ct_fails σ x) = true then σ.1 3 x + 1 else σ.1 3 x) else if a = 4 then (if (X x && ct_ends σ x) = true then 1 else σ.1 4 x) else if a = 5 then (if (X x && ct_fails σ x) = true then 1 else σ.1 5 x) else if a = 7 then (if (X x && ct_ends σ x) = true then σ.1 7 x + 1 else σ.1 7 x) else if a = 9 then (if (X (σ.1 9 x) && ct_ends σ (σ.1 9 x)) = true then 0 else σ.1 9 x) else σ.1 a x, σ.2.1, σ.2.2)
abbrev Lg : Type := Nat × (Nat → Nat)
def ct_add (L : Lg) (e : Nat) : Lg := if L.1 < 2000 then (L.1 + 1, fun x => if x = L.1 then e else L.2 x) else L
def ct_lg (Y : Nat → Bool) (E : Nat → Nat) (L : Lg) : Nat → Lg
  | 0 => L
  | k + 1 => if Y (k + 1) = true then ct_add (ct_lg Y E L k) (E (k + 1)) else ct_lg Y E L k
def ct_wl (σ : St) (L : Lg) : St := (fun a x => if a = 0 ∧ x = 2 then L.1 else if a = 10 then L.2 x else σ.1 a x, σ.2.1, σ.2.2)
def ct_L (σ : St) : Lg := (σ.1 0 2, σ.1 10)
/-- who is ready -/
def ct_X (σ : St) (x : Nat) : Bool := decide (1 ≤ x) && decide (x ≤ σ.1 0 0) && ct_go σ x
def ct_Y (σ : St) (X : Nat → Bool) (x : Nat) : Bool := X x && !ct_fails σ x
def ct_E (σ : St) (x : Nat) : Nat := 1000 * x + (σ.1 3 x + 1)
def ct_micro (σ : St) : St := ct_sl (ct_wl (ct_mul σ (ct_X σ)) (ct_lg (ct_Y σ (ct_X σ)) (ct_E σ) (ct_L σ) (σ.1 0 0))) 0 (σ.2.2 0 + 1)
def ct_run : Nat → St → Nat × St
  | 0, σ => (0, σ)
  | f + 1, σ => if ct_any (ct_cut σ (σ.1 0 0)) (σ.1 0 0) = true then ((ct_run f (ct_micro (ct_cut σ (σ.1 0 0)))).1 + 1, (ct_run f (ct_micro (ct_cut σ (σ.1 0 0)))).2) else (0, ct_cut σ (σ.1 0 0))
/-- a node's number, if there is such a node; else 0 -/
def ct_kn (n : Nat) (x : Int32) : Nat := if 1 ≤ x.toInt ∧ x.toInt ≤ n then x.toNatClampNeg else 0
theorem ct_kn_some {n : Nat} (hn : n < 2 ^ 31) {x : Int32} (h : ct_kn n x ≠ 0) : 1 ≤ ct_kn n x ∧ ct_kn n x ≤ n ∧ x = nI (ct_kn n x) := by
  unfold ct_kn at h ⊢
  split at h
  · rename_i hh
    rw [if_pos hh]
    obtain ⟨h1, h2⟩ := hh
    have h0 : ¬ x < 0 := by
      intro q
      have := Int32.lt_iff_toInt_lt.mp q
      simp at this
      omega
    obtain ⟨j, hj, rfl⟩ := nI_of h0
    rw [nI_clamp hj]
    rw [nI_toInt hj] at h1 h2
    exact ⟨by omega, by omega, rfl⟩
  · exact absurd rfl h
theorem ct_kn_nI {n i : Nat} (hn : n < 2 ^ 31) (h1 : 1 ≤ i) (h2 : i ≤ n) : ct_kn n (nI i) = i := by
  unfold ct_kn
  rw [nI_toInt (by omega), if_pos ⟨by omega, by omega⟩, nI_clamp (by omega)]
theorem ct_kn_lo {n : Nat} {x : Int32} (h : x < 1) : ct_kn n x = 0 := by
  unfold ct_kn
  rw [if_neg]
  intro q
  have := Int32.lt_iff_toInt_lt.mp h
  simp at this
  omega
theorem ct_kn_hi {n : Nat} (hn : n < 2 ^ 31) {x : Int32} (h : nI n < x) : ct_kn n x = 0 := by
  unfold ct_kn
  rw [if_neg]
  intro q
  have := Int32.lt_iff_toInt_lt.mp h
  rw [nI_toInt hn] at this
  omega
theorem ct_kn_in {n : Nat} (hn : n < 2 ^ 31) {x : Int32} (h1 : ¬ x < 1) (h2 : ¬ nI n < x) : ct_kn n x ≠ 0 := by
  have h0 : ¬ x < 0 := fun q => h1 (by
    have := Int32.lt_iff_toInt_lt.mp q
    apply Int32.lt_iff_toInt_lt.mpr
    simp at this ⊢
    omega)
  obtain ⟨j, hj, rfl⟩ := nI_of h0
  have a1 : 1 ≤ j := by
    rcases Nat.lt_or_ge j 1 with q | q
    · exact absurd (show nI j < nI 1 from nI_lt q (by omega)) h1
    · exact q
  have a2 : j ≤ n := by
    rcases Nat.lt_or_ge n j with q | q
    · exact absurd (nI_lt q hj) h2
    · exact q
  rw [ct_kn_nI hn a1 a2]
  omega
/-- what holds of every state -/
def ct_Nd (σ : St) (i : Nat) : Prop := 1 ≤ σ.1 1 i ∧ σ.1 1 i ≤ 200 ∧ σ.1 2 i ≤ σ.1 1 i ∧ σ.1 3 i ≤ σ.1 1 i ∧ (σ.1 4 i = 0 → σ.1 3 i < σ.1 1 i) ∧ σ.1 4 i ≤ 1 ∧ σ.1 5 i ≤ 1 ∧ σ.1 6 i ≤ 1 ∧ ∀ s, σ.2.1 i s ≤ σ.1 0 0
def ct_No (σ : St) (i : Nat) : Prop := (∀ a, 3 ≤ a → a ≤ 7 → σ.1 a i = 0) ∧ ∀ s, σ.2.1 i s = 0
def ct_Inv (σ : St) : Prop := (σ.1 0 0 ≤ 30 ∧ σ.1 0 1 ≤ 200 ∧ σ.1 0 2 ≤ 2000) ∧ (∀ i, 1 ≤ i → i ≤ σ.1 0 0 → ct_Nd σ i) ∧ (∀ i, i = 0 ∨ σ.1 0 0 < i → ct_No σ i) ∧ (∀ t, σ.1 9 t ≤ σ.1 0 0) ∧ ∀ t, t = 0 ∨ 16 < t → σ.1 9 t = 0
theorem ct_Inv_0 : ct_Inv ct_0 := by
  refine ⟨⟨by simp [ct_0], by simp [ct_0], by simp [ct_0]⟩, fun i h1 h2 => ?_, fun i _ => ⟨fun a _ _ => rfl, fun _ => rfl⟩, fun t => Nat.le_refl _, fun t _ => rfl⟩
  have : (ct_0).1 0 0 = 0 := rfl
  omega
theorem ct_Inv_end {σ : St} (h : ct_Inv σ) {i : Nat} (h1 : 1 ≤ i) (h2 : i ≤ σ.1 0 0) : ct_Inv (ct_end σ i) := by
  obtain ⟨ha, hb, hc, hd, he⟩ := h
  refine ⟨by simpa [ct_end] using ha, fun x hx1 hx2 => ?_, fun x hx => ⟨fun a h3 h7 => ?_, (hc x (by simpa [ct_end] using hx)).2⟩, fun t => ?_, fun t ht => ?_⟩
  · have hx2' : x ≤ σ.1 0 0 := by simpa [ct_end] using hx2
    obtain ⟨b1, b2, b3, b4, b5, b6, b7, b8, b9⟩ := hb x hx1 hx2'
    refine ⟨by simpa [ct_end] using b1, by simpa [ct_end] using b2, by simpa [ct_end] using b3, by simpa [ct_end] using b4, ?_, ?_, by simpa [ct_end] using b7, by simpa [ct_end] using b8, by simpa [ct_end] using b9⟩
    · intro q
      by_cases hxi : x = i
      · simp [ct_end, hxi] at q
      · simp [ct_end, hxi] at q ⊢
        exact b5 q
    · by_cases hxi : x = i
      · simp [ct_end, hxi]
      · simpa [ct_end, hxi] using b6
  · have hx' : x = 0 ∨ σ.1 0 0 < x := by simpa [ct_end] using hx
    have hxi : x ≠ i := by omega
    have := (hc x hx').1 a h3 h7
    have h9 : a ≠ 9 := by omega
    simpa [ct_end, hxi, h9] using this
  · have := hd t
    by_cases q : σ.1 9 t = i
    · simp [ct_end, q]
    · simpa [ct_end, q] using this
  · have := he t ht
    have q : σ.1 9 t ≠ i := by omega
    simpa [ct_end, q] using this
theorem ct_cut_n (σ : St) (k : Nat) : (ct_cut σ k).1 0 = σ.1 0 := by
  induction k with
  | zero => rfl
  | succ k ih =>
    unfold ct_cut
    split
    · rw [← ih]
      funext x
      simp [ct_end]
    · exact ih
theorem ct_Inv_cut {σ : St} (h : ct_Inv σ) : ∀ k, k ≤ σ.1 0 0 → ct_Inv (ct_cut σ k)
  | 0, _ => h
  | k + 1, hk => by
    have ih := ct_Inv_cut h k (by omega)
    unfold ct_cut
    split
    · exact ct_Inv_end ih (by omega) (by rw [ct_cut_n]; exact hk)
    · exact ih
theorem ct_mul_nil (σ : St) : ct_mul σ (fun _ => false) = σ := by
  refine Prod.ext (funext fun a => funext fun x => ?_) rfl
  simp only [ct_mul, Bool.false_and, Bool.false_eq_true, if_false]
  (repeat' split) <;> simp_all
theorem ct_fe {σ : St} {i : Nat} (h : ct_fails σ i = true) : ct_ends σ i = true := by simp [ct_ends, h]
theorem ct_mul_step {σ : St} {X : Nat → Bool} {i : Nat} (hi : i ≠ 0) (hX : X i = false) : ct_step (ct_mul σ X) i = ct_mul σ (fun x => X x || x == i) := by
  have e3 : (ct_mul σ X).1 3 i = σ.1 3 i := by simp [ct_mul, hX]
  have f : ct_fails (ct_mul σ X) i = ct_fails σ i := by simp [ct_fails, ct_mul, hX]
  have en : ct_ends (ct_mul σ X) i = ct_ends σ i := by
    unfold ct_ends
    rw [f, e3]
    simp [ct_mul]
  have core : ct_ends σ i = true → ∀ x, (if (ct_mul σ X).1 9 x = i then 0 else (ct_mul σ X).1 9 x) = (ct_mul σ (fun x => X x || x == i)).1 9 x := by
    intro he x
    show (if (if (X (σ.1 9 x) && ct_ends σ (σ.1 9 x)) = true then 0 else σ.1 9 x) = i then 0 else (if (X (σ.1 9 x) && ct_ends σ (σ.1 9 x)) = true then 0 else σ.1 9 x)) = (if ((X (σ.1 9 x) || σ.1 9 x == i) && ct_ends σ (σ.1 9 x)) = true then 0 else σ.1 9 x)
    by_cases h1 : (X (σ.1 9 x) && ct_ends σ (σ.1 9 x)) = true
    · have h1' := h1
      simp at h1'
      rw [if_pos h1, if_neg (Ne.symm hi), if_pos (by simp [h1'])]
    · rw [if_neg h1]
      by_cases h2 : σ.1 9 x = i
      · rw [if_pos h2, if_pos (by simp [h2, he])]
      · rw [if_neg h2, if_neg (by simpa [h2] using h1)]
  unfold ct_step
  rw [f, en, e3]
  by_cases hf : ct_fails σ i = true
  · have he := ct_fe hf
    rw [if_pos hf]
    refine Prod.ext (funext fun a => funext fun x => ?_) rfl
    by_cases a9 : a = 9
    · subst a9
      have q1 : (ct_end (ct_sg (ct_mul σ X) 5 i 1) i).1 9 x = (if (ct_mul σ X).1 9 x = i then 0 else (ct_mul σ X).1 9 x) := by simp [ct_end, ct_sg]
      rw [q1]
      exact core he x
    · by_cases hx : x = i
      · subst hx
        by_cases a3 : a = 3
        · subst a3
          simp [ct_end, ct_sg, ct_mul, hX, he, hf]
        by_cases a4 : a = 4
        · subst a4
          simp [ct_end, ct_sg, ct_mul, hX, he, hf]
        by_cases a5 : a = 5
        · subst a5
          simp [ct_end, ct_sg, ct_mul, hX, he, hf]
        by_cases a7 : a = 7
        · subst a7
          simp [ct_end, ct_sg, ct_mul, hX, he, hf]
        simp [ct_end, ct_sg, ct_mul, a3, a4, a5, a7, a9]
      · simp [ct_end, ct_sg, ct_mul, hx, a9]
  · rw [if_neg hf]
    simp at hf
    by_cases he : ct_ends σ i = true
    · rw [if_pos he]
      refine Prod.ext (funext fun a => funext fun x => ?_) rfl
      by_cases a9 : a = 9
      · subst a9
        have q1 : (ct_end (ct_sg (ct_mul σ X) 3 i (σ.1 3 i + 1)) i).1 9 x = (if (ct_mul σ X).1 9 x = i then 0 else (ct_mul σ X).1 9 x) := by simp [ct_end, ct_sg]
        rw [q1]
        exact core he x
      · by_cases hx : x = i
        · subst hx
          by_cases a3 : a = 3
          · subst a3
            simp [ct_end, ct_sg, ct_mul, hX, he, hf]
          by_cases a4 : a = 4
          · subst a4
            simp [ct_end, ct_sg, ct_mul, hX, he, hf]
          by_cases a5 : a = 5
          · subst a5
            simp [ct_end, ct_sg, ct_mul, hX, he, hf]
          by_cases a7 : a = 7
          · subst a7
            simp [ct_end, ct_sg, ct_mul, hX, he, hf]
          simp [ct_end, ct_sg, ct_mul, a3, a4, a5, a7, a9]
        · simp [ct_end, ct_sg, ct_mul, hx, a9]
    · rw [if_neg he]
      refine Prod.ext (funext fun a => funext fun x => ?_) rfl
      grind [ct_sg, ct_mul]
