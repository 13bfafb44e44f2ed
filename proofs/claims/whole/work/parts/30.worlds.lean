/-! The class's cells and the reference's cells, out of one state. ciT, ciN, ciM: the places of the three classes in wCl. -/
abbrev xq (f : Nat → Option Nat) : (Nat → Int32) ⊕ (Nat → Int64) ⊕ (Nat → UInt32) ⊕ (Nat → UInt64) ⊕ (Nat → Option Nat) := .inr (.inr (.inr (.inr f)))
def cw_rf (ad : Nat → Nat) (v : Nat) : Option Nat := if v = 0 then none else some (ad (3 + 2 * v))
def cw_ob (ad : Nat → Nat) (σ : St) (τ : Nat → Nat → Nat) : List Value := [.ref (ad 1), .int (nI (σ.1 0 0)), .ref (ad 2), .ref (ad 3), .int (nI (τ 2 0)), .ref (ad 4), .int (nI (σ.1 0 2)), .int (nI (σ.1 0 1)), .long (σ.2.2 0)]
def cw_nd (ad : Nat → Nat) (σ : St) (τ : Nat → Nat → Nat) (i : Nat) : List Value := [.int (nI i), .int (nI (σ.1 1 i)), .int (nI (σ.1 2 i)), .ref (ad (4 + 2 * i)), .int (nI (σ.1 3 i)), .int (nI (1 - σ.1 4 i)), .int (nI (τ 0 i)), .int (nI (τ 1 i)), .int (nI (σ.1 6 i)), .int (nI (σ.1 5 i)), .int (nI (σ.1 7 i)), .long (σ.2.2 i)]
def cw_ns (ad : Nat → Nat) (n : Nat) (j : Nat) : Option Nat := if j < n then some (ad (3 + 2 * (j + 1))) else none
def cW (cN cI : ClassId) (ad : Nat → Nat) (σ : St) (τ : Nat → Nat → Nat) (tr : Nat → Int32) (k : Nat) : va_E :=
  if k = 0 then .inr (ciT, cw_ob ad σ τ) else if k = 1 then .inl (cN, 30, xq (cw_ns ad (σ.1 0 0))) else if k = 2 then .inl (cN, 16, xq (fun t => cw_rf ad (σ.1 9 (t + 1)))) else if k = 3 then .inl (cI, 500, .inl tr) else if k = 4 then .inl (cI, 2000, .inl (fun j => nI (σ.1 10 j))) else if k % 2 = 1 then .inr (ciN, cw_nd ad σ τ ((k - 3) / 2)) else .inl (cN, σ.1 1 ((k - 4) / 2) + 1, xq (fun s => cw_rf ad (σ.2.1 ((k - 4) / 2) s)))
section CwEq
variable {cN cI : ClassId} {ad : Nat → Nat} {σ : St} {τ : Nat → Nat → Nat} {tr : Nat → Int32}
theorem cW_0 : cW cN cI ad σ τ tr 0 = .inr (ciT, cw_ob ad σ τ) := rfl
theorem cW_1 : cW cN cI ad σ τ tr 1 = .inl (cN, 30, xq (cw_ns ad (σ.1 0 0))) := rfl
theorem cW_2 : cW cN cI ad σ τ tr 2 = .inl (cN, 16, xq (fun t => cw_rf ad (σ.1 9 (t + 1)))) := rfl
theorem cW_3 : cW cN cI ad σ τ tr 3 = .inl (cI, 500, .inl tr) := rfl
theorem cW_4 : cW cN cI ad σ τ tr 4 = .inl (cI, 2000, .inl (fun j => nI (σ.1 10 j))) := rfl
theorem cW_nd {i : Nat} (h : 1 ≤ i) : cW cN cI ad σ τ tr (3 + 2 * i) = .inr (ciN, cw_nd ad σ τ i) := by
  unfold cW
  rw [if_neg (by omega), if_neg (by omega), if_neg (by omega), if_neg (by omega), if_neg (by omega), if_pos (by omega), show (3 + 2 * i - 3) / 2 = i by omega]
theorem cW_aw {i : Nat} (h : 1 ≤ i) : cW cN cI ad σ τ tr (4 + 2 * i) = .inl (cN, σ.1 1 i + 1, xq (fun s => cw_rf ad (σ.2.1 i s))) := by
  unfold cW
  rw [if_neg (by omega), if_neg (by omega), if_neg (by omega), if_neg (by omega), if_neg (by omega), if_neg (by omega), show (4 + 2 * i - 4) / 2 = i by omega]
end CwEq
/-- two class worlds, cell by cell -/
theorem cW_ext {cN cI : ClassId} {ad : Nat → Nat} {C : Nat → va_E} {σ : St} {τ : Nat → Nat → Nat} {tr : Nat → Int32} {n : Nat} (h0 : C 0 = .inr (ciT, cw_ob ad σ τ)) (h1 : C 1 = .inl (cN, 30, xq (cw_ns ad (σ.1 0 0)))) (h2 : C 2 = .inl (cN, 16, xq (fun t => cw_rf ad (σ.1 9 (t + 1))))) (h3 : C 3 = .inl (cI, 500, .inl tr)) (h4 : C 4 = .inl (cI, 2000, .inl (fun j => nI (σ.1 10 j)))) (hn : ∀ i, 1 ≤ i → i ≤ n → C (3 + 2 * i) = .inr (ciN, cw_nd ad σ τ i)) (ha : ∀ i, 1 ≤ i → i ≤ n → C (4 + 2 * i) = .inl (cN, σ.1 1 i + 1, xq (fun s => cw_rf ad (σ.2.1 i s)))) : wl ad C (5 + 2 * n) = wl ad (cW cN cI ad σ τ tr) (5 + 2 * n) := by
  refine wl_congr (fun _ _ => rfl) (fun k hk => ?_)
  by_cases e : k < 5
  · rcases (show k = 0 ∨ k = 1 ∨ k = 2 ∨ k = 3 ∨ k = 4 by omega) with rfl | rfl | rfl | rfl | rfl
    · rw [h0, cW_0]
    · rw [h1, cW_1]
    · rw [h2, cW_2]
    · rw [h3, cW_3]
    · rw [h4, cW_4]
  · by_cases o : k % 2 = 1
    · obtain ⟨i, rfl⟩ : ∃ i, k = 3 + 2 * i := ⟨(k - 3) / 2, by omega⟩
      rw [hn i (by omega) (by omega), cW_nd (by omega)]
    · obtain ⟨i, rfl⟩ : ∃ i, k = 4 + 2 * i := ⟨(k - 4) / 2, by omega⟩
      rw [ha i (by omega) (by omega), cW_aw (by omega)]
section CwPut
variable {cN cI : ClassId} {ad : Nat → Nat} {σ σ' : St} {τ τ' : Nat → Nat → Nat} {tr tr' : Nat → Int32} {D : va_G} {H : Heap} {n : Nat}
/-- a write at the object -/
theorem up_ob {fs : List Value} (h : va_P D wCl (wl ad (va_up (cW cN cI ad σ τ tr) 0 (.inr (ciT, fs))) (5 + 2 * n)) H) (e0 : fs = cw_ob ad σ' τ') (e1 : σ'.1 0 0 = σ.1 0 0) (e2 : σ'.1 9 = σ.1 9) (e4 : σ'.1 10 = σ.1 10) (en : ∀ i, 1 ≤ i → i ≤ n → cw_nd ad σ' τ' i = cw_nd ad σ τ i) (e5 : σ'.1 1 = σ.1 1) (e6 : σ'.2.1 = σ.2.1) : va_P D wCl (wl ad (cW cN cI ad σ' τ' tr) (5 + 2 * n)) H := by
  rw [← cW_ext (C := va_up (cW cN cI ad σ τ tr) 0 (.inr (ciT, fs)))]
  · exact h
  · rw [va_up_self, e0]
  · rw [va_up_ne _ _ (by omega), cW_1, e1]
  · rw [va_up_ne _ _ (by omega), cW_2, e2]
  · rw [va_up_ne _ _ (by omega), cW_3]
  · rw [va_up_ne _ _ (by omega), cW_4, e4]
  · intro i h1 h2
    rw [va_up_ne _ _ (by omega), cW_nd h1, en i h1 h2]
  · intro i h1 h2
    rw [va_up_ne _ _ (by omega), cW_aw h1, e5, e6]
/-- a write at node j -/
theorem up_nd {j : Nat} {fs : List Value} (h : va_P D wCl (wl ad (va_up (cW cN cI ad σ τ tr) (3 + 2 * j) (.inr (ciN, fs))) (5 + 2 * n)) H) (hj : 1 ≤ j) (e0 : fs = cw_nd ad σ' τ' j) (en : ∀ i, i ≠ j → 1 ≤ i → cw_nd ad σ' τ' i = cw_nd ad σ τ i) (eo : cw_ob ad σ' τ' = cw_ob ad σ τ) (e1 : σ'.1 0 0 = σ.1 0 0) (e2 : σ'.1 9 = σ.1 9) (e4 : σ'.1 10 = σ.1 10) (e5 : σ'.1 1 = σ.1 1) (e6 : σ'.2.1 = σ.2.1) : va_P D wCl (wl ad (cW cN cI ad σ' τ' tr) (5 + 2 * n)) H := by
  rw [← cW_ext (C := va_up (cW cN cI ad σ τ tr) (3 + 2 * j) (.inr (ciN, fs)))]
  · exact h
  · rw [va_up_ne _ _ (by omega), cW_0, eo]
  · rw [va_up_ne _ _ (by omega), cW_1, e1]
  · rw [va_up_ne _ _ (by omega), cW_2, e2]
  · rw [va_up_ne _ _ (by omega), cW_3]
  · rw [va_up_ne _ _ (by omega), cW_4, e4]
  · intro i h1 h2
    by_cases hij : i = j
    · subst hij
      rw [va_up_self, e0]
    · rw [va_up_ne _ _ (by omega), cW_nd h1, en i hij h1]
  · intro i h1 h2
    rw [va_up_ne _ _ (by omega), cW_aw h1, e5, e6]
theorem up_2 {f : Nat → Option Nat} (h : va_P D wCl (wl ad (va_up (cW cN cI ad σ τ tr) 2 (.inl (cN, 16, xq f))) (5 + 2 * n)) H) (e0 : f = fun t => cw_rf ad (σ'.1 9 (t + 1))) (en : ∀ a, a ≠ 9 → σ'.1 a = σ.1 a) (e6 : σ'.2 = σ.2) : va_P D wCl (wl ad (cW cN cI ad σ' τ tr) (5 + 2 * n)) H := by
  rw [← cW_ext (C := va_up (cW cN cI ad σ τ tr) 2 (.inl (cN, 16, xq f)))]
  · exact h
  · rw [va_up_ne _ _ (by omega), cW_0]
    simp only [cw_ob, en 0 (by omega), e6]
  · rw [va_up_ne _ _ (by omega), cW_1, en 0 (by omega)]
  · rw [va_up_self, e0]
  · rw [va_up_ne _ _ (by omega), cW_3]
  · rw [va_up_ne _ _ (by omega), cW_4, en 10 (by omega)]
  · intro i h1 h2
    rw [va_up_ne _ _ (by omega), cW_nd h1]
    simp only [cw_nd, en 1 (by omega), en 2 (by omega), en 3 (by omega), en 4 (by omega), en 5 (by omega), en 6 (by omega), en 7 (by omega), e6]
  · intro i h1 h2
    rw [va_up_ne _ _ (by omega), cW_aw h1, en 1 (by omega), e6]
theorem up_3 (h : va_P D wCl (wl ad (va_up (cW cN cI ad σ τ tr) 3 (.inl (cI, 500, .inl tr'))) (5 + 2 * n)) H) : va_P D wCl (wl ad (cW cN cI ad σ τ tr') (5 + 2 * n)) H := by
  rw [← cW_ext (C := va_up (cW cN cI ad σ τ tr) 3 (.inl (cI, 500, .inl tr')))]
  · exact h
  · rw [va_up_ne _ _ (by omega), cW_0]
  · rw [va_up_ne _ _ (by omega), cW_1]
  · rw [va_up_ne _ _ (by omega), cW_2]
  · rw [va_up_self]
  · rw [va_up_ne _ _ (by omega), cW_4]
  · intro i h1 h2
    rw [va_up_ne _ _ (by omega), cW_nd h1]
  · intro i h1 h2
    rw [va_up_ne _ _ (by omega), cW_aw h1]
theorem up_4 {f : Nat → Int32} (h : va_P D wCl (wl ad (va_up (cW cN cI ad σ τ tr) 4 (.inl (cI, 2000, .inl f))) (5 + 2 * n)) H) (e0 : f = fun j => nI (σ'.1 10 j)) (en : ∀ a, a ≠ 10 → σ'.1 a = σ.1 a) (e6 : σ'.2 = σ.2) : va_P D wCl (wl ad (cW cN cI ad σ' τ tr) (5 + 2 * n)) H := by
  rw [← cW_ext (C := va_up (cW cN cI ad σ τ tr) 4 (.inl (cI, 2000, .inl f)))]
  · exact h
  · rw [va_up_ne _ _ (by omega), cW_0]
    simp only [cw_ob, en 0 (by omega), e6]
  · rw [va_up_ne _ _ (by omega), cW_1, en 0 (by omega)]
  · rw [va_up_ne _ _ (by omega), cW_2, en 9 (by omega)]
  · rw [va_up_ne _ _ (by omega), cW_3]
  · rw [va_up_self, e0]
  · intro i h1 h2
    rw [va_up_ne _ _ (by omega), cW_nd h1]
    simp only [cw_nd, en 1 (by omega), en 2 (by omega), en 3 (by omega), en 4 (by omega), en 5 (by omega), en 6 (by omega), en 7 (by omega), e6]
  · intro i h1 h2
    rw [va_up_ne _ _ (by omega), cW_aw h1, en 1 (by omega), e6]
theorem up_aw {j : Nat} {f : Nat → Option Nat} (h : va_P D wCl (wl ad (va_up (cW cN cI ad σ τ tr) (4 + 2 * j) (.inl (cN, σ.1 1 j + 1, xq f))) (5 + 2 * n)) H) (hj : 1 ≤ j) (e0 : f = fun s => cw_rf ad (σ'.2.1 j s)) (en : ∀ i, i ≠ j → σ'.2.1 i = σ.2.1 i) (e1 : σ'.1 = σ.1) (e6 : σ'.2.2 = σ.2.2) : va_P D wCl (wl ad (cW cN cI ad σ' τ tr) (5 + 2 * n)) H := by
  rw [← cW_ext (C := va_up (cW cN cI ad σ τ tr) (4 + 2 * j) (.inl (cN, σ.1 1 j + 1, xq f)))]
  · exact h
  · rw [va_up_ne _ _ (by omega), cW_0]
    simp only [cw_ob, e1, e6]
  · rw [va_up_ne _ _ (by omega), cW_1, e1]
  · rw [va_up_ne _ _ (by omega), cW_2, e1]
  · rw [va_up_ne _ _ (by omega), cW_3]
  · rw [va_up_ne _ _ (by omega), cW_4, e1]
  · intro i h1 h2
    rw [va_up_ne _ _ (by omega), cW_nd h1]
    simp only [cw_nd, e1, e6]
  · intro i h1 h2
    by_cases hij : i = j
    · subst hij
      rw [va_up_self, e0, e1]
    · rw [va_up_ne _ _ (by omega), cW_aw h1, en i hij, e1]
end CwPut
