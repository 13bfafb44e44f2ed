/-! The world behind a new node. -/
def nA (ad : Nat → Nat) (n sz : Nat) : Nat → Prop := fun q => wA ad (5 + 2 * n) q ∨ sz ≤ q
def ad2 (ad : Nat → Nat) (n q q2 : Nat) : Nat → Nat := va_up (va_up ad (5 + 2 * n) q) (5 + 2 * n + 1) q2
theorem ad2_lo {ad : Nat → Nat} {n q q2 k : Nat} (h : k < 5 + 2 * n) : ad2 ad n q q2 k = ad k := by
  unfold ad2
  rw [va_up_ne _ _ (by omega), va_up_ne _ _ (by omega)]
theorem ad2_a {ad : Nat → Nat} {n q q2 : Nat} : ad2 ad n q q2 (5 + 2 * n) = q := by
  unfold ad2
  rw [va_up_ne _ _ (by omega), va_up_self]
theorem ad2_b {ad : Nat → Nat} {n q q2 : Nat} : ad2 ad n q q2 (5 + 2 * n + 1) = q2 := by
  unfold ad2
  rw [va_up_self]
def nF (n a b q2 : Nat) : List Value := [.int (nI (n + 1)), .int (nI a), .int (nI b), .ref q2, .int 0, .int (nI 1), .int 0, .int 0, .int 0, .int 0, .int 0, .long (-1)]
def nK (cN : ClassId) (K : Nat → va_E) (n a b q2 : Nat) : Nat → va_E := va_up (va_up K (5 + 2 * n) (.inr (ciN, nF n a b q2))) (5 + 2 * n + 1) (.inl (cN, a + 1, xq (fun _ => none)))
theorem nK_lo {cN : ClassId} {K : Nat → va_E} {n a b q2 k : Nat} (h : k < 5 + 2 * n) : nK cN K n a b q2 k = K k := by
  unfold nK
  rw [va_up_ne _ _ (by omega), va_up_ne _ _ (by omega)]
theorem nK_a {cN : ClassId} {K : Nat → va_E} {n a b q2 : Nat} : nK cN K n a b q2 (5 + 2 * n) = .inr (ciN, nF n a b q2) := by
  unfold nK
  rw [va_up_ne _ _ (by omega), va_up_self]
theorem nK_b {cN : ClassId} {K : Nat → va_E} {n a b q2 : Nat} : nK cN K n a b q2 (5 + 2 * n + 1) = .inl (cN, a + 1, xq (fun _ => none)) := by
  unfold nK
  rw [va_up_self]
theorem nK_w {cN : ClassId} {K : Nat → va_E} {ad : Nat → Nat} {n a b q q2 : Nat} : wl (ad2 ad n q q2) (nK cN K n a b q2) (5 + 2 * n + 1 + 1) = wl ad K (5 + 2 * n) ++ [(q, .inr (ciN, nF n a b q2))] ++ [(q2, .inl (cN, a + 1, xq (fun _ => none)))] := by
  rw [wl_push, wl_push]
  rfl
def nT (τ : Nat → Nat → Nat) (n : Nat) : Nat → Nat → Nat := tu (tu τ 0 (n + 1) 0) 1 (n + 1) 0
theorem nT_k {τ : Nat → Nat → Nat} (h : tK τ) (n : Nat) : tK (nT τ n) := by
  refine ⟨fun i => ?_, fun i => ?_, h.2.2⟩
  · simp only [nT, tu]
    (repeat' split) <;> first | omega | exact h.1 i
  · simp only [nT, tu]
    (repeat' split) <;> first | rfl | exact h.2.1 i
set_option maxHeartbeats 1000000 in
theorem nW {cN cI : ClassId} {ad : Nat → Nat} {σ : St} {τ : Nat → Nat → Nat} {tr : Nat → Int32} {n a b q q2 : Nat} (hv : ct_Inv σ) (hn : σ.1 0 0 = n) : wl (ad2 ad n q q2) (va_up (va_up (nK cN (cW cN cI ad σ τ tr) n a b q2) 1 (.inl (cN, 30, xq (va_up (cw_ns ad (σ.1 0 0)) n (some (ad2 ad n q q2 (5 + 2 * n))))))) 0 (.inr (ciT, (cw_ob ad σ τ).set 1 (.int (nI (σ.1 0 0 + 1)))))) (5 + 2 * (n + 1)) = wl (ad2 ad n q q2) (cW cN cI (ad2 ad n q q2) (ct_new σ a b) (nT τ n) tr) (5 + 2 * (n + 1)) := by
  have rf : ∀ v, v ≤ n → cw_rf ad v = cw_rf (ad2 ad n q q2) v := by
    intro v h
    unfold cw_rf
    split
    · rfl
    · rw [ad2_lo (by omega)]
  have nn : (ct_new σ a b).1 0 0 = n + 1 := by simp [ct_new, ct_sg, ct_sl, hn]
  have n9 : (ct_new σ a b).1 9 = σ.1 9 := by funext x; simp [ct_new, ct_sg, ct_sl]
  have n10 : (ct_new σ a b).1 10 = σ.1 10 := by funext x; simp [ct_new, ct_sg, ct_sl]
  refine cW_ext ?_ ?_ ?_ ?_ ?_ ?_ ?_
  · rw [va_up_self]
    unfold cw_ob
    rw [nn, ad2_lo (by omega), ad2_lo (by omega), ad2_lo (by omega), ad2_lo (by omega)]
    simp [ct_new, ct_sg, ct_sl, hn, nT, tu]
  · rw [va_up_ne _ _ (by omega), va_up_self, nn]
    congr 4
    funext j
    by_cases h : j = n
    · subst h
      rw [va_up_self]
      unfold cw_ns
      rw [if_pos (by omega), show 3 + 2 * (j + 1) = 5 + 2 * j by omega]
    · rw [va_up_ne _ _ h, hn]
      unfold cw_ns
      by_cases h2 : j < n
      · rw [if_pos h2, if_pos (by omega), ad2_lo (by omega)]
      · rw [if_neg h2, if_neg (by omega)]
  · rw [va_up_ne _ _ (by omega), va_up_ne _ _ (by omega), nK_lo (by omega), cW_2, n9]
    congr 4
    funext t
    exact rf _ (by rw [← hn]; exact hv.2.2.2.1 _)
  · rw [va_up_ne _ _ (by omega), va_up_ne _ _ (by omega), nK_lo (by omega), cW_3]
  · rw [va_up_ne _ _ (by omega), va_up_ne _ _ (by omega), nK_lo (by omega), cW_4, n10]
  · intro i h1 h2
    rw [va_up_ne _ _ (by omega), va_up_ne _ _ (by omega)]
    by_cases h : i = n + 1
    · subst h
      rw [show 3 + 2 * (n + 1) = 5 + 2 * n by omega, nK_a]
      obtain ⟨z1, z2⟩ := hv.2.2.1 (n + 1) (by omega)
      have y3 : σ.1 3 (n + 1) = 0 := z1 3 (by omega) (by omega)
      have y4 : σ.1 4 (n + 1) = 0 := z1 4 (by omega) (by omega)
      have y5 : σ.1 5 (n + 1) = 0 := z1 5 (by omega) (by omega)
      have y6 : σ.1 6 (n + 1) = 0 := z1 6 (by omega) (by omega)
      have y7 : σ.1 7 (n + 1) = 0 := z1 7 (by omega) (by omega)
      unfold cw_nd nF
      rw [show 4 + 2 * (n + 1) = 5 + 2 * n + 1 by omega, ad2_b]
      simp [ct_new, ct_sg, ct_sl, hn, nT, tu, y3, y4, y5, y6, y7, nI_0]
    · rw [nK_lo (by omega), cW_nd h1]
      unfold cw_nd
      rw [ad2_lo (by omega)]
      simp [ct_new, ct_sg, ct_sl, hn, nT, tu, h]
  · intro i h1 h2
    rw [va_up_ne _ _ (by omega), va_up_ne _ _ (by omega)]
    by_cases h : i = n + 1
    · subst h
      rw [show 4 + 2 * (n + 1) = 5 + 2 * n + 1 by omega, nK_b]
      obtain ⟨z1, z2⟩ := hv.2.2.1 (n + 1) (by omega)
      have e1 : (ct_new σ a b).1 1 (n + 1) = a := by simp [ct_new, ct_sg, ct_sl, hn]
      have e2 : (fun s => cw_rf (ad2 ad n q q2) ((ct_new σ a b).2.1 (n + 1) s)) = fun _ => none := by
        funext s
        show cw_rf _ (σ.2.1 (n + 1) s) = none
        rw [z2 s]
        rfl
      rw [e1, e2]
    · rw [nK_lo (by omega), cW_aw h1]
      have e1 : (ct_new σ a b).1 1 i = σ.1 1 i := by simp [ct_new, ct_sg, ct_sl, hn, h]
      have e2 : (fun s => cw_rf (ad2 ad n q q2) ((ct_new σ a b).2.1 i s)) = fun s => cw_rf ad (σ.2.1 i s) := by
        funext s
        show cw_rf _ (σ.2.1 i s) = _
        exact (rf _ (by rw [← hn]; exact (hv.2.1 i h1 (by omega)).2.2.2.2.2.2.2.2 s)).symm
      rw [e1, e2]
