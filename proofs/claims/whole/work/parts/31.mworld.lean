/-! The reference's cells. ρ: its row of ready nodes; cd: its last code. -/
def mw_c (cI cZ : ClassId) (k : Nat) : ClassId := if 4 ≤ k ∧ k ≤ 6 then cZ else cI
def mw_ob (ad : Nat → Nat) (σ : St) (cd : Int32) : List Value := [.int cd, .int (nI (σ.1 0 0)), .ref (ad 1), .ref (ad 2), .ref (ad 3), .ref (ad 4), .ref (ad 5), .ref (ad 6), .ref (ad 7), .ref (ad 8), .ref (ad 9), .ref (ad 10), .ref (ad 11), .int (nI (σ.1 0 1)), .long (σ.2.2 0), .int (nI (σ.1 0 2)), .ref (ad 12)]
def mW (cI cZ cJ : ClassId) (ad : Nat → Nat) (σ : St) (ρ : Nat → Nat) (cd : Int32) (k : Nat) : va_E :=
  if k = 0 then .inr (ciM, mw_ob ad σ cd) else if k = 8 then .inl (cJ, 31, .inr (.inl (fun i => if i = 0 then 0 else σ.2.2 i))) else if k = 9 then .inl (cZ, 31, .inl (fun i => nI (ρ i))) else if k = 10 then .inl (cI, 6231, .inl (fun j => nI (σ.2.1 (j / 201) (j % 201)))) else if k = 11 then .inl (cI, 17, .inl (fun t => nI (σ.1 9 t))) else if k = 12 then .inl (cI, 2000, .inl (fun j => nI (σ.1 10 j))) else .inl (mw_c cI cZ k, 31, .inl (fun i => nI (σ.1 k i)))
section MwEq
variable {cI cZ cJ : ClassId} {ad : Nat → Nat} {σ σ' : St} {ρ ρ' : Nat → Nat} {cd cd' : Int32} {D : va_G} {H : Heap}
theorem mW_0 : mW cI cZ cJ ad σ ρ cd 0 = .inr (ciM, mw_ob ad σ cd) := rfl
theorem mW_1 : mW cI cZ cJ ad σ ρ cd 1 = .inl (cI, 31, .inl (fun i => nI (σ.1 1 i))) := rfl
theorem mW_2 : mW cI cZ cJ ad σ ρ cd 2 = .inl (cI, 31, .inl (fun i => nI (σ.1 2 i))) := rfl
theorem mW_3 : mW cI cZ cJ ad σ ρ cd 3 = .inl (cI, 31, .inl (fun i => nI (σ.1 3 i))) := rfl
theorem mW_4 : mW cI cZ cJ ad σ ρ cd 4 = .inl (cZ, 31, .inl (fun i => nI (σ.1 4 i))) := rfl
theorem mW_5 : mW cI cZ cJ ad σ ρ cd 5 = .inl (cZ, 31, .inl (fun i => nI (σ.1 5 i))) := rfl
theorem mW_6 : mW cI cZ cJ ad σ ρ cd 6 = .inl (cZ, 31, .inl (fun i => nI (σ.1 6 i))) := rfl
theorem mW_7 : mW cI cZ cJ ad σ ρ cd 7 = .inl (cI, 31, .inl (fun i => nI (σ.1 7 i))) := rfl
theorem mW_8 : mW cI cZ cJ ad σ ρ cd 8 = .inl (cJ, 31, .inr (.inl (fun i => if i = 0 then 0 else σ.2.2 i))) := rfl
theorem mW_9 : mW cI cZ cJ ad σ ρ cd 9 = .inl (cZ, 31, .inl (fun i => nI (ρ i))) := rfl
theorem mW_10 : mW cI cZ cJ ad σ ρ cd 10 = .inl (cI, 6231, .inl (fun j => nI (σ.2.1 (j / 201) (j % 201)))) := rfl
theorem mW_11 : mW cI cZ cJ ad σ ρ cd 11 = .inl (cI, 17, .inl (fun t => nI (σ.1 9 t))) := rfl
theorem mW_12 : mW cI cZ cJ ad σ ρ cd 12 = .inl (cI, 2000, .inl (fun j => nI (σ.1 10 j))) := rfl
theorem um_of {k : Nat} {E : va_E} (h : va_P D wCl (wl ad (va_up (mW cI cZ cJ ad σ ρ cd) k E) 13) H) (e : E = mW cI cZ cJ ad σ' ρ' cd' k) (o : ∀ j, j < 13 → j ≠ k → mW cI cZ cJ ad σ' ρ' cd' j = mW cI cZ cJ ad σ ρ cd j) : va_P D wCl (wl ad (mW cI cZ cJ ad σ' ρ' cd') 13) H := by
  rw [show wl ad (mW cI cZ cJ ad σ' ρ' cd') 13 = wl ad (va_up (mW cI cZ cJ ad σ ρ cd) k E) 13 from wl_congr (fun _ _ => rfl) (fun j hj => ?_)]
  · exact h
  · by_cases q : j = k
    · subst q
      rw [va_up_self, e]
    · rw [va_up_ne _ _ q, o j hj q]
theorem upd_nI {f : Nat → Nat} {i v : Nat} : upd (fun x => nI (f x)) i (nI v) = fun x => nI (if x = i then v else f x) := by
  funext x
  unfold upd
  split <;> rfl
/-- a row of the nodes' -/
theorem um_at {a i v : Nat} (h1 : 1 ≤ a) (h7 : a ≤ 7) {cA : ClassId} (hc : cA = mw_c cI cZ a) (h : va_P D wCl (wl ad (va_up (mW cI cZ cJ ad σ ρ cd) a (.inl (cA, 31, .inl (upd (fun x => nI (σ.1 a x)) i (nI v))))) 13) H) : va_P D wCl (wl ad (mW cI cZ cJ ad (ct_sg σ a i v) ρ cd) 13) H := by
  refine um_of h ?_ (fun j hj hne => ?_)
  · unfold mW
    rw [if_neg (by omega), if_neg (by omega), if_neg (by omega), if_neg (by omega), if_neg (by omega), if_neg (by omega), hc, upd_nI]
    simp [ct_sg]
  · have e0 : ¬ 0 = a := by omega
    have e9 : ¬ 9 = a := by omega
    have e10 : ¬ 10 = a := by omega
    unfold mW
    (repeat' split) <;> simp_all [ct_sg, mw_ob]
theorem um_9 {i v : Nat} (h : va_P D wCl (wl ad (va_up (mW cI cZ cJ ad σ ρ cd) 9 (.inl (cZ, 31, .inl (upd (fun x => nI (ρ x)) i (nI v))))) 13) H) : va_P D wCl (wl ad (mW cI cZ cJ ad σ (va_up ρ i v) cd) 13) H := by
  refine um_of h ?_ (fun j hj hne => ?_)
  · rw [mW_9, upd_nI]
    rfl
  · unfold mW
    (repeat' split) <;> first | rfl | omega
theorem um_11 {i v : Nat} (h : va_P D wCl (wl ad (va_up (mW cI cZ cJ ad σ ρ cd) 11 (.inl (cI, 17, .inl (upd (fun x => nI (σ.1 9 x)) i (nI v))))) 13) H) : va_P D wCl (wl ad (mW cI cZ cJ ad (ct_sg σ 9 i v) ρ cd) 13) H := by
  refine um_of h ?_ (fun j hj hne => ?_)
  · rw [mW_11, upd_nI]
    simp [ct_sg]
  · unfold mW
    (repeat' split) <;> simp_all [ct_sg, mw_ob] <;> omega
theorem um_12 {i v : Nat} (h : va_P D wCl (wl ad (va_up (mW cI cZ cJ ad σ ρ cd) 12 (.inl (cI, 2000, .inl (upd (fun x => nI (σ.1 10 x)) i (nI v))))) 13) H) : va_P D wCl (wl ad (mW cI cZ cJ ad (ct_sg σ 10 i v) ρ cd) 13) H := by
  refine um_of h ?_ (fun j hj hne => ?_)
  · rw [mW_12, upd_nI]
    simp [ct_sg]
  · unfold mW
    (repeat' split) <;> simp_all [ct_sg, mw_ob] <;> omega
theorem um_10 {i t v : Nat} (ht : t ≤ 200) (h : va_P D wCl (wl ad (va_up (mW cI cZ cJ ad σ ρ cd) 10 (.inl (cI, 6231, .inl (upd (fun j => nI (σ.2.1 (j / 201) (j % 201))) (201 * i + t) (nI v))))) 13) H) : va_P D wCl (wl ad (mW cI cZ cJ ad (ct_sw σ i t v) ρ cd) 13) H := by
  refine um_of h ?_ (fun j hj hne => ?_)
  · rw [mW_10]
    congr 4
    funext x
    unfold upd
    have e : (x = 201 * i + t) ↔ (x / 201 = i ∧ x % 201 = t) := by omega
    by_cases q : x = 201 * i + t
    · rw [if_pos q]
      simp [ct_sw, e.mp q]
    · rw [if_neg q]
      show nI _ = nI (if _ then _ else _)
      rw [if_neg (fun z => q (e.mpr z))]
  · unfold mW
    (repeat' split) <;> simp_all [ct_sw, mw_ob]
theorem um_8 {i : Nat} {v : Int64} (hi : 1 ≤ i) (h : va_P D wCl (wl ad (va_up (mW cI cZ cJ ad σ ρ cd) 8 (.inl (cJ, 31, .inr (.inl (vp_updL (fun x => if x = 0 then 0 else σ.2.2 x) i v))))) 13) H) : va_P D wCl (wl ad (mW cI cZ cJ ad (ct_sl σ i v) ρ cd) 13) H := by
  refine um_of h ?_ (fun j hj hne => ?_)
  · rw [mW_8]
    congr 5
    funext x
    unfold vp_updL
    by_cases q : x = i
    · subst q
      rw [if_pos rfl, if_neg (by omega)]
      simp [ct_sl]
    · rw [if_neg q]
      simp [ct_sl, q]
  · have h0 : ¬ (0 : Nat) = i := by omega
    unfold mW
    (repeat' split) <;> simp_all [ct_sl, mw_ob]
/-- a write at the object -/
theorem um_ob {fs : List Value} (h : va_P D wCl (wl ad (va_up (mW cI cZ cJ ad σ ρ cd) 0 (.inr (ciM, fs))) 13) H) (e0 : fs = mw_ob ad σ' cd') (e1 : ∀ a, a ≠ 0 → σ'.1 a = σ.1 a) (e2 : σ'.2.1 = σ.2.1) (e3 : ∀ i, i ≠ 0 → σ'.2.2 i = σ.2.2 i) : va_P D wCl (wl ad (mW cI cZ cJ ad σ' ρ cd') 13) H := by
  refine um_of h (by rw [e0, mW_0]) (fun j hj hne => ?_)
  unfold mW
  have e8 : (fun i => if i = 0 then (0 : Int64) else σ'.2.2 i) = (fun i => if i = 0 then 0 else σ.2.2 i) := by
    funext i
    split
    · rfl
    · rename_i q
      exact e3 i q
  rw [e8, e1 9 (by omega), e1 10 (by omega), e1 j hne, e2]
  simp [hne]
end MwEq
