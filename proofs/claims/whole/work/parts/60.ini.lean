/-! Facts for the constructors. -/
theorem ra_obj {s : State} {C : String} {a b : ClassId} (h1 : va_RA s a (.object C)) (h2 : va_RA s b (.object C)) : a = b := by
  obtain ⟨_, _, _, _, _, e1⟩ := h1
  obtain ⟨_, _, _, _, _, e2⟩ := h2
  exact Option.some.inj (e1.symm.trans e2)
theorem ra_int {s : State} {a b : ClassId} (h1 : va_RA s a .int) (h2 : va_RA s b .int) : a = b := Option.some.inj ((va_nm_int h1).symm.trans (va_nm_int h2))
theorem ra_bool {s : State} {a b : ClassId} (h1 : va_RA s a .boolean) (h2 : va_RA s b .boolean) : a = b := Option.some.inj ((va_nm_boolean h1).symm.trans (va_nm_boolean h2))
def ad5 (h0 q1 q2 q3 q4 : Nat) (k : Nat) : Nat := if k = 0 then h0 else if k = 1 then q1 else if k = 2 then q2 else if k = 3 then q3 else q4
theorem ad5_w {h0 q1 q2 q3 q4 : Nat} {cN cI : ClassId} : wl (ad5 h0 q1 q2 q3 q4) (cW cN cI (ad5 h0 q1 q2 q3 q4) ct_0 (fun _ _ => 0) (fun _ => 0)) 5 = [(h0, .inr (ciT, [.ref q1, .int 0, .ref q2, .ref q3, .int 0, .ref q4, .int 0, .int 0, .long 0])), (q1, .inl (cN, 30, xq (fun _ => none))), (q2, .inl (cN, 16, xq (fun _ => none))), (q3, .inl (cI, 500, .inl (fun _ => 0))), (q4, .inl (cI, 2000, .inl (fun _ => 0)))] := by
  have e1 : cw_ns (ad5 h0 q1 q2 q3 q4) (ct_0.1 0 0) = fun _ => none := by
    funext j
    unfold cw_ns
    rw [if_neg (show ¬ j < ct_0.1 0 0 from Nat.not_lt_zero j)]
  have e2 : (fun t => cw_rf (ad5 h0 q1 q2 q3 q4) (ct_0.1 9 (t + 1))) = fun _ => none := by
    funext j
    rfl
  have e : wl (ad5 h0 q1 q2 q3 q4) (cW cN cI (ad5 h0 q1 q2 q3 q4) ct_0 (fun _ _ => 0) (fun _ => 0)) 5 = [(h0, .inr (ciT, cw_ob (ad5 h0 q1 q2 q3 q4) ct_0 (fun _ _ => 0))), (q1, .inl (cN, 30, xq (cw_ns (ad5 h0 q1 q2 q3 q4) (ct_0.1 0 0)))), (q2, .inl (cN, 16, xq (fun t => cw_rf (ad5 h0 q1 q2 q3 q4) (ct_0.1 9 (t + 1))))), (q3, .inl (cI, 500, .inl (fun _ => 0))), (q4, .inl (cI, 2000, .inl (fun _ => 0)))] := rfl
  rw [e, e1, e2]
  rfl
theorem ini_i (N : Nat) (cA : ClassId) : vp_cell cA (N, .inl (fun _ => 0)) = arrV cA N (fun _ => defaultValue .int) := by
  rw [vp_cell_i]
  rfl
theorem ini_z (N : Nat) (cA : ClassId) : vp_cell cA (N, .inl (fun _ => 0)) = arrV cA N (fun _ => defaultValue .boolean) := by
  rw [vp_cell_i]
  rfl
theorem ini_l (N : Nat) (cA : ClassId) : vp_cell cA (N, .inr (.inl (fun _ => 0))) = arrV cA N (fun _ => defaultValue .long) := by
  rw [vp_cell_l]
  rfl
