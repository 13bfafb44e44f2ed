section P62
abbrev rm_c_CT : Room := { frames := 1, cells := 4, slots := 2546, locals := 12 }
set_option maxHeartbeats 1000000 in
set_option maxRecDepth 100000 in
theorem c_CT (l : Launch) {D : va_G} (h0 sz : Nat) : Met l yX1_init wsX1_init rm_c_CT (va_Pc [.ref h0] (fun U => U.heap.size = sz ∧ va_P D wCl [(h0, .inr (ciT, [.null, .int 0, .null, .null, .int 0, .null, .int 0, .int 0, .long 0]))] U.heap ∧ va_K D wCl [] U ∧ va_AO RX0 U)) (va_Qv (fun u : (Nat → Nat) × ClassId × ClassId => u.1 0 = h0) (fun u t => va_P D wCl (wl u.1 (cW u.2.1 u.2.2 u.1 ct_0 (fun _ _ => 0) (fun _ => 0)) 5) t.heap ∧ va_K D wCl (tyC u.2.1 u.2.2) t ∧ va_D (va_A [(h0, .inr (ciT, [.null, .int 0, .null, .null, .int 0, .null, .int 0, .int 0, .long 0]))] sz) (wl u.1 (cW u.2.1 u.2.2 u.1 ct_0 (fun _ _ => 0) (fun _ => 0)) 5)) (va_A [(h0, .inr (ciT, [.null, .int 0, .null, .null, .int 0, .null, .int 0, .int 0, .long 0]))] sz)) 4 2546 (va_A [(h0, .inr (ciT, [.null, .int 0, .null, .null, .int 0, .null, .int 0, .int 0, .long 0]))] sz) := by
  refine Met.go (cc := cX1_init) (maxL := 1) (ret := none) (by decide) rfl (Nat.le_of_ble_eq_true rfl) ?_
  intro p e s m below meth c ls args Q ⟨hx, hb, hml, hown, hts⟩ hr hlocks hnm ⟨hsz, hP, hK, hO⟩ hl hQ
  have hl : lv_has ls 1 [(0, .ref h0)] := hl
  have hin := hnm rfl
  subst hsz
  have hD : va_D (va_A [(h0, .inr (ciT, [.null, .int 0, .null, .null, .int 0, .null, .int 0, .int 0, .long 0]))] s.heap.size) [(h0, .inr (ciT, [.null, .int 0, .null, .null, .int 0, .null, .int 0, .int 0, .long 0]))] := ⟨fun i j p q hp hq _ => by have e1 := (List.getElem?_eq_some_iff.mp hp).1; have e2 := (List.getElem?_eq_some_iff.mp hq).1; simp at e1 e2; omega, fun k q hk => va_A.in hk⟩
  subst hQ
  generalize hAe : va_A [(h0, .inr (ciT, [.null, .int 0, .null, .null, .int 0, .null, .int 0, .int 0, .long 0]))] s.heap.size = A at hD ⊢
  have hA : ∀ q : Nat, s.heap.size ≤ q → A q := fun q h => by rw [← hAe]; exact Or.inr h
  have hS : va_S A s.heap s.heap [] := va_S.rf
  refine lv_aload_n hx hb dX1_init_0 rfl (lv_at hl 0 rfl) ?_
  refine W.objInit hx hb hown (hts (.methodLink RX1 1 objectInit) (by decide +kernel)) (hts (.instanceMethod objectInit) (by decide +kernel)) (hts _ (List.mem_cons_of_mem _ (List.mem_append_left _ (List.mem_of_getElem? (i := 2) rfl)))) rfl (by rw [hml]; exact hl.1) rfl dX1_init_1 (Nat.le_of_ble_eq_true rfl) (Nat.le_of_ble_eq_true rfl) ?_
  refine W.eq (g2 := F0 m 4 ls []) rfl ?_
  refine lv_aload_n hx hb dX1_init_4 rfl (lv_at hl 0 rfl) ?_
  refine lv_bipush (v := nI 30) hx hb dX1_init_5 (by decide) ?_
  refine va_newq (C := RX0) (N' := 30) hx hb hown (hts (.classLink RX1 9 RX0) (by decide +kernel)) hO hK hP hD hS hA (nI_pos (by omega)) (nI_clamp (by omega)) (by omega) (by show _ ≤ 4; omega) (by show _ ≤ 2546; omega) dX1_init_7 (fun q1 cA1 H hK hP hD hS => ?_)
  have hP : va_P D wCl [(h0, .inr (ciT, [.null, .int 0, .null, .null, .int 0, .null, .int 0, .int 0, .long 0])), (q1, .inl (cA1, 30, xq (fun _ => none)))] H := hP
  have hD : va_D A [(h0, .inr (ciT, [.null, .int 0, .null, .null, .int 0, .null, .int 0, .int 0, .long 0])), (q1, .inl (cA1, 30, xq (fun _ => none)))] := hD
  have hK : va_K D wCl [(cA1, .object RX0)] s := hK
  refine W.widen (k := 1) (n := 30) (by omega) (by omega) ?_
  refine va_putF (D := D) (ci := 1) (v := .ref q1) (ty := (.array (.object "CarThreads$Node"))) (C := RX1) (T := TX1) (N := 9) hx hb hts (by decide +kernel) tyX1 tyX1_ok nmX1 hown hK hP hD hS 0 rfl rfl 0 (by decide) (hts (.fieldLink RX1 11 "CarThreads" "nodes" "[LCarThreads$Node;") (by decide +kernel)) (fun _ h9 => h9) rfl hin rfl (by decide +kernel) rfl rfl (Nat.le_of_ble_eq_true rfl) dX1_init_10 (fun H locs hP hD hS => ?_)
  have hP : va_P D wCl [(h0, .inr (ciT, [.ref q1, .int 0, .null, .null, .int 0, .null, .int 0, .int 0, .long 0])), (q1, .inl (cA1, 30, xq (fun _ => none)))] H := hP
  have hD : va_D A [(h0, .inr (ciT, [.ref q1, .int 0, .null, .null, .int 0, .null, .int 0, .int 0, .long 0])), (q1, .inl (cA1, 30, xq (fun _ => none)))] := hD
  refine lv_aload_n hx hb dX1_init_13 rfl (lv_at hl 0 rfl) ?_
  refine lv_bipush (v := nI 16) hx hb dX1_init_14 (by decide) ?_
  refine va_newq (C := RX0) (N' := 16) hx hb hown (hts (.classLink RX1 9 RX0) (by decide +kernel)) hO hK hP hD hS hA (nI_pos (by omega)) (nI_clamp (by omega)) (by omega) (by show _ ≤ 4; omega) (by show _ ≤ 2546; omega) dX1_init_16 (fun q2 cA2 H hK hP hD hS => ?_)
  have hP : va_P D wCl [(h0, .inr (ciT, [.ref q1, .int 0, .null, .null, .int 0, .null, .int 0, .int 0, .long 0])), (q1, .inl (cA1, 30, xq (fun _ => none))), (q2, .inl (cA2, 16, xq (fun _ => none)))] H := hP
  have hD : va_D A [(h0, .inr (ciT, [.ref q1, .int 0, .null, .null, .int 0, .null, .int 0, .int 0, .long 0])), (q1, .inl (cA1, 30, xq (fun _ => none))), (q2, .inl (cA2, 16, xq (fun _ => none)))] := hD
  have hK : va_K D wCl [(cA1, .object RX0), (cA2, .object RX0)] s := hK
  refine W.widen (k := 2) (n := 46) (by omega) (by omega) ?_
  refine va_putF (D := D) (ci := 1) (v := .ref q2) (ty := (.array (.object "CarThreads$Node"))) (C := RX1) (T := TX1) (N := 9) hx hb hts (by decide +kernel) tyX1 tyX1_ok nmX1 hown hK hP hD hS 0 rfl rfl 2 (by decide) (hts (.fieldLink RX1 15 "CarThreads" "holders" "[LCarThreads$Node;") (by decide +kernel)) (fun _ h9 => h9) rfl hin rfl (by decide +kernel) rfl rfl (Nat.le_of_ble_eq_true rfl) dX1_init_19 (fun H locs hP hD hS => ?_)
  have hP : va_P D wCl [(h0, .inr (ciT, [.ref q1, .int 0, .ref q2, .null, .int 0, .null, .int 0, .int 0, .long 0])), (q1, .inl (cA1, 30, xq (fun _ => none))), (q2, .inl (cA2, 16, xq (fun _ => none)))] H := hP
  have hD : va_D A [(h0, .inr (ciT, [.ref q1, .int 0, .ref q2, .null, .int 0, .null, .int 0, .int 0, .long 0])), (q1, .inl (cA1, 30, xq (fun _ => none))), (q2, .inl (cA2, 16, xq (fun _ => none)))] := hD
  refine lv_aload_n hx hb dX1_init_22 rfl (lv_at hl 0 rfl) ?_
  refine lv_sipush (v := nI 500) hx hb dX1_init_23 (by decide) ?_
  refine va_newa (atype := .int) (ty := .int) (N' := 500) (a0 := (500, .inl (fun _ => 0))) hx hb (hts (.arrayClass .int) (by decide +kernel)) rfl hK hP hD hS hA (ini_i 500) (nI_pos (by omega)) (nI_clamp (by omega)) (by decide +kernel) (by show _ ≤ 4; omega) (by show _ ≤ 2546; omega) dX1_init_26 (fun q3 cA3 H hK hP hD hS => ?_)
  have hP : va_P D wCl [(h0, .inr (ciT, [.ref q1, .int 0, .ref q2, .null, .int 0, .null, .int 0, .int 0, .long 0])), (q1, .inl (cA1, 30, xq (fun _ => none))), (q2, .inl (cA2, 16, xq (fun _ => none))), (q3, .inl (cA3, 500, .inl (fun _ => 0)))] H := hP
  have hD : va_D A [(h0, .inr (ciT, [.ref q1, .int 0, .ref q2, .null, .int 0, .null, .int 0, .int 0, .long 0])), (q1, .inl (cA1, 30, xq (fun _ => none))), (q2, .inl (cA2, 16, xq (fun _ => none))), (q3, .inl (cA3, 500, .inl (fun _ => 0)))] := hD
  have hK : va_K D wCl [(cA1, .object RX0), (cA2, .object RX0), (cA3, .int)] s := hK
  refine W.widen (k := 3) (n := 546) (by omega) (by omega) ?_
  refine va_putF (D := D) (ci := 1) (v := .ref q3) (ty := (.array .int)) (C := RX1) (T := TX1) (N := 9) hx hb hts (by decide +kernel) tyX1 tyX1_ok nmX1 hown hK hP hD hS 0 rfl rfl 3 (by decide) (hts (.fieldLink RX1 18 "CarThreads" "turnRow" "[I") (by decide +kernel)) (fun _ h9 => h9) rfl hin rfl (by decide +kernel) rfl rfl (Nat.le_of_ble_eq_true rfl) dX1_init_28 (fun H locs hP hD hS => ?_)
  have hP : va_P D wCl [(h0, .inr (ciT, [.ref q1, .int 0, .ref q2, .ref q3, .int 0, .null, .int 0, .int 0, .long 0])), (q1, .inl (cA1, 30, xq (fun _ => none))), (q2, .inl (cA2, 16, xq (fun _ => none))), (q3, .inl (cA3, 500, .inl (fun _ => 0)))] H := hP
  have hD : va_D A [(h0, .inr (ciT, [.ref q1, .int 0, .ref q2, .ref q3, .int 0, .null, .int 0, .int 0, .long 0])), (q1, .inl (cA1, 30, xq (fun _ => none))), (q2, .inl (cA2, 16, xq (fun _ => none))), (q3, .inl (cA3, 500, .inl (fun _ => 0)))] := hD
  refine lv_aload_n hx hb dX1_init_31 rfl (lv_at hl 0 rfl) ?_
  refine lv_sipush (v := nI 2000) hx hb dX1_init_32 (by decide) ?_
  refine va_newa (atype := .int) (ty := .int) (N' := 2000) (a0 := (2000, .inl (fun _ => 0))) hx hb (hts (.arrayClass .int) (by decide +kernel)) rfl hK hP hD hS hA (ini_i 2000) (nI_pos (by omega)) (nI_clamp (by omega)) (by decide +kernel) (by show _ ≤ 4; omega) (by show _ ≤ 2546; omega) dX1_init_35 (fun q4 cA4 H hK hP hD hS => ?_)
  have hP : va_P D wCl [(h0, .inr (ciT, [.ref q1, .int 0, .ref q2, .ref q3, .int 0, .null, .int 0, .int 0, .long 0])), (q1, .inl (cA1, 30, xq (fun _ => none))), (q2, .inl (cA2, 16, xq (fun _ => none))), (q3, .inl (cA3, 500, .inl (fun _ => 0))), (q4, .inl (cA4, 2000, .inl (fun _ => 0)))] H := hP
  have hD : va_D A [(h0, .inr (ciT, [.ref q1, .int 0, .ref q2, .ref q3, .int 0, .null, .int 0, .int 0, .long 0])), (q1, .inl (cA1, 30, xq (fun _ => none))), (q2, .inl (cA2, 16, xq (fun _ => none))), (q3, .inl (cA3, 500, .inl (fun _ => 0))), (q4, .inl (cA4, 2000, .inl (fun _ => 0)))] := hD
  have hK : va_K D wCl [(cA1, .object RX0), (cA2, .object RX0), (cA3, .int), (cA4, .int)] s := hK
  refine W.widen (k := 4) (n := 2546) (by omega) (by omega) ?_
  refine va_putF (D := D) (ci := 1) (v := .ref q4) (ty := (.array .int)) (C := RX1) (T := TX1) (N := 9) hx hb hts (by decide +kernel) tyX1 tyX1_ok nmX1 hown hK hP hD hS 0 rfl rfl 5 (by decide) (hts (.fieldLink RX1 22 "CarThreads" "logRow" "[I") (by decide +kernel)) (fun _ h9 => h9) rfl hin rfl (by decide +kernel) rfl rfl (Nat.le_of_ble_eq_true rfl) dX1_init_37 (fun H locs hP hD hS => ?_)
  have hP : va_P D wCl [(h0, .inr (ciT, [.ref q1, .int 0, .ref q2, .ref q3, .int 0, .ref q4, .int 0, .int 0, .long 0])), (q1, .inl (cA1, 30, xq (fun _ => none))), (q2, .inl (cA2, 16, xq (fun _ => none))), (q3, .inl (cA3, 500, .inl (fun _ => 0))), (q4, .inl (cA4, 2000, .inl (fun _ => 0)))] H := hP
  have hD : va_D A [(h0, .inr (ciT, [.ref q1, .int 0, .ref q2, .ref q3, .int 0, .ref q4, .int 0, .int 0, .long 0])), (q1, .inl (cA1, 30, xq (fun _ => none))), (q2, .inl (cA2, 16, xq (fun _ => none))), (q3, .inl (cA3, 500, .inl (fun _ => 0))), (q4, .inl (cA4, 2000, .inl (fun _ => 0)))] := hD
  obtain rfl : cA1 = cA2 := ra_obj (hK.2 0 _ rfl).2 (hK.2 1 _ rfl).2
  obtain rfl : cA3 = cA4 := ra_int (hK.2 2 _ rfl).2 (hK.2 3 _ rfl).2
  have hK9 := hK.sub (tys' := tyC cA1 cA3) [0, 2] rfl
  have hP9 : va_P D wCl (wl (ad5 h0 q1 q2 q3 q4) (cW cA1 cA3 (ad5 h0 q1 q2 q3 q4) ct_0 (fun _ _ => 0) (fun _ => 0)) 5) H := by rw [ad5_w]; exact hP
  have hD9 : va_D A (wl (ad5 h0 q1 q2 q3 q4) (cW cA1 cA3 (ad5 h0 q1 q2 q3 q4) ct_0 (fun _ _ => 0) (fun _ => 0)) 5) := by rw [ad5_w]; exact hD
  exact W.vret hx hb hr (fun t ht hW => ⟨⟨(ad5 h0 q1 q2 q3 q4, cA1, cA3), rfl, rfl, by rw [ht]; exact hP9, va_K.moved hW.alike hK9, hD9⟩, hS.F ht⟩) hS.2.2 dX1_init_40 hlocks
end P62
