section P61
abbrev rm_c_Node : Room := { frames := 1, cells := 1, slots := 201, locals := 12 }
set_option maxHeartbeats 1000000 in
set_option maxRecDepth 100000 in
theorem c_Node (l : Launch) {D : va_G} (h0 sz w a b : Nat) (ha : a ≤ 200) : Met l yX0_init wsX0_init rm_c_Node (va_Pc [.ref h0, .int (nI w), .int (nI a), .int (nI b)] (fun U => U.heap.size = sz ∧ va_P D wCl [(h0, .inr (0, [.int 0, .int 0, .int 0, .null, .int 0, .int 0, .int 0, .int 0, .int 0, .int 0, .int 0, .long 0]))] U.heap ∧ va_K D wCl [] U ∧ va_AO RX0 U)) (va_Qv (fun _ : Nat × ClassId => True) (fun u t => va_P D wCl [(h0, .inr (0, [.int (nI w), .int (nI a), .int (nI b), .ref u.1, .int 0, .int (nI 1), .int 0, .int 0, .int 0, .int 0, .int 0, .long (-1)])), (u.1, .inl (u.2, (a + 1), xq (fun _ => none)))] t.heap ∧ va_K D wCl [(u.2, .object RX0)] t ∧ va_D (va_A [(h0, .inr (0, [.int 0, .int 0, .int 0, .null, .int 0, .int 0, .int 0, .int 0, .int 0, .int 0, .int 0, .long 0]))] sz) [(h0, .inr (0, [.int (nI w), .int (nI a), .int (nI b), .ref u.1, .int 0, .int (nI 1), .int 0, .int 0, .int 0, .int 0, .int 0, .long (-1)])), (u.1, .inl (u.2, (a + 1), xq (fun _ => none)))]) (va_A [(h0, .inr (0, [.int 0, .int 0, .int 0, .null, .int 0, .int 0, .int 0, .int 0, .int 0, .int 0, .int 0, .long 0]))] sz)) 1 201 (va_A [(h0, .inr (0, [.int 0, .int 0, .int 0, .null, .int 0, .int 0, .int 0, .int 0, .int 0, .int 0, .int 0, .long 0]))] sz) := by
  refine Met.go (cc := cX0_init) (maxL := 4) (ret := none) (by decide) rfl (Nat.le_of_ble_eq_true rfl) ?_
  intro p e s m below meth c ls args Q ⟨hx, hb, hml, hown, hts⟩ hr hlocks hnm ⟨hsz, hP, hK, hO⟩ hl hQ
  have hl : lv_has ls 4 [(0, .ref h0), (1, .int (nI w)), (2, .int (nI a)), (3, .int (nI b))] := hl
  have hin := hnm rfl
  subst hsz
  have hD : va_D (va_A [(h0, .inr (0, [.int 0, .int 0, .int 0, .null, .int 0, .int 0, .int 0, .int 0, .int 0, .int 0, .int 0, .long 0]))] s.heap.size) [(h0, .inr (0, [.int 0, .int 0, .int 0, .null, .int 0, .int 0, .int 0, .int 0, .int 0, .int 0, .int 0, .long 0]))] := ⟨fun i j p q hp hq _ => by have e1 := (List.getElem?_eq_some_iff.mp hp).1; have e2 := (List.getElem?_eq_some_iff.mp hq).1; simp at e1 e2; omega, fun k q hk => va_A.in hk⟩
  subst hQ
  generalize hAe : va_A [(h0, .inr (0, [.int 0, .int 0, .int 0, .null, .int 0, .int 0, .int 0, .int 0, .int 0, .int 0, .int 0, .long 0]))] s.heap.size = A at hD ⊢
  have hA : ∀ q : Nat, s.heap.size ≤ q → A q := fun q h => by rw [← hAe]; exact Or.inr h
  have hS : va_S A s.heap s.heap [] := va_S.rf
  refine lv_aload_n hx hb dX0_init_0 rfl (lv_at hl 0 rfl) ?_
  refine W.objInit hx hb hown (hts (.methodLink RX0 3 objectInit) (by decide +kernel)) (hts (.instanceMethod objectInit) (by decide +kernel)) (hts _ (List.mem_cons_of_mem _ (List.mem_append_left _ (List.mem_of_getElem? (i := 2) rfl)))) rfl (by rw [hml]; exact hl.1) rfl dX0_init_1 (Nat.le_of_ble_eq_true rfl) (Nat.le_of_ble_eq_true rfl) ?_
  refine W.eq (g2 := F0 m 4 ls []) rfl ?_
  refine lv_aload_n hx hb dX0_init_4 rfl (lv_at hl 0 rfl) ?_
  refine lv_iload_n hx hb dX0_init_5 rfl (lv_at hl 1 rfl) ?_
  refine va_putF (D := D) (ci := 0) (v := .int (nI w)) (ty := .int) (C := RX0) (T := TX0) (N := 12) hx hb hts (by decide +kernel) tyX0 tyX0_ok nmX0 hown hK hP hD hS 0 rfl rfl 0 (by decide) (hts (.fieldLink RX0 9 "CarThreads$Node" "number" "I") (by decide +kernel)) (fun _ h9 => h9) rfl hin rfl (by decide +kernel) rfl rfl (Nat.le_of_ble_eq_true rfl) dX0_init_6 (fun H locs hP hD hS => ?_)
  have hP : va_P D wCl [(h0, .inr (0, [.int (nI w), .int 0, .int 0, .null, .int 0, .int 0, .int 0, .int 0, .int 0, .int 0, .int 0, .long 0]))] H := hP
  have hD : va_D A [(h0, .inr (0, [.int (nI w), .int 0, .int 0, .null, .int 0, .int 0, .int 0, .int 0, .int 0, .int 0, .int 0, .long 0]))] := hD
  refine lv_aload_n hx hb dX0_init_9 rfl (lv_at hl 0 rfl) ?_
  refine lv_iload_n hx hb dX0_init_10 rfl (lv_at hl 2 rfl) ?_
  refine va_putF (D := D) (ci := 0) (v := .int (nI a)) (ty := .int) (C := RX0) (T := TX0) (N := 12) hx hb hts (by decide +kernel) tyX0 tyX0_ok nmX0 hown hK hP hD hS 0 rfl rfl 1 (by decide) (hts (.fieldLink RX0 15 "CarThreads$Node" "steps" "I") (by decide +kernel)) (fun _ h9 => h9) rfl hin rfl (by decide +kernel) rfl rfl (Nat.le_of_ble_eq_true rfl) dX0_init_11 (fun H locs hP hD hS => ?_)
  have hP : va_P D wCl [(h0, .inr (0, [.int (nI w), .int (nI a), .int 0, .null, .int 0, .int 0, .int 0, .int 0, .int 0, .int 0, .int 0, .long 0]))] H := hP
  have hD : va_D A [(h0, .inr (0, [.int (nI w), .int (nI a), .int 0, .null, .int 0, .int 0, .int 0, .int 0, .int 0, .int 0, .int 0, .long 0]))] := hD
  refine lv_aload_n hx hb dX0_init_14 rfl (lv_at hl 0 rfl) ?_
  refine lv_iload_n hx hb dX0_init_15 rfl (lv_at hl 3 rfl) ?_
  refine va_putF (D := D) (ci := 0) (v := .int (nI b)) (ty := .int) (C := RX0) (T := TX0) (N := 12) hx hb hts (by decide +kernel) tyX0 tyX0_ok nmX0 hown hK hP hD hS 0 rfl rfl 2 (by decide) (hts (.fieldLink RX0 18 "CarThreads$Node" "failsAt" "I") (by decide +kernel)) (fun _ h9 => h9) rfl hin rfl (by decide +kernel) rfl rfl (Nat.le_of_ble_eq_true rfl) dX0_init_16 (fun H locs hP hD hS => ?_)
  have hP : va_P D wCl [(h0, .inr (0, [.int (nI w), .int (nI a), .int (nI b), .null, .int 0, .int 0, .int 0, .int 0, .int 0, .int 0, .int 0, .long 0]))] H := hP
  have hD : va_D A [(h0, .inr (0, [.int (nI w), .int (nI a), .int (nI b), .null, .int 0, .int 0, .int 0, .int 0, .int 0, .int 0, .int 0, .long 0]))] := hD
  refine lv_aload_n hx hb dX0_init_19 rfl (lv_at hl 0 rfl) ?_
  refine lv_iload_n hx hb dX0_init_20 rfl (lv_at hl 2 rfl) ?_
  refine lv_iconst (v := nI 1) hx hb dX0_init_21 (by decide) ?_
  refine wi_add hx hb dX0_init_22 ?_
  refine va_newq (C := RX0) (N' := ((a + 1))) hx hb hown (hts (.classLink RX0 10 RX0) (by decide +kernel)) hO hK hP hD hS hA (nI_pos (by omega)) (nI_clamp (by omega)) (by omega) (by show _ ≤ 1; omega) (by show _ ≤ 201; omega) dX0_init_23 (fun q1 cA1 H hK hP hD hS => ?_)
  have hP : va_P D wCl [(h0, .inr (0, [.int (nI w), .int (nI a), .int (nI b), .null, .int 0, .int 0, .int 0, .int 0, .int 0, .int 0, .int 0, .long 0])), (q1, .inl (cA1, (a + 1), xq (fun _ => none)))] H := hP
  have hD : va_D A [(h0, .inr (0, [.int (nI w), .int (nI a), .int (nI b), .null, .int 0, .int 0, .int 0, .int 0, .int 0, .int 0, .int 0, .long 0])), (q1, .inl (cA1, (a + 1), xq (fun _ => none)))] := hD
  have hK : va_K D wCl [(cA1, .object RX0)] s := hK
  refine W.widen (k := 1) (n := 201) (by omega) (by omega) ?_
  refine va_putF (D := D) (ci := 0) (v := .ref q1) (ty := (.array (.object "CarThreads$Node"))) (C := RX0) (T := TX0) (N := 12) hx hb hts (by decide +kernel) tyX0 tyX0_ok nmX0 hown hK hP hD hS 0 rfl rfl 3 (by decide) (hts (.fieldLink RX0 21 "CarThreads$Node" "awaitedBefore" "[LCarThreads$Node;") (by decide +kernel)) (fun _ h9 => h9) rfl hin rfl (by decide +kernel) rfl rfl (Nat.le_of_ble_eq_true rfl) dX0_init_26 (fun H locs hP hD hS => ?_)
  have hP : va_P D wCl [(h0, .inr (0, [.int (nI w), .int (nI a), .int (nI b), .ref q1, .int 0, .int 0, .int 0, .int 0, .int 0, .int 0, .int 0, .long 0])), (q1, .inl (cA1, (a + 1), xq (fun _ => none)))] H := hP
  have hD : va_D A [(h0, .inr (0, [.int (nI w), .int (nI a), .int (nI b), .ref q1, .int 0, .int 0, .int 0, .int 0, .int 0, .int 0, .int 0, .long 0])), (q1, .inl (cA1, (a + 1), xq (fun _ => none)))] := hD
  refine lv_aload_n hx hb dX0_init_29 rfl (lv_at hl 0 rfl) ?_
  refine lv_iconst (v := nI 1) hx hb dX0_init_30 (by decide) ?_
  refine va_put (D := D) (ci := 0) (v := .int (nI 1)) (ty := .boolean) (C := RX0) (T := TX0) (N := 12) hx hb hts (by decide +kernel) tyX0 tyX0_ok nmX0 hown hK hP hD hS 0 rfl rfl 5 (by decide) (hts (.fieldLink RX0 25 "CarThreads$Node" "alive" "Z") (by decide +kernel)) (fun _ h9 => h9) rfl (by decide +kernel) rfl rfl (Nat.le_of_ble_eq_true rfl) dX0_init_31 (fun H locs hP hD hS => ?_)
  have hP : va_P D wCl [(h0, .inr (0, [.int (nI w), .int (nI a), .int (nI b), .ref q1, .int 0, .int (nI 1), .int 0, .int 0, .int 0, .int 0, .int 0, .long 0])), (q1, .inl (cA1, (a + 1), xq (fun _ => none)))] H := hP
  have hD : va_D A [(h0, .inr (0, [.int (nI w), .int (nI a), .int (nI b), .ref q1, .int 0, .int (nI 1), .int 0, .int 0, .int 0, .int 0, .int 0, .long 0])), (q1, .inl (cA1, (a + 1), xq (fun _ => none)))] := hD
  refine lv_aload_n hx hb dX0_init_34 rfl (lv_at hl 0 rfl) ?_
  refine lv_ldc2 (v := (-1)) hx hb hown (hts (.constantLong RX0 29 (-1)) (by decide +kernel)) dX0_init_35 ?_
  refine va_put (D := D) (ci := 0) (v := .long (-1)) (ty := .long) (C := RX0) (T := TX0) (N := 12) hx hb hts (by decide +kernel) tyX0 tyX0_ok nmX0 hown hK hP hD hS 0 rfl rfl 11 (by decide) (hts (.fieldLink RX0 31 "CarThreads$Node" "cutMicro" "J") (by decide +kernel)) (fun _ h9 => h9) rfl (by decide +kernel) rfl rfl (Nat.le_of_ble_eq_true rfl) dX0_init_38 (fun H locs hP hD hS => ?_)
  have hP : va_P D wCl [(h0, .inr (0, [.int (nI w), .int (nI a), .int (nI b), .ref q1, .int 0, .int (nI 1), .int 0, .int 0, .int 0, .int 0, .int 0, .long (-1)])), (q1, .inl (cA1, (a + 1), xq (fun _ => none)))] H := hP
  have hD : va_D A [(h0, .inr (0, [.int (nI w), .int (nI a), .int (nI b), .ref q1, .int 0, .int (nI 1), .int 0, .int 0, .int 0, .int 0, .int 0, .long (-1)])), (q1, .inl (cA1, (a + 1), xq (fun _ => none)))] := hD
  exact W.vret hx hb hr (fun t ht hW => ⟨⟨(q1, cA1), rfl, trivial, by rw [ht]; exact hP, va_K.moved hW.alike hK, hD⟩, hS.F ht⟩) hS.2.2 dX0_init_41 hlocks
end P61
