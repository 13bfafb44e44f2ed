section P43
abbrev rm_c_stepInTurns : Room := { frames := 2, cells := 0, slots := 0, locals := 44 }
set_option maxHeartbeats 4000000 in
set_option maxRecDepth 100000 in
theorem c_stepInTurns (l : Launch) {D : va_G} {cN cI : ClassId} {ad : Nat → Nat} {σ : St} {τ : Nat → Nat → Nat} {tr : Nat → Int32} {n : Nat} (hI : adI ad (5 + 2 * n)) (hv : ct_Inv σ) (hn : σ.1 0 0 = n) (ht : τ 2 0 ≤ 500) (hr0 : ∀ i, 1 ≤ i → i ≤ n → τ 0 i = bN (ct_go σ i)) (hr1 : ∀ i, τ 0 i ≤ 1) : Met l yX1_stepInTurns wsX1_stepInTurns rm_c_stepInTurns (va_Pc [.ref (ad 0)] (pC D wCl (tyC cN cI) ad (cW cN cI ad σ τ tr) (5 + 2 * n))) (qV (S := Nat → Bool) D wCl ad (5 + 2 * n) (fun X => ∀ x, X x = true → ct_X σ x = true) (fun X => cW cN cI ad (ct_mul σ X) (tX (tu τ 2 0 0) σ X) tr)) 0 0 (wA ad (5 + 2 * n)) := by
  refine Met.go (cc := cX1_stepInTurns) (maxL := 3) (ret := none) (by decide) rfl (Nat.le_of_ble_eq_true rfl) ?_
  intro p e s m below meth c ls args Q ⟨hx, hb, hml, hown, hts⟩ hr hlocks hnm ⟨hP, hK⟩ hl hQ
  have hl : lv_has ls 3 [(0, .ref (ad 0))] := hl
  have hS : va_S (wA ad (5 + 2 * n)) s.heap s.heap [] := va_S.rf
  have hn30 : n ≤ 30 := by have := hv.1.1; omega
  refine lv_iconst (v := nI 0) hx hb dX1_stepInTurns_0 (by decide) ?_
  refine lv_istore_n (lv' := [(1, .int (nI (0))), (0, .ref (ad 0))]) hx hb dX1_stepInTurns_1 rfl hl (by decide) rfl (fun ls hl => ?_)
  have loop2 : ∀ (f t : Nat) (X : Nat → Bool) (H : Heap) (locs : List Loc) (ls : Array Slot), τ 2 0 - t = f → t ≤ τ 2 0 → (∀ x, X x = true → ct_X σ x = true) → va_P D wCl (wl ad (cW cN cI ad (ct_mul σ X) (tX τ σ X) tr) (5 + 2 * n)) H → va_S (wA ad (5 + 2 * n)) s.heap H locs → lv_has ls 3 [(1, .int (nI (t))), (0, .ref (ad 0))] → W p l e rm_c_stepInTurns s m args below meth c H locs 0 0 Q (F0 m 2 ls []) := by
    intro f
    induction f with
    | zero =>
      intro t X H locs ls hf hj hX hP hS hl
      have hnX : (ct_mul σ X).1 0 0 = n := hn
      have htt : tX τ σ X 2 0 = τ 2 0 := rfl
      have hvX : ct_Inv (ct_mul σ X) := ct_Inv_mul hv (fun x q => ct_X_of (hX x q))
      refine lv_iload_n hx hb dX1_stepInTurns_2 rfl (lv_at hl 0 rfl) ?_
      refine lv_aload_n hx hb dX1_stepInTurns_3 rfl (lv_at hl 1 rfl) ?_
      refine wd_get (C := RX1) (T := TX1) (n := 9) (ci := ciT) (v := .int (nI ((tX τ σ X) 2 0))) hx hb hts (by decide +kernel) hown hK hP (0) (by omega) cW_0 rfl 4 (by decide) (hts (.fieldLink RX1 50 "CarThreads" "turnCount" "I") (by decide +kernel)) (fun _ h9 => h9) (by first | rfl | simp [cw_nd, cw_ob, mw_ob, ct_sg, ct_sl, tu]) dX1_stepInTurns_4 ?_
      refine wi_icmp_ge (tgt := 43) hx hb (by omega) (by omega) dX1_stepInTurns_7 (by decide) (fun c7 => ?_) (fun z => absurd z (by omega))
      refine lv_aload_n hx hb dX1_stepInTurns_43 rfl (lv_at hl 1 rfl) ?_
      refine lv_iconst (v := nI 0) hx hb dX1_stepInTurns_44 (by decide) ?_
      refine wd_put (C := RX1) (T := TX1) (n := 9) (ci := ciT) (v := .int (nI (0))) (ty := .int) hx hb hts (by decide +kernel) tyX1 tyX1_ok nmX1 hown hK hP hI (fun k h => wA_in h) hS (0) (by omega) cW_0 rfl 4 (by decide) (hts (.fieldLink RX1 50 "CarThreads" "turnCount" "I") (by decide +kernel)) (fun _ h9 => h9) rfl (by decide +kernel) rfl rfl (Nat.le_of_ble_eq_true rfl) dX1_stepInTurns_45 (fun H locs hP hS => ?_)
      have hP : va_P D wCl (wl ad (cW cN cI ad (ct_mul σ X) (tX (tu τ 2 0 0) σ X) tr) (5 + 2 * n)) H := up_ob hP (by simp [cw_ob, tX, tu]) rfl rfl rfl (fun x hx1 _ => by simp [cw_nd, tX, tu]) rfl rfl
      exact rt_v hQ hx hb hr hlocks X hP hS hX dX1_stepInTurns_48
    | succ f ih =>
      intro t X H locs ls hf hj hX hP hS hl
      have hnX : (ct_mul σ X).1 0 0 = n := hn
      have htt : tX τ σ X 2 0 = τ 2 0 := rfl
      have hvX : ct_Inv (ct_mul σ X) := ct_Inv_mul hv (fun x q => ct_X_of (hX x q))
      refine lv_iload_n hx hb dX1_stepInTurns_2 rfl (lv_at hl 0 rfl) ?_
      refine lv_aload_n hx hb dX1_stepInTurns_3 rfl (lv_at hl 1 rfl) ?_
      refine wd_get (C := RX1) (T := TX1) (n := 9) (ci := ciT) (v := .int (nI ((tX τ σ X) 2 0))) hx hb hts (by decide +kernel) hown hK hP (0) (by omega) cW_0 rfl 4 (by decide) (hts (.fieldLink RX1 50 "CarThreads" "turnCount" "I") (by decide +kernel)) (fun _ h9 => h9) (by first | rfl | simp [cw_nd, cw_ob, mw_ob, ct_sg, ct_sl, tu]) dX1_stepInTurns_4 ?_
      refine wi_icmp_ge (tgt := 43) hx hb (by omega) (by omega) dX1_stepInTurns_7 (by decide) (fun z => absurd z (by omega)) (fun c7 => ?_)
      refine lv_aload_n hx hb dX1_stepInTurns_10 rfl (lv_at hl 1 rfl) ?_
      refine lv_aload_n hx hb dX1_stepInTurns_11 rfl (lv_at hl 1 rfl) ?_
      refine wd_get (C := RX1) (T := TX1) (n := 9) (ci := ciT) (v := .ref (ad 3)) hx hb hts (by decide +kernel) hown hK hP (0) (by omega) cW_0 rfl 3 (by decide) (hts (.fieldLink RX1 18 "CarThreads" "turnRow" "[I") (by decide +kernel)) (fun _ h9 => h9) (by first | rfl | simp [cw_nd, cw_ob, mw_ob, ct_sg, ct_sl, tu]) dX1_stepInTurns_12 ?_
      refine lv_iload_n hx hb dX1_stepInTurns_15 rfl (lv_at hl 0 rfl) ?_
      refine wd_iald hx hb hK hP (3) 1 (by omega) cW_3 rfl (t) (by omega) (by omega) rfl dX1_stepInTurns_16 ?_
      refine lv_topi (fun x1 ex1 => ?_)
      refine va_csq (W.runV (As := [.int (x1)]) (rest := []) ⟨hx, hb, hml, hown, hts⟩ (c_nodeOrNull l (σ := ct_mul σ X) (τ := tX τ σ X) hI hvX hnX x1) (cwV 1 hts gX1_stepInTurns_X1_nodeOrNull rfl rfl rfl (by decide +kernel) ⟨Nat.le_of_ble_eq_true rfl, Nat.le_of_ble_eq_true rfl⟩) (wd_pre (q := (RX1, TX1, 9)) (ci := ciT) hK hP (by omega) rfl cW_0) rfl rfl hl.1 rfl (lv_room (Nat.le_of_ble_eq_true rfl)) dX1_stepInTurns_17 ⟨Nat.zero_le _, Nat.zero_le _⟩) (fun o2 eo2 => ?_)
      by_cases hk_i3 : ct_kn n x1 = 0
      · have hki_i3 : ct_kn n x1 = 0 := hk_i3
        rw [hki_i3] at eo2
        obtain rfl : o2 = none := eo2
        refine lv_astore_nN (lv' := [(2, .null), (1, .int (nI (t))), (0, .ref (ad 0))]) hx hb dX1_stepInTurns_20 rfl hl (by decide) rfl (fun ls hl => ?_)
        refine lv_aload_nN hx hb dX1_stepInTurns_21 rfl (lv_at hl 0 rfl) ?_
        refine lv_ifnullN (tgt := 37) hx hb dX1_stepInTurns_22 (by decide) ?_
        refine lv_iinc (v := nI (t + 1)) (lv' := [(1, .int (nI (t + 1))), (2, .null), (0, .ref (ad 0))]) hx hb dX1_stepInTurns_37 hl (k := 1) rfl (wi_inc _) (by decide) rfl (fun ls hl => ?_)
        refine lv_goto (tgt := 2) hx hb dX1_stepInTurns_40 (by decide) ?_
        exact ih (t + 1) X _ _ _ (by omega) (by omega) hX hP hS (lv_sub hl [0, 2] rfl)
      · obtain ⟨i3, hi1_i3, hi2_i3, rfl⟩ : ∃ z, 1 ≤ z ∧ z ≤ n ∧ x1 = nI z := ⟨_, ct_kn_some (by omega) hk_i3⟩
        have hki_i3 : ct_kn n (nI i3) = i3 := ct_kn_nI (by omega) hi1_i3 hi2_i3
        have hki0_i3 : i3 ≠ 0 := by omega
        obtain ⟨_, _, _, _, _, _, _, _, _⟩ := hvX.2.1 i3 hi1_i3 (by omega)
        rw [hki_i3] at eo2
        obtain rfl : o2 = some (ad (3 + 2 * i3)) := by rw [eo2]; exact if_neg hki0_i3
        refine lv_astore_n (lv' := [(2, .ref (ad (3 + 2 * i3))), (1, .int (nI (t))), (0, .ref (ad 0))]) hx hb dX1_stepInTurns_20 rfl hl (by decide) rfl (fun ls hl => ?_)
        refine lv_aload_n hx hb dX1_stepInTurns_21 rfl (lv_at hl 0 rfl) ?_
        refine lv_ifnull hx hb dX1_stepInTurns_22 ?_
        refine lv_aload_n hx hb dX1_stepInTurns_25 rfl (lv_at hl 0 rfl) ?_
        have htx1 : tX τ σ X 0 i3 ≤ 1 := tX_le hr1 _
        refine wd_get (C := RX0) (T := TX0) (n := 12) (ci := ciN) (v := .int (nI ((tX τ σ X) 0 i3))) hx hb hts (by decide +kernel) hown hK hP (3 + 2 * i3) (by omega) (cW_nd (by omega)) rfl 6 (by decide) (hts (.fieldLink RX1 113 "CarThreads$Node" "ready" "Z") (by decide +kernel)) (fun _ h9 => h9) (by first | rfl | simp [cw_nd, cw_ob, mw_ob, ct_sg, ct_sl, tu]) dX1_stepInTurns_26 ?_
        refine wi_if_eq (tgt := 37) hx hb (by omega) dX1_stepInTurns_29 (by decide) (fun c29 => ?_) (fun c29 => ?_)
        · refine lv_iinc (v := nI (t + 1)) (lv' := [(1, .int (nI (t + 1))), (2, .ref (ad (3 + 2 * i3))), (0, .ref (ad 0))]) hx hb dX1_stepInTurns_37 hl (k := 1) rfl (wi_inc _) (by decide) rfl (fun ls hl => ?_)
          refine lv_goto (tgt := 2) hx hb dX1_stepInTurns_40 (by decide) ?_
          exact ih (t + 1) X _ _ _ (by omega) (by omega) hX hP hS (lv_sub hl [0, 2] rfl)
        · refine lv_aload_n hx hb dX1_stepInTurns_32 rfl (lv_at hl 2 rfl) ?_
          refine lv_aload_n hx hb dX1_stepInTurns_33 rfl (lv_at hl 0 rfl) ?_
          obtain ⟨hXi, hti⟩ := tX_0 c29
          have hgi : ct_X σ i3 = true := by rw [ct_X_in (by omega) (by omega)]; exact bN_1 (by rw [← hr0 i3 (by omega) (by omega)]; exact hti)
          have ha : (ct_mul σ X).1 4 i3 = 0 := by simp [ct_mul, hXi]; exact (ct_X_of hgi).2.2
          refine wd_callv (va_runV (As := [.ref (ad (3 + 2 * i3))]) (rest := []) ⟨hx, hb, hml, hown, hts⟩ (c_stepOnce l (σ := ct_mul σ X) (τ := tX τ σ X) hI (ct_Inv_mul hv (fun x q => ct_X_of (hX x q))) hnX (i := i3) (by omega) (by omega) ha) (cwV 1 hts gX1_stepInTurns_X1_stepOnce rfl rfl rfl (by decide +kernel) ⟨Nat.le_of_ble_eq_true rfl, Nat.le_of_ble_eq_true rfl⟩) (wd_pre (q := (RX1, TX1, 9)) (ci := ciT) hK hP (by omega) rfl cW_0) rfl rfl hl.1 rfl (lv_room (Nat.le_of_ble_eq_true rfl)) dX1_stepInTurns_34 ⟨Nat.zero_le _, Nat.zero_le _⟩) hS (fun k h => wA_in h) (fun uv4 H locs ev4 hP hz hk hS => ?_)
          rw [ct_mul_step (by omega) hXi, tS_tX hXi] at hP
          have hX' : ∀ x, (X x || x == i3) = true → ct_X σ x = true := fun x q => by
            simp at q; rcases q with q | q
            · exact hX x q
            · rw [q]; exact hgi
          refine lv_iinc (v := nI (t + 1)) (lv' := [(1, .int (nI (t + 1))), (2, .ref (ad (3 + 2 * i3))), (0, .ref (ad 0))]) hx hb dX1_stepInTurns_37 hl (k := 1) rfl (wi_inc _) (by decide) rfl (fun ls hl => ?_)
          refine lv_goto (tgt := 2) hx hb dX1_stepInTurns_40 (by decide) ?_
          exact ih (t + 1) (fun x => X x || x == i3) _ _ _ (by omega) (by omega) hX' hP hS (lv_sub hl [0, 2] rfl)
  exact loop2 _ 0 (fun _ => false) _ _ _ rfl (by omega) (fun x q => by cases q) (by rw [ct_mul_nil, tX_nil]; exact hP) hS (lv_sub hl [0, 1] rfl)
abbrev rm_c_stepOthers : Room := { frames := 2, cells := 0, slots := 0, locals := 44 }
set_option maxHeartbeats 4000000 in
set_option maxRecDepth 100000 in
theorem c_stepOthers (l : Launch) {D : va_G} {cN cI : ClassId} {ad : Nat → Nat} {σ : St} {τ : Nat → Nat → Nat} {tr : Nat → Int32} {n : Nat} (hI : adI ad (5 + 2 * n)) (hv : ct_Inv σ) (hn : σ.1 0 0 = n) (X0 : Nat → Bool) (hX0 : ∀ x, X0 x = true → ct_X σ x = true) (hr0 : ∀ i, 1 ≤ i → i ≤ n → τ 0 i = bN (ct_go σ i)) (hr1 : ∀ i, τ 0 i ≤ 1) : Met l yX1_stepOthers wsX1_stepOthers rm_c_stepOthers (va_Pc [.ref (ad 0)] (pC D wCl (tyC cN cI) ad (cW cN cI ad (ct_mul σ X0) (tX τ σ X0) tr) (5 + 2 * n))) (qV (S := Unit) D wCl ad (5 + 2 * n) (fun _ => True) (fun _ => cW cN cI ad (ct_mul σ (ct_X σ)) (tX τ σ (ct_X σ)) tr)) 0 0 (wA ad (5 + 2 * n)) := by
  refine Met.go (cc := cX1_stepOthers) (maxL := 5) (ret := none) (by decide) rfl (Nat.le_of_ble_eq_true rfl) ?_
  intro p e s m below meth c ls args Q ⟨hx, hb, hml, hown, hts⟩ hr hlocks hnm ⟨hP, hK⟩ hl hQ
  have hl : lv_has ls 5 [(0, .ref (ad 0))] := hl
  have hS : va_S (wA ad (5 + 2 * n)) s.heap s.heap [] := va_S.rf
  have hn30 : n ≤ 30 := by have := hv.1.1; omega
  refine lv_aload_n hx hb dX1_stepOthers_0 rfl (lv_at hl 0 rfl) ?_
  refine wd_get (C := RX1) (T := TX1) (n := 9) (ci := ciT) (v := .ref (ad 1)) hx hb hts (by decide +kernel) hown hK hP (0) (by omega) cW_0 rfl 0 (by decide) (hts (.fieldLink RX1 11 "CarThreads" "nodes" "[LCarThreads$Node;") (by decide +kernel)) (fun _ h9 => h9) (by first | rfl | simp [cw_nd, cw_ob, mw_ob, ct_sg, ct_sl, tu]) dX1_stepOthers_1 ?_
  refine lv_astore_n (lv' := [(1, .ref (ad 1)), (0, .ref (ad 0))]) hx hb dX1_stepOthers_4 rfl hl (by decide) rfl (fun ls hl => ?_)
  refine lv_aload_n hx hb dX1_stepOthers_5 rfl (lv_at hl 0 rfl) ?_
  refine wd_alen (v := nI 30) hx hb hK hP (1) 0 (by omega) cW_1 rfl rfl dX1_stepOthers_6 ?_
  refine lv_istore_n (lv' := [(2, .int (nI (30))), (1, .ref (ad 1)), (0, .ref (ad 0))]) hx hb dX1_stepOthers_7 rfl hl (by decide) rfl (fun ls hl => ?_)
  refine lv_iconst (v := nI 0) hx hb dX1_stepOthers_8 (by decide) ?_
  refine lv_istore_n (lv' := [(3, .int (nI (0))), (2, .int (nI (30))), (1, .ref (ad 1)), (0, .ref (ad 0))]) hx hb dX1_stepOthers_9 rfl hl (by decide) rfl (fun ls hl => ?_)
  have loop10 : ∀ (f t : Nat) (X : Nat → Bool) (H : Heap) (locs : List Loc) (ls : Array Slot), 30 - t = f → t ≤ 30 → (∀ x, X x = true → ct_X σ x = true) → (∀ x, 1 ≤ x → x ≤ t → ct_X σ x = true → X x = true) → va_P D wCl (wl ad (cW cN cI ad (ct_mul σ X) (tX τ σ X) tr) (5 + 2 * n)) H → va_S (wA ad (5 + 2 * n)) s.heap H locs → lv_has ls 5 [(3, .int (nI (t))), (2, .int (nI (30))), (1, .ref (ad 1)), (0, .ref (ad 0))] → W p l e rm_c_stepOthers s m args below meth c H locs 0 0 Q (F0 m 10 ls []) := by
    intro f
    induction f with
    | zero =>
      intro t X H locs ls hf hj hX hY hP hS hl
      have hnX : (ct_mul σ X).1 0 0 = n := hn
      refine lv_iload_n hx hb dX1_stepOthers_10 rfl (lv_at hl 0 rfl) ?_
      refine lv_iload_n hx hb dX1_stepOthers_11 rfl (lv_at hl 1 rfl) ?_
      refine wi_icmp_ge (tgt := 45) hx hb (by omega) (by omega) dX1_stepOthers_12 (by decide) (fun c12 => ?_) (fun z => absurd z (by omega))
      have hXe : X = ct_X σ := by
        funext x
        cases q : ct_X σ x
        · cases z : X x
          · rfl
          · rw [hX x z] at q; cases q
        · exact hY x (ct_X_of q).1 (by have := (ct_X_of q).2.1; omega) q
      exact rt_v hQ hx hb hr hlocks () (by rw [← hXe]; exact hP) hS trivial dX1_stepOthers_45
    | succ f ih =>
      intro t X H locs ls hf hj hX hY hP hS hl
      refine lv_iload_n hx hb dX1_stepOthers_10 rfl (lv_at hl 0 rfl) ?_
      refine lv_iload_n hx hb dX1_stepOthers_11 rfl (lv_at hl 1 rfl) ?_
      refine wi_icmp_ge (tgt := 45) hx hb (by omega) (by omega) dX1_stepOthers_12 (by decide) (fun z => absurd z (by omega)) (fun c12 => ?_)
      refine lv_aload_n hx hb dX1_stepOthers_15 rfl (lv_at hl 2 rfl) ?_
      refine lv_iload_n hx hb dX1_stepOthers_16 rfl (lv_at hl 0 rfl) ?_
      refine wd_aald hx hb hK hP (1) 0 (by omega) cW_1 rfl (t) (by omega) (by omega) rfl dX1_stepOthers_17 ?_
      by_cases hlt : t < n
      · have hnX : (ct_mul σ X).1 0 0 = n := hn
        have htx1 : tX τ σ X 0 (t + 1) ≤ 1 := tX_le hr1 _
        obtain ⟨_, _, _, _, _, _, _, _, _⟩ := (ct_Inv_mul hv (fun x q => ct_X_of (hX x q))).2.1 (t + 1) (by omega) (by omega)
        rw [hnX, cw_ns_in hlt]
        refine lv_astore (lv' := [(4, .ref (ad (3 + 2 * (t + 1)))), (3, .int (nI (t))), (2, .int (nI (30))), (1, .ref (ad 1)), (0, .ref (ad 0))]) hx hb dX1_stepOthers_18 hl (by decide) rfl (fun ls hl => ?_)
        refine lv_aload hx hb dX1_stepOthers_20 (lv_at hl 0 rfl) ?_
        refine lv_ifnull hx hb dX1_stepOthers_22 ?_
        refine lv_aload hx hb dX1_stepOthers_25 (lv_at hl 0 rfl) ?_
        refine wd_get (C := RX0) (T := TX0) (n := 12) (ci := ciN) (v := .int (nI ((tX τ σ X) 0 (t + 1)))) hx hb hts (by decide +kernel) hown hK hP (3 + 2 * (t + 1)) (by omega) (cW_nd (by omega)) rfl 6 (by decide) (hts (.fieldLink RX1 113 "CarThreads$Node" "ready" "Z") (by decide +kernel)) (fun _ h9 => h9) (by first | rfl | simp [cw_nd, cw_ob, mw_ob, ct_sg, ct_sl, tu]) dX1_stepOthers_27 ?_
        refine wi_if_eq (tgt := 39) hx hb (by omega) dX1_stepOthers_30 (by decide) (fun c30 => ?_) (fun c30 => ?_)
        · refine lv_iinc (v := nI (t + 1)) (lv' := [(3, .int (nI (t + 1))), (4, .ref (ad (3 + 2 * (t + 1)))), (2, .int (nI (30))), (1, .ref (ad 1)), (0, .ref (ad 0))]) hx hb dX1_stepOthers_39 hl (k := 1) rfl (wi_inc _) (by decide) rfl (fun ls hl => ?_)
          refine lv_goto (tgt := 10) hx hb dX1_stepOthers_42 (by decide) ?_
          have hY' : ∀ x, 1 ≤ x → x ≤ t + 1 → ct_X σ x = true → X x = true := fun x q1 q2 q3 => by
            by_cases q : x = t + 1
            · subst q
              rcases tX_0' c30 with z | z
              · exact z
              · rw [hr0 _ (by omega) (by omega)] at z
                rw [ct_X_in (by omega) (by omega), bN_0 z] at q3
                cases q3
            · exact hY x q1 (by omega) q3
          exact ih (t + 1) X _ _ _ (by omega) (by omega) hX hY' hP hS (lv_sub hl [0, 2, 3, 4] rfl)
        · refine lv_aload_n hx hb dX1_stepOthers_33 rfl (lv_at hl 4 rfl) ?_
          refine lv_aload hx hb dX1_stepOthers_34 (lv_at hl 0 rfl) ?_
          obtain ⟨hXi, hti⟩ := tX_0 c30
          have hgi : ct_X σ (t + 1) = true := by rw [ct_X_in (by omega) (by omega)]; exact bN_1 (by rw [← hr0 (t + 1) (by omega) (by omega)]; exact hti)
          have ha : (ct_mul σ X).1 4 (t + 1) = 0 := by simp [ct_mul, hXi]; exact (ct_X_of hgi).2.2
          refine wd_callv (va_runV (As := [.ref (ad (3 + 2 * (t + 1)))]) (rest := []) ⟨hx, hb, hml, hown, hts⟩ (c_stepOnce l (σ := ct_mul σ X) (τ := tX τ σ X) hI (ct_Inv_mul hv (fun x q => ct_X_of (hX x q))) hnX (i := t + 1) (by omega) (by omega) ha) (cwV 1 hts gX1_stepOthers_X1_stepOnce rfl rfl rfl (by decide +kernel) ⟨Nat.le_of_ble_eq_true rfl, Nat.le_of_ble_eq_true rfl⟩) (wd_pre (q := (RX1, TX1, 9)) (ci := ciT) hK hP (by omega) rfl cW_0) rfl rfl hl.1 rfl (lv_room (Nat.le_of_ble_eq_true rfl)) dX1_stepOthers_36 ⟨Nat.zero_le _, Nat.zero_le _⟩) hS (fun k h => wA_in h) (fun uv1 H locs ev1 hP hz hk hS => ?_)
          rw [ct_mul_step (by omega) hXi, tS_tX hXi] at hP
          have hX' : ∀ x, (X x || x == t + 1) = true → ct_X σ x = true := fun x q => by
            simp at q; rcases q with q | q
            · exact hX x q
            · rw [q]; exact hgi
          refine lv_iinc (v := nI (t + 1)) (lv' := [(3, .int (nI (t + 1))), (4, .ref (ad (3 + 2 * (t + 1)))), (2, .int (nI (30))), (1, .ref (ad 1)), (0, .ref (ad 0))]) hx hb dX1_stepOthers_39 hl (k := 1) rfl (wi_inc _) (by decide) rfl (fun ls hl => ?_)
          refine lv_goto (tgt := 10) hx hb dX1_stepOthers_42 (by decide) ?_
          have hY' : ∀ x, 1 ≤ x → x ≤ t + 1 → ct_X σ x = true → (X x || x == t + 1) = true := fun x q1 q2 q3 => by
            by_cases q : x = t + 1
            · simp [q]
            · simp [hY x q1 (by omega) q3]
          exact ih (t + 1) (fun x => X x || x == t + 1) _ _ _ (by omega) (by omega) hX' hY' hP hS (lv_sub hl [0, 2, 3, 4] rfl)
      · have hnX : (ct_mul σ X).1 0 0 = n := hn
        rw [hnX, cw_ns_out hlt]
        refine lv_astoreN (lv' := [(4, .null), (3, .int (nI (t))), (2, .int (nI (30))), (1, .ref (ad 1)), (0, .ref (ad 0))]) hx hb dX1_stepOthers_18 hl (by decide) rfl (fun ls hl => ?_)
        refine lv_aloadN hx hb dX1_stepOthers_20 (lv_at hl 0 rfl) ?_
        refine lv_ifnullN (tgt := 39) hx hb dX1_stepOthers_22 (by decide) ?_
        refine lv_iinc (v := nI (t + 1)) (lv' := [(3, .int (nI (t + 1))), (4, .null), (2, .int (nI (30))), (1, .ref (ad 1)), (0, .ref (ad 0))]) hx hb dX1_stepOthers_39 hl (k := 1) rfl (wi_inc _) (by decide) rfl (fun ls hl => ?_)
        refine lv_goto (tgt := 10) hx hb dX1_stepOthers_42 (by decide) ?_
        have hY' : ∀ x, 1 ≤ x → x ≤ t + 1 → ct_X σ x = true → X x = true := fun x q1 q2 q3 => hY x q1 (by have := (ct_X_of q3).2.1; omega) q3
        exact ih (t + 1) X _ _ _ (by omega) (by omega) hX hY' hP hS (lv_sub hl [0, 2, 3, 4] rfl)
  exact loop10 _ 0 X0 _ _ _ rfl (by omega) hX0 (fun x q1 q2 _ => by omega) hP hS (lv_sub hl [0, 1, 2, 3] rfl)
abbrev rm_c_noteSteps : Room := { frames := 1, cells := 0, slots := 0, locals := 21 }
set_option maxHeartbeats 4000000 in
set_option maxRecDepth 100000 in
theorem c_noteSteps (l : Launch) {D : va_G} {cN cI : ClassId} {ad : Nat → Nat} {σ : St} {τ : Nat → Nat → Nat} {tr : Nat → Int32} {n : Nat} (hI : adI ad (5 + 2 * n)) (hv : ct_Inv σ) (hn : σ.1 0 0 = n) (ht1 : ∀ i, τ 1 i ≤ 1) : Met l yX1_noteSteps wsX1_noteSteps rm_c_noteSteps (va_Pc [.ref (ad 0)] (pC D wCl (tyC cN cI) ad (cW cN cI ad σ τ tr) (5 + 2 * n))) (qV (S := Unit) D wCl ad (5 + 2 * n) (fun _ => True) (fun _ => cW cN cI ad (ct_wl σ (ct_lg (nY τ) (nE σ) (ct_L σ) n)) (tN τ n) tr)) 0 0 (wA ad (5 + 2 * n)) := by
  refine Met.go (cc := cX1_noteSteps) (maxL := 5) (ret := none) (by decide) rfl (Nat.le_of_ble_eq_true rfl) ?_
  intro p e s m below meth c ls args Q ⟨hx, hb, hml, hown, hts⟩ hr hlocks hnm ⟨hP, hK⟩ hl hQ
  have hl : lv_has ls 5 [(0, .ref (ad 0))] := hl
  have hS : va_S (wA ad (5 + 2 * n)) s.heap s.heap [] := va_S.rf
  have hn30 : n ≤ 30 := by have := hv.1.1; omega
  refine lv_aload_n hx hb dX1_noteSteps_0 rfl (lv_at hl 0 rfl) ?_
  refine wd_get (C := RX1) (T := TX1) (n := 9) (ci := ciT) (v := .ref (ad 1)) hx hb hts (by decide +kernel) hown hK hP (0) (by omega) cW_0 rfl 0 (by decide) (hts (.fieldLink RX1 11 "CarThreads" "nodes" "[LCarThreads$Node;") (by decide +kernel)) (fun _ h9 => h9) (by first | rfl | simp [cw_nd, cw_ob, mw_ob, ct_sg, ct_sl, tu]) dX1_noteSteps_1 ?_
  refine lv_astore_n (lv' := [(1, .ref (ad 1)), (0, .ref (ad 0))]) hx hb dX1_noteSteps_4 rfl hl (by decide) rfl (fun ls hl => ?_)
  refine lv_aload_n hx hb dX1_noteSteps_5 rfl (lv_at hl 0 rfl) ?_
  refine wd_alen (v := nI 30) hx hb hK hP (1) 0 (by omega) cW_1 rfl rfl dX1_noteSteps_6 ?_
  refine lv_istore_n (lv' := [(2, .int (nI (30))), (1, .ref (ad 1)), (0, .ref (ad 0))]) hx hb dX1_noteSteps_7 rfl hl (by decide) rfl (fun ls hl => ?_)
  refine lv_iconst (v := nI 0) hx hb dX1_noteSteps_8 (by decide) ?_
  refine lv_istore_n (lv' := [(3, .int (nI (0))), (2, .int (nI (30))), (1, .ref (ad 1)), (0, .ref (ad 0))]) hx hb dX1_noteSteps_9 rfl hl (by decide) rfl (fun ls hl => ?_)
  have loop10 : ∀ (f t : Nat) (kq : Nat) (H : Heap) (locs : List Loc) (ls : Array Slot), 30 - t = f → t ≤ 30 → ((t < n ∧ kq = t) ∨ (n ≤ t ∧ kq = n)) → va_P D wCl (wl ad (cW cN cI ad (ct_wl σ (ct_lg (nY τ) (nE σ) (ct_L σ) kq)) (tN τ kq) tr) (5 + 2 * n)) H → va_S (wA ad (5 + 2 * n)) s.heap H locs → lv_has ls 5 [(3, .int (nI (t))), (2, .int (nI (30))), (1, .ref (ad 1)), (0, .ref (ad 0))] → W p l e rm_c_noteSteps s m args below meth c H locs 0 0 Q (F0 m 10 ls []) := by
    intro f
    induction f with
    | zero =>
      intro t kq H locs ls hf hj hkq hP hS hl
      obtain rfl : n = kq := by omega
      have hnX : (ct_wl σ (ct_lg (nY τ) (nE σ) (ct_L σ) n)).1 0 0 = n := hn
      refine lv_iload_n hx hb dX1_noteSteps_10 rfl (lv_at hl 0 rfl) ?_
      refine lv_iload_n hx hb dX1_noteSteps_11 rfl (lv_at hl 1 rfl) ?_
      refine wi_icmp_ge (tgt := 64) hx hb (by omega) (by omega) dX1_noteSteps_12 (by decide) (fun c12 => ?_) (fun z => absurd z (by omega))
      exact rt_v hQ hx hb hr hlocks () hP hS trivial dX1_noteSteps_64
    | succ f ih =>
      intro t kq H locs ls hf hj hkq hP hS hl
      refine lv_iload_n hx hb dX1_noteSteps_10 rfl (lv_at hl 0 rfl) ?_
      refine lv_iload_n hx hb dX1_noteSteps_11 rfl (lv_at hl 1 rfl) ?_
      refine wi_icmp_ge (tgt := 64) hx hb (by omega) (by omega) dX1_noteSteps_12 (by decide) (fun z => absurd z (by omega)) (fun c12 => ?_)
      refine lv_aload_n hx hb dX1_noteSteps_15 rfl (lv_at hl 2 rfl) ?_
      refine lv_iload_n hx hb dX1_noteSteps_16 rfl (lv_at hl 0 rfl) ?_
      refine wd_aald hx hb hK hP (1) 0 (by omega) cW_1 rfl (t) (by omega) (by omega) rfl dX1_noteSteps_17 ?_
      by_cases hlt : t < n
      · obtain rfl : t = kq := by omega
        have hnX : (ct_wl σ (ct_lg (nY τ) (nE σ) (ct_L σ) t)).1 0 0 = n := hn
        have hvX : ct_Inv (ct_wl σ (ct_lg (nY τ) (nE σ) (ct_L σ) t)) := ct_Inv_wl hv (ct_lg_le hv.1.2.2 _)
        have htn := tN_at τ t
        have ht9 := ht1 (t + 1)
        obtain ⟨_, _, _, _, _, _, _, _, _⟩ := hvX.2.1 (t + 1) (by omega) (by omega)
        rw [hnX, cw_ns_in hlt]
        refine lv_astore (lv' := [(4, .ref (ad (3 + 2 * (t + 1)))), (3, .int (nI (t))), (2, .int (nI (30))), (1, .ref (ad 1)), (0, .ref (ad 0))]) hx hb dX1_noteSteps_18 hl (by decide) rfl (fun ls hl => ?_)
        refine lv_aload hx hb dX1_noteSteps_20 (lv_at hl 0 rfl) ?_
        refine lv_ifnull hx hb dX1_noteSteps_22 ?_
        refine lv_aload hx hb dX1_noteSteps_25 (lv_at hl 0 rfl) ?_
        refine wd_get (C := RX0) (T := TX0) (n := 12) (ci := ciN) (v := .int (nI ((tN τ t) 1 (t + 1)))) hx hb hts (by decide +kernel) hown hK hP (3 + 2 * (t + 1)) (by omega) (cW_nd (by omega)) rfl 7 (by decide) (hts (.fieldLink RX1 131 "CarThreads$Node" "toBeNoted" "Z") (by decide +kernel)) (fun _ h9 => h9) (by first | rfl | simp [cw_nd, cw_ob, mw_ob, ct_sg, ct_sl, tu]) dX1_noteSteps_27 ?_
        refine wi_if_eq (tgt := 58) hx hb (by omega) dX1_noteSteps_30 (by decide) (fun c30 => ?_) (fun c30 => ?_)
        · refine lv_iinc (v := nI (t + 1)) (lv' := [(3, .int (nI (t + 1))), (4, .ref (ad (3 + 2 * (t + 1)))), (2, .int (nI (30))), (1, .ref (ad 1)), (0, .ref (ad 0))]) hx hb dX1_noteSteps_58 hl (k := 1) rfl (wi_inc _) (by decide) rfl (fun ls hl => ?_)
          refine lv_goto (tgt := 10) hx hb dX1_noteSteps_61 (by decide) ?_
          have hz : τ 1 (t + 1) = 0 := by omega
          have q : ct_lg (nY τ) (nE σ) (ct_L σ) (t + 1) = (ct_lg (nY τ) (nE σ) (ct_L σ) t) := by
            show (if nY τ (t + 1) = true then _ else _) = _
            rw [if_neg (by simp [nY, hz])]
          exact ih (t + 1) (t + 1) _ _ _ (by omega) (by omega) (by omega) (by rw [q, tN_k hz]; exact hP) hS (lv_sub hl [0, 2, 3, 4] rfl)
        · refine lv_aload hx hb dX1_noteSteps_33 (lv_at hl 0 rfl) ?_
          refine lv_iconst (v := nI 0) hx hb dX1_noteSteps_35 (by decide) ?_
          refine wd_put (C := RX0) (T := TX0) (n := 12) (ci := ciN) (v := .int (nI (0))) (ty := .boolean) hx hb hts (by decide +kernel) tyX0 tyX0_ok nmX0 hown hK hP hI (fun k h => wA_in h) hS (3 + 2 * (t + 1)) (by omega) (cW_nd (by omega)) rfl 7 (by decide) (hts (.fieldLink RX1 131 "CarThreads$Node" "toBeNoted" "Z") (by decide +kernel)) (fun _ h9 => h9) rfl (by decide +kernel) (wi_nar (by omega)) (wi_fit (by omega)) (Nat.le_of_ble_eq_true rfl) dX1_noteSteps_36 (fun H locs hP hS => ?_)
          have hP : va_P D wCl (wl ad (cW cN cI ad (ct_wl σ (ct_lg (nY τ) (nE σ) (ct_L σ) t)) (tu (tN τ t) 1 (t + 1) 0) tr) (5 + 2 * n)) H := up_nd hP (by omega) (by simp [cw_nd, ct_sg, ct_sl, tu]) (fun x hx _ => by simp [cw_nd, ct_sg, ct_sl, tu, hx]) (by rfl) rfl rfl rfl rfl rfl
          rw [tN_s] at hP
          refine lv_aload_n hx hb dX1_noteSteps_39 rfl (lv_at hl 4 rfl) ?_
          refine lv_aload hx hb dX1_noteSteps_40 (lv_at hl 0 rfl) ?_
          refine wd_get (C := RX0) (T := TX0) (n := 12) (ci := ciN) (v := .int (nI (t + 1))) hx hb hts (by decide +kernel) hown hK hP (3 + 2 * (t + 1)) (by omega) (cW_nd (by omega)) rfl 0 (by decide) (hts (.fieldLink RX1 137 "CarThreads$Node" "number" "I") (by decide +kernel)) (fun _ h9 => h9) (by first | rfl | simp [cw_nd, cw_ob, mw_ob, ct_sg, ct_sl, tu]) dX1_noteSteps_42 ?_
          refine lv_sipush (v := nI 1000) hx hb dX1_noteSteps_45 (by decide) ?_
          refine wi_mul hx hb dX1_noteSteps_48 ?_
          refine lv_aload hx hb dX1_noteSteps_49 (lv_at hl 0 rfl) ?_
          refine wd_get (C := RX0) (T := TX0) (n := 12) (ci := ciN) (v := .int (nI ((ct_wl σ (ct_lg (nY τ) (nE σ) (ct_L σ) t)).1 3 (t + 1)))) hx hb hts (by decide +kernel) hown hK hP (3 + 2 * (t + 1)) (by omega) (cW_nd (by omega)) rfl 4 (by decide) (hts (.fieldLink RX1 116 "CarThreads$Node" "done" "I") (by decide +kernel)) (fun _ h9 => h9) (by first | rfl | simp [cw_nd, cw_ob, mw_ob, ct_sg, ct_sl, tu]) dX1_noteSteps_51 ?_
          refine wi_add hx hb dX1_noteSteps_54 ?_
          refine wd_callv (va_runV (As := [.int (nI (((t + 1) * 1000) + ((ct_wl σ (ct_lg (nY τ) (nE σ) (ct_L σ) t)).1 3 (t + 1))))]) (rest := []) ⟨hx, hb, hml, hown, hts⟩ (c_note l (σ := ct_wl σ (ct_lg (nY τ) (nE σ) (ct_L σ) t)) (τ := tN τ (t + 1)) hI hvX hnX (((t + 1) * 1000) + ((ct_wl σ (ct_lg (nY τ) (nE σ) (ct_L σ) t)).1 3 (t + 1)))) (cwV 1 hts gX1_noteSteps_X1_note rfl rfl rfl (by decide +kernel) ⟨Nat.le_of_ble_eq_true rfl, Nat.le_of_ble_eq_true rfl⟩) (wd_pre (q := (RX1, TX1, 9)) (ci := ciT) hK hP (by omega) rfl cW_0) rfl rfl hl.1 rfl (lv_room (Nat.le_of_ble_eq_true rfl)) dX1_noteSteps_55 ⟨Nat.zero_le _, Nat.zero_le _⟩) hS (fun k h => wA_in h) (fun uv1 H locs ev1 hP hz hk hS => ?_)
          have hE : ct_note (ct_wl σ (ct_lg (nY τ) (nE σ) (ct_L σ) t)) (((t + 1) * 1000) + ((ct_wl σ (ct_lg (nY τ) (nE σ) (ct_L σ) t)).1 3 (t + 1))) = ct_wl σ (ct_lg (nY τ) (nE σ) (ct_L σ) (t + 1)) := by
            have q : ct_lg (nY τ) (nE σ) (ct_L σ) (t + 1) = ct_add (ct_lg (nY τ) (nE σ) (ct_L σ) t) (nE σ (t + 1)) := by
              show (if nY τ (t + 1) = true then _ else _) = _
              rw [if_pos (by simp [nY]; omega)]
            unfold ct_note
            rw [q, ct_L_wl, ct_wl_wl]
            rfl
          rw [hE] at hP
          refine lv_iinc (v := nI (t + 1)) (lv' := [(3, .int (nI (t + 1))), (4, .ref (ad (3 + 2 * (t + 1)))), (2, .int (nI (30))), (1, .ref (ad 1)), (0, .ref (ad 0))]) hx hb dX1_noteSteps_58 hl (k := 1) rfl (wi_inc _) (by decide) rfl (fun ls hl => ?_)
          refine lv_goto (tgt := 10) hx hb dX1_noteSteps_61 (by decide) ?_
          exact ih (t + 1) (t + 1) _ _ _ (by omega) (by omega) (by omega) hP hS (lv_sub hl [0, 2, 3, 4] rfl)
      · obtain rfl : n = kq := by omega
        have hnX : (ct_wl σ (ct_lg (nY τ) (nE σ) (ct_L σ) n)).1 0 0 = n := hn
        rw [hnX, cw_ns_out hlt]
        refine lv_astoreN (lv' := [(4, .null), (3, .int (nI (t))), (2, .int (nI (30))), (1, .ref (ad 1)), (0, .ref (ad 0))]) hx hb dX1_noteSteps_18 hl (by decide) rfl (fun ls hl => ?_)
        refine lv_aloadN hx hb dX1_noteSteps_20 (lv_at hl 0 rfl) ?_
        refine lv_ifnullN (tgt := 58) hx hb dX1_noteSteps_22 (by decide) ?_
        refine lv_iinc (v := nI (t + 1)) (lv' := [(3, .int (nI (t + 1))), (4, .null), (2, .int (nI (30))), (1, .ref (ad 1)), (0, .ref (ad 0))]) hx hb dX1_noteSteps_58 hl (k := 1) rfl (wi_inc _) (by decide) rfl (fun ls hl => ?_)
        refine lv_goto (tgt := 10) hx hb dX1_noteSteps_61 (by decide) ?_
        exact ih (t + 1) n _ _ _ (by omega) (by omega) (by omega) hP hS (lv_sub hl [0, 2, 3, 4] rfl)
  exact loop10 _ 0 0 _ _ _ rfl (by omega) (by omega) (by rw [tN_0]; show va_P D wCl (wl ad (cW cN cI ad (ct_wl σ (ct_L σ)) τ tr) _) _; rw [ct_wl_L]; exact hP) hS (lv_sub hl [0, 1, 2, 3] rfl)
abbrev rm_c_cutNow : Room := { frames := 1, cells := 0, slots := 0, locals := 22 }
set_option maxHeartbeats 4000000 in
set_option maxRecDepth 100000 in
theorem c_cutNow (l : Launch) {D : va_G} {cN cI : ClassId} {ad : Nat → Nat} {σ : St} {τ : Nat → Nat → Nat} {tr : Nat → Int32} {n : Nat} (hI : adI ad (5 + 2 * n)) (hv : ct_Inv σ) (hn : σ.1 0 0 = n)  : Met l yX1_endNodesCutNow wsX1_endNodesCutNow rm_c_cutNow (va_Pc [.ref (ad 0)] (pC D wCl (tyC cN cI) ad (cW cN cI ad σ τ tr) (5 + 2 * n))) (qV (S := Unit) D wCl ad (5 + 2 * n) (fun _ => True) (fun _ => cW cN cI ad (ct_cut σ n) τ tr)) 0 0 (wA ad (5 + 2 * n)) := by
  refine Met.go (cc := cX1_endNodesCutNow) (maxL := 5) (ret := none) (by decide) rfl (Nat.le_of_ble_eq_true rfl) ?_
  intro p e s m below meth c ls args Q ⟨hx, hb, hml, hown, hts⟩ hr hlocks hnm ⟨hP, hK⟩ hl hQ
  have hl : lv_has ls 5 [(0, .ref (ad 0))] := hl
  have hS : va_S (wA ad (5 + 2 * n)) s.heap s.heap [] := va_S.rf
  have hn30 : n ≤ 30 := by have := hv.1.1; omega
  refine lv_aload_n hx hb dX1_endNodesCutNow_0 rfl (lv_at hl 0 rfl) ?_
  refine wd_get (C := RX1) (T := TX1) (n := 9) (ci := ciT) (v := .ref (ad 1)) hx hb hts (by decide +kernel) hown hK hP (0) (by omega) cW_0 rfl 0 (by decide) (hts (.fieldLink RX1 11 "CarThreads" "nodes" "[LCarThreads$Node;") (by decide +kernel)) (fun _ h9 => h9) (by first | rfl | simp [cw_nd, cw_ob, mw_ob, ct_sg, ct_sl, tu]) dX1_endNodesCutNow_1 ?_
  refine lv_astore_n (lv' := [(1, .ref (ad 1)), (0, .ref (ad 0))]) hx hb dX1_endNodesCutNow_4 rfl hl (by decide) rfl (fun ls hl => ?_)
  refine lv_aload_n hx hb dX1_endNodesCutNow_5 rfl (lv_at hl 0 rfl) ?_
  refine wd_alen (v := nI 30) hx hb hK hP (1) 0 (by omega) cW_1 rfl rfl dX1_endNodesCutNow_6 ?_
  refine lv_istore_n (lv' := [(2, .int (nI (30))), (1, .ref (ad 1)), (0, .ref (ad 0))]) hx hb dX1_endNodesCutNow_7 rfl hl (by decide) rfl (fun ls hl => ?_)
  refine lv_iconst (v := nI 0) hx hb dX1_endNodesCutNow_8 (by decide) ?_
  refine lv_istore_n (lv' := [(3, .int (nI (0))), (2, .int (nI (30))), (1, .ref (ad 1)), (0, .ref (ad 0))]) hx hb dX1_endNodesCutNow_9 rfl hl (by decide) rfl (fun ls hl => ?_)
  have loop10 : ∀ (f t : Nat) (kq : Nat) (H : Heap) (locs : List Loc) (ls : Array Slot), 30 - t = f → t ≤ 30 → ((t < n ∧ kq = t) ∨ (n ≤ t ∧ kq = n)) → va_P D wCl (wl ad (cW cN cI ad (ct_cut σ kq) τ tr) (5 + 2 * n)) H → va_S (wA ad (5 + 2 * n)) s.heap H locs → lv_has ls 5 [(3, .int (nI (t))), (2, .int (nI (30))), (1, .ref (ad 1)), (0, .ref (ad 0))] → W p l e rm_c_cutNow s m args below meth c H locs 0 0 Q (F0 m 10 ls []) := by
    intro f
    induction f with
    | zero =>
      intro t kq H locs ls hf hj hkq hP hS hl
      obtain rfl : n = kq := by omega
      refine lv_iload_n hx hb dX1_endNodesCutNow_10 rfl (lv_at hl 0 rfl) ?_
      refine lv_iload_n hx hb dX1_endNodesCutNow_11 rfl (lv_at hl 1 rfl) ?_
      refine wi_icmp_ge (tgt := 50) hx hb (by omega) (by omega) dX1_endNodesCutNow_12 (by decide) (fun c12 => ?_) (fun z => absurd z (by omega))
      exact rt_v hQ hx hb hr hlocks () hP hS trivial dX1_endNodesCutNow_50
    | succ f ih =>
      intro t kq H locs ls hf hj hkq hP hS hl
      refine lv_iload_n hx hb dX1_endNodesCutNow_10 rfl (lv_at hl 0 rfl) ?_
      refine lv_iload_n hx hb dX1_endNodesCutNow_11 rfl (lv_at hl 1 rfl) ?_
      refine wi_icmp_ge (tgt := 50) hx hb (by omega) (by omega) dX1_endNodesCutNow_12 (by decide) (fun z => absurd z (by omega)) (fun c12 => ?_)
      refine lv_aload_n hx hb dX1_endNodesCutNow_15 rfl (lv_at hl 2 rfl) ?_
      refine lv_iload_n hx hb dX1_endNodesCutNow_16 rfl (lv_at hl 0 rfl) ?_
      refine wd_aald hx hb hK hP (1) 0 (by omega) cW_1 rfl (t) (by omega) (by omega) rfl dX1_endNodesCutNow_17 ?_
      by_cases hlt : t < n
      · obtain rfl : t = kq := by omega
        have hnX : (ct_cut σ t).1 0 0 = n := by rw [ct_cut_n]; exact hn
        have hvX : ct_Inv (ct_cut σ t) := ct_Inv_cut hv t (by omega)
        obtain ⟨_, _, _, _, _, _, _, _, _⟩ := hvX.2.1 (t + 1) (by omega) (by omega)
        rw [hnX, cw_ns_in hlt]
        refine lv_astore (lv' := [(4, .ref (ad (3 + 2 * (t + 1)))), (3, .int (nI (t))), (2, .int (nI (30))), (1, .ref (ad 1)), (0, .ref (ad 0))]) hx hb dX1_endNodesCutNow_18 hl (by decide) rfl (fun ls hl => ?_)
        refine lv_aload hx hb dX1_endNodesCutNow_20 (lv_at hl 0 rfl) ?_
        refine lv_ifnull hx hb dX1_endNodesCutNow_22 ?_
        refine lv_aload hx hb dX1_endNodesCutNow_25 (lv_at hl 0 rfl) ?_
        refine wd_get (C := RX0) (T := TX0) (n := 12) (ci := ciN) (v := .long ((ct_cut σ t).2.2 (t + 1))) hx hb hts (by decide +kernel) hown hK hP (3 + 2 * (t + 1)) (by omega) (cW_nd (by omega)) rfl 11 (by decide) (hts (.fieldLink RX1 67 "CarThreads$Node" "cutMicro" "J") (by decide +kernel)) (fun _ h9 => h9) (by first | rfl | simp [cw_nd, cw_ob, mw_ob, ct_sg, ct_sl, tu]) dX1_endNodesCutNow_27 ?_
        refine lv_aload_n hx hb dX1_endNodesCutNow_30 rfl (lv_at hl 4 rfl) ?_
        refine wd_get (C := RX1) (T := TX1) (n := 9) (ci := ciT) (v := .long ((ct_cut σ t).2.2 0)) hx hb hts (by decide +kernel) hown hK hP (0) (by omega) cW_0 rfl 8 (by decide) (hts (.fieldLink RX1 63 "CarThreads" "nextMicro" "J") (by decide +kernel)) (fun _ h9 => h9) (by first | rfl | simp [cw_nd, cw_ob, mw_ob, ct_sg, ct_sl, tu]) dX1_endNodesCutNow_31 ?_
        refine W.lcmp hx hb dX1_endNodesCutNow_34 ?_
        refine lv_if_ne (tgt := 44) hx hb dX1_endNodesCutNow_35 (by decide) (fun c35 => ?_) (fun c35 => ?_)
        · refine lv_iinc (v := nI (t + 1)) (lv' := [(3, .int (nI (t + 1))), (4, .ref (ad (3 + 2 * (t + 1)))), (2, .int (nI (30))), (1, .ref (ad 1)), (0, .ref (ad 0))]) hx hb dX1_endNodesCutNow_44 hl (k := 1) rfl (wi_inc _) (by decide) rfl (fun ls hl => ?_)
          refine lv_goto (tgt := 10) hx hb dX1_endNodesCutNow_47 (by decide) ?_
          have hE : ct_cut σ (t + 1) = ct_cut σ t := by
            show (if _ then _ else _) = _
            rw [if_neg (fun z => c35 (lg_cmp_0.mpr z.2))]
          exact ih (t + 1) (t + 1) _ _ _ (by omega) (by omega) (by omega) (by rw [hE]; exact hP) hS (lv_sub hl [0, 2, 3, 4] rfl)
        · refine lv_aload_n hx hb dX1_endNodesCutNow_38 rfl (lv_at hl 4 rfl) ?_
          refine lv_aload hx hb dX1_endNodesCutNow_39 (lv_at hl 0 rfl) ?_
          refine wd_callv (va_runV (As := [.ref (ad (3 + 2 * (t + 1)))]) (rest := []) ⟨hx, hb, hml, hown, hts⟩ (c_endNode l (σ := ct_cut σ t) hI hvX.toW hnX (i := t + 1) (by omega) (by omega)) (cwV 1 hts gX1_endNodesCutNow_X1_endNode rfl rfl rfl (by decide +kernel) ⟨Nat.le_of_ble_eq_true rfl, Nat.le_of_ble_eq_true rfl⟩) (wd_pre (q := (RX1, TX1, 9)) (ci := ciT) hK hP (by omega) rfl cW_0) rfl rfl hl.1 rfl (lv_room (Nat.le_of_ble_eq_true rfl)) dX1_endNodesCutNow_41 ⟨Nat.zero_le _, Nat.zero_le _⟩) hS (fun k h => wA_in h) (fun uv1 H locs ev1 hP hz hk hS => ?_)
          have hE : (if (ct_cut σ t).1 4 (t + 1) = 0 then ct_end (ct_cut σ t) (t + 1) else ct_cut σ t) = ct_cut σ (t + 1) := by
            show _ = (if _ then _ else _)
            by_cases q : (ct_cut σ t).1 4 (t + 1) = 0
            · rw [if_pos q, if_pos ⟨q, lg_cmp_0.mp c35⟩]
            · rw [if_neg q, if_neg (fun z => q z.1)]
          rw [hE] at hP
          refine lv_iinc (v := nI (t + 1)) (lv' := [(3, .int (nI (t + 1))), (4, .ref (ad (3 + 2 * (t + 1)))), (2, .int (nI (30))), (1, .ref (ad 1)), (0, .ref (ad 0))]) hx hb dX1_endNodesCutNow_44 hl (k := 1) rfl (wi_inc _) (by decide) rfl (fun ls hl => ?_)
          refine lv_goto (tgt := 10) hx hb dX1_endNodesCutNow_47 (by decide) ?_
          exact ih (t + 1) (t + 1) _ _ _ (by omega) (by omega) (by omega) hP hS (lv_sub hl [0, 2, 3, 4] rfl)
      · obtain rfl : n = kq := by omega
        have hnX : (ct_cut σ n).1 0 0 = n := by rw [ct_cut_n]; exact hn
        rw [hnX, cw_ns_out hlt]
        refine lv_astoreN (lv' := [(4, .null), (3, .int (nI (t))), (2, .int (nI (30))), (1, .ref (ad 1)), (0, .ref (ad 0))]) hx hb dX1_endNodesCutNow_18 hl (by decide) rfl (fun ls hl => ?_)
        refine lv_aloadN hx hb dX1_endNodesCutNow_20 (lv_at hl 0 rfl) ?_
        refine lv_ifnullN (tgt := 44) hx hb dX1_endNodesCutNow_22 (by decide) ?_
        refine lv_iinc (v := nI (t + 1)) (lv' := [(3, .int (nI (t + 1))), (4, .null), (2, .int (nI (30))), (1, .ref (ad 1)), (0, .ref (ad 0))]) hx hb dX1_endNodesCutNow_44 hl (k := 1) rfl (wi_inc _) (by decide) rfl (fun ls hl => ?_)
        refine lv_goto (tgt := 10) hx hb dX1_endNodesCutNow_47 (by decide) ?_
        exact ih (t + 1) n _ _ _ (by omega) (by omega) (by omega) hP hS (lv_sub hl [0, 2, 3, 4] rfl)
  exact loop10 _ 0 0 _ _ _ rfl (by omega) (by omega) hP hS (lv_sub hl [0, 1, 2, 3] rfl)
end P43
