section P46
abbrev rm_c_barrier : Room := { frames := 0, cells := 0, slots := 0, locals := 0 }
set_option maxHeartbeats 4000000 in
set_option maxRecDepth 100000 in
theorem c_barrier (l : Launch) {D : va_G} {cN cI : ClassId} {ad : Nat → Nat} {σ : St} {τ : Nat → Nat → Nat} {tr : Nat → Int32} {n : Nat} (hI : adI ad (5 + 2 * n)) (hv : ct_Inv σ) (hn : σ.1 0 0 = n) (x : Int32) : Met l yX1_barrier wsX1_barrier rm_c_barrier (va_Pc [.ref (ad 0), .int (x)] (pC D wCl (tyC cN cI) ad (cW cN cI ad σ τ tr) (5 + 2 * n))) (qI (S := Unit) D wCl ad (5 + 2 * n) (fun r _ => r = (f_bar σ x).1) (fun _ => cW cN cI ad (f_bar σ x).2 τ tr)) 0 0 (wA ad (5 + 2 * n)) := by
  refine Met.go (cc := cX1_barrier) (maxL := 3) (ret := (some .int)) (by decide) rfl (Nat.le_of_ble_eq_true rfl) ?_
  intro p e s m below meth c ls args Q ⟨hx, hb, hml, hown, hts⟩ hr hlocks hnm ⟨hP, hK⟩ hl hQ
  have hl : lv_has ls 3 [(0, .ref (ad 0)), (1, .int (x))] := hl
  have hS : va_S (wA ad (5 + 2 * n)) s.heap s.heap [] := va_S.rf
  have hn30 : n ≤ 30 := by have := hv.1.1; omega
  have hbr := hv.1.2.1
  refine lv_iload_n hx hb dX1_barrier_0 rfl (lv_at hl 1 rfl) ?_
  refine lv_if_lt (tgt := 11) hx hb dX1_barrier_1 (by decide) (fun c1 => ?_) (fun c1 => ?_)
  · refine lv_bipush (v := (-2)) hx hb dX1_barrier_11 (by decide) ?_
    have hF : f_bar σ x = ((-2), σ) := by unfold f_bar; rw [if_pos (Or.inl c1)]
    exact rt_i hQ hx hb hr hlocks () (by rw [hF]; exact hP) hS (by rw [hF] <;> rfl) dX1_barrier_13
  · refine lv_iload_n hx hb dX1_barrier_4 rfl (lv_at hl 1 rfl) ?_
    refine lv_sipush (v := nI 200) hx hb dX1_barrier_5 (by decide) ?_
    refine lv_icmp_le (tgt := 14) hx hb dX1_barrier_8 (by decide) (fun c8 => ?_) (fun c8 => ?_)
    · obtain ⟨j, rfl, hj1, hj2, hj3⟩ := ct_nat (x := x) (lo := 0) (hi := 200) (by omega) (by omega) c1 (Int32.not_lt.mpr c8)
      refine lv_aload_n hx hb dX1_barrier_14 rfl (lv_at hl 0 rfl) ?_
      refine wd_get (C := RX1) (T := TX1) (n := 9) (ci := ciT) (v := .int (nI (σ.1 0 1))) hx hb hts (by decide +kernel) hown hK hP (0) (by omega) cW_0 rfl 7 (by decide) (hts (.fieldLink RX1 77 "CarThreads" "barrierSize" "I") (by decide +kernel)) (fun _ h9 => h9) (by first | rfl | simp [cw_nd, cw_ob, mw_ob, ct_sg, ct_sl, tu]) dX1_barrier_15 ?_
      refine lv_istore_n (lv' := [(2, .int (nI (σ.1 0 1))), (0, .ref (ad 0)), (1, .int (nI (j)))]) hx hb dX1_barrier_18 rfl hl (by decide) rfl (fun ls hl => ?_)
      refine lv_aload_n hx hb dX1_barrier_19 rfl (lv_at hl 1 rfl) ?_
      refine lv_iload_n hx hb dX1_barrier_20 rfl (lv_at hl 2 rfl) ?_
      refine wd_put (C := RX1) (T := TX1) (n := 9) (ci := ciT) (v := .int (nI (j))) (ty := .int) hx hb hts (by decide +kernel) tyX1 tyX1_ok nmX1 hown hK hP hI (fun k h => wA_in h) hS (0) (by omega) cW_0 rfl 7 (by decide) (hts (.fieldLink RX1 77 "CarThreads" "barrierSize" "I") (by decide +kernel)) (fun _ h9 => h9) rfl (by decide +kernel) rfl rfl (Nat.le_of_ble_eq_true rfl) dX1_barrier_21 (fun H locs hP hS => ?_)
      have hP : va_P D wCl (wl ad (cW cN cI ad (ct_sg σ 0 1 j) τ tr) (5 + 2 * n)) H := up_ob hP (by simp [cw_ob, ct_sg, ct_sl, tu]) rfl rfl rfl (fun x hx1 _ => by rfl) rfl rfl
      refine lv_iload_n hx hb dX1_barrier_24 rfl (lv_at hl 0 rfl) ?_
      have hF : f_bar σ (nI j) = (nI (σ.1 0 1), ct_sg σ 0 1 j) := by unfold f_bar; rw [if_neg (fun q => q.elim c1 (fun z => (Int32.not_lt.mpr c8) z)), hj3]
      exact rt_i hQ hx hb hr hlocks () (by rw [hF]; exact hP) hS (by rw [hF] <;> rfl) dX1_barrier_25
    · refine lv_bipush (v := (-2)) hx hb dX1_barrier_11 (by decide) ?_
      have hF : f_bar σ x = ((-2), σ) := by unfold f_bar; rw [if_pos (Or.inr (show (200 : Int32) < x from Int32.not_le.mp c8))]
      exact rt_i hQ hx hb hr hlocks () (by rw [hF]; exact hP) hS (by rw [hF] <;> rfl) dX1_barrier_13
abbrev rm_c_held : Room := { frames := 2, cells := 0, slots := 0, locals := 42 }
set_option maxHeartbeats 4000000 in
set_option maxRecDepth 100000 in
theorem c_held (l : Launch) {D : va_G} {cN cI : ClassId} {ad : Nat → Nat} {σ : St} {τ : Nat → Nat → Nat} {tr : Nat → Int32} {n : Nat} (hI : adI ad (5 + 2 * n)) (hv : ct_Inv σ) (hn : σ.1 0 0 = n) (x t : Int32) : Met l yX1_held wsX1_held rm_c_held (va_Pc [.ref (ad 0), .int (x), .int (t)] (pC D wCl (tyC cN cI) ad (cW cN cI ad σ τ tr) (5 + 2 * n))) (qI (S := Unit) D wCl ad (5 + 2 * n) (fun r _ => r = (f_held σ x t).1) (fun _ => cW cN cI ad (f_held σ x t).2 τ tr)) 0 0 (wA ad (5 + 2 * n)) := by
  refine Met.go (cc := cX1_held) (maxL := 4) (ret := (some .int)) (by decide) rfl (Nat.le_of_ble_eq_true rfl) ?_
  intro p e s m below meth c ls args Q ⟨hx, hb, hml, hown, hts⟩ hr hlocks hnm ⟨hP, hK⟩ hl hQ
  have hl : lv_has ls 4 [(0, .ref (ad 0)), (1, .int (x)), (2, .int (t))] := hl
  have hS : va_S (wA ad (5 + 2 * n)) s.heap s.heap [] := va_S.rf
  have hn30 : n ≤ 30 := by have := hv.1.1; omega
  refine lv_aload_n hx hb dX1_held_0 rfl (lv_at hl 0 rfl) ?_
  refine lv_iload_n hx hb dX1_held_1 rfl (lv_at hl 1 rfl) ?_
  refine va_csq (W.runV (As := [.int (x)]) (rest := []) ⟨hx, hb, hml, hown, hts⟩ (c_nodeOrNull l hI hv hn x) (cwV 1 hts gX1_held_X1_nodeOrNull rfl rfl rfl (by decide +kernel) ⟨Nat.le_of_ble_eq_true rfl, Nat.le_of_ble_eq_true rfl⟩) (wd_pre (q := (RX1, TX1, 9)) (ci := ciT) hK hP (by omega) rfl cW_0) rfl rfl hl.1 rfl (lv_room (Nat.le_of_ble_eq_true rfl)) dX1_held_2 ⟨Nat.zero_le _, Nat.zero_le _⟩) (fun o1 eo1 => ?_)
  by_cases hk_i2 : ct_kn n x = 0
  · have hki_i2 : ct_kn n x = 0 := hk_i2
    rw [hki_i2] at eo1
    obtain rfl : o1 = none := eo1
    refine lv_astore_nN (lv' := [(3, .null), (0, .ref (ad 0)), (1, .int (x)), (2, .int (t))]) hx hb dX1_held_5 rfl hl (by decide) rfl (fun ls hl => ?_)
    refine lv_aload_nN hx hb dX1_held_6 rfl (lv_at hl 0 rfl) ?_
    refine lv_ifnonnullN hx hb dX1_held_7 ?_
    refine lv_iconst (v := (-1)) hx hb dX1_held_10 (by decide) ?_
    have hF : f_held σ x t = ((-1), σ) := by unfold f_held; rw [hn, hki_i2, if_pos rfl]
    exact rt_i hQ hx hb hr hlocks () (by rw [hF]; exact hP) hS (by rw [hF] <;> rfl) dX1_held_11
  · obtain ⟨i2, hi1_i2, hi2_i2, rfl⟩ : ∃ z, 1 ≤ z ∧ z ≤ n ∧ x = nI z := ⟨_, ct_kn_some (by omega) hk_i2⟩
    have hki_i2 : ct_kn n (nI i2) = i2 := ct_kn_nI (by omega) hi1_i2 hi2_i2
    have hki0_i2 : i2 ≠ 0 := by omega
    obtain ⟨_, _, _, _, _, _, _, _, _⟩ := hv.2.1 i2 hi1_i2 (by omega)
    rw [hki_i2] at eo1
    obtain rfl : o1 = some (ad (3 + 2 * i2)) := by rw [eo1]; exact if_neg hki0_i2
    refine lv_astore_n (lv' := [(3, .ref (ad (3 + 2 * i2))), (0, .ref (ad 0)), (1, .int (nI (i2))), (2, .int (t))]) hx hb dX1_held_5 rfl hl (by decide) rfl (fun ls hl => ?_)
    refine lv_aload_n hx hb dX1_held_6 rfl (lv_at hl 0 rfl) ?_
    refine lv_ifnonnull (tgt := 12) hx hb dX1_held_7 (by decide) ?_
    refine lv_iload_n hx hb dX1_held_12 rfl (lv_at hl 3 rfl) ?_
    refine lv_if_lt (tgt := 22) hx hb dX1_held_13 (by decide) (fun c13 => ?_) (fun c13 => ?_)
    · refine lv_bipush (v := (-2)) hx hb dX1_held_22 (by decide) ?_
      have hF : f_held σ (nI i2) t = ((-2), σ) := by unfold f_held; rw [hn, hki_i2, if_neg hki0_i2, if_pos (Or.inl c13)]
      exact rt_i hQ hx hb hr hlocks () (by rw [hF]; exact hP) hS (by rw [hF] <;> rfl) dX1_held_24
    · refine lv_iload_n hx hb dX1_held_16 rfl (lv_at hl 3 rfl) ?_
      refine lv_bipush (v := nI 16) hx hb dX1_held_17 (by decide) ?_
      refine lv_icmp_le (tgt := 25) hx hb dX1_held_19 (by decide) (fun c19 => ?_) (fun c19 => ?_)
      · obtain ⟨j, rfl, hj1, hj2, hj3⟩ := ct_nat (x := t) (lo := 0) (hi := 16) (by omega) (by omega) c13 (Int32.not_lt.mpr c19)
        have hd9 := hv.2.2.2.1 (j - 1 + 1)
        refine lv_iload_n hx hb dX1_held_25 rfl (lv_at hl 3 rfl) ?_
        refine wi_if_le (tgt := 59) hx hb (by omega) dX1_held_26 (by decide) (fun c26 => ?_) (fun c26 => ?_)
        · refine lv_aload_n hx hb dX1_held_59 rfl (lv_at hl 1 rfl) ?_
          refine lv_aload_n hx hb dX1_held_60 rfl (lv_at hl 0 rfl) ?_
          refine vp_callSi (W.runV (As := [.ref (ad (3 + 2 * i2))]) (rest := []) ⟨hx, hb, hml, hown, hts⟩ (c_count l hI hv hn (i := i2) (by omega) (by omega)) (cwV 1 hts gX1_held_X1_countThingsOf rfl rfl rfl (by decide +kernel) ⟨Nat.le_of_ble_eq_true rfl, Nat.le_of_ble_eq_true rfl⟩) (wd_pre (q := (RX1, TX1, 9)) (ci := ciT) hK hP (by omega) rfl cW_0) rfl rfl hl.1 rfl (lv_room (Nat.le_of_ble_eq_true rfl)) dX1_held_61 ⟨Nat.zero_le _, Nat.zero_le _⟩) (fun r3 er3 => ?_)
          subst er3
          have hF : f_held σ (nI i2) (nI j) = (nI (ct_cnt σ i2 16), σ) := by unfold f_held; rw [hn, hki_i2, if_neg hki0_i2, if_neg (fun q => q.elim c13 (fun z => (Int32.not_lt.mpr c19) z)), if_pos (by rw [show j = 0 by omega]; rfl)]
          exact rt_i hQ hx hb hr hlocks () (by rw [hF]; exact hP) hS (by rw [hF] <;> rfl) dX1_held_64
        · refine lv_aload_n hx hb dX1_held_29 rfl (lv_at hl 1 rfl) ?_
          refine wd_get (C := RX1) (T := TX1) (n := 9) (ci := ciT) (v := .ref (ad 2)) hx hb hts (by decide +kernel) hown hK hP (0) (by omega) cW_0 rfl 2 (by decide) (hts (.fieldLink RX1 15 "CarThreads" "holders" "[LCarThreads$Node;") (by decide +kernel)) (fun _ h9 => h9) (by first | rfl | simp [cw_nd, cw_ob, mw_ob, ct_sg, ct_sl, tu]) dX1_held_30 ?_
          refine lv_iload_n hx hb dX1_held_33 rfl (lv_at hl 3 rfl) ?_
          refine lv_iconst (v := nI 1) hx hb dX1_held_34 (by decide) ?_
          refine wi_sub hx hb (by omega) dX1_held_35 ?_
          refine wd_aald hx hb hK hP (2) 0 (by omega) cW_2 rfl (j - 1) (by omega) (by omega) rfl dX1_held_36 ?_
          by_cases hh0 : σ.1 9 (j - 1 + 1) = 0
          · rw [show cw_rf ad (σ.1 9 (j - 1 + 1)) = none from if_pos hh0]
            refine lv_ifnonnullN hx hb dX1_held_37 ?_
            refine lv_aload_n hx hb dX1_held_40 rfl (lv_at hl 0 rfl) ?_
            refine wd_get (C := RX0) (T := TX0) (n := 12) (ci := ciN) (v := .int (nI (1 - σ.1 4 i2))) hx hb hts (by decide +kernel) hown hK hP (3 + 2 * i2) (by omega) (cW_nd (by omega)) rfl 5 (by decide) (hts (.fieldLink RX1 36 "CarThreads$Node" "alive" "Z") (by decide +kernel)) (fun _ h9 => h9) (by first | rfl | simp [cw_nd, cw_ob, mw_ob, ct_sg, ct_sl, tu]) dX1_held_41 ?_
            refine wi_if_ne (tgt := 50) hx hb (by omega) dX1_held_44 (by decide) (fun c44 => ?_) (fun c44 => ?_)
            · refine lv_aload_n hx hb dX1_held_50 rfl (lv_at hl 1 rfl) ?_
              refine wd_get (C := RX1) (T := TX1) (n := 9) (ci := ciT) (v := .ref (ad 2)) hx hb hts (by decide +kernel) hown hK hP (0) (by omega) cW_0 rfl 2 (by decide) (hts (.fieldLink RX1 15 "CarThreads" "holders" "[LCarThreads$Node;") (by decide +kernel)) (fun _ h9 => h9) (by first | rfl | simp [cw_nd, cw_ob, mw_ob, ct_sg, ct_sl, tu]) dX1_held_51 ?_
              refine lv_iload_n hx hb dX1_held_54 rfl (lv_at hl 3 rfl) ?_
              refine lv_iconst (v := nI 1) hx hb dX1_held_55 (by decide) ?_
              refine wi_sub hx hb (by omega) dX1_held_56 ?_
              refine lv_aload_n hx hb dX1_held_57 rfl (lv_at hl 0 rfl) ?_
              refine wd_aast hx hb hK hP hI (fun k h => wA_in h) hS (2) 0 (3 + 2 * i2) ciN (by omega) (by omega) cW_2 rfl (cW_nd (by omega)) rfl (j - 1) (by omega) (by omega) rfl dX1_held_58 (fun H locs hP hS => ?_)
              have hP : va_P D wCl (wl ad (cW cN cI ad (ct_sg σ 9 (j - 1 + 1) i2) τ tr) (5 + 2 * n)) H := up_2 hP (hd_row (by omega)) (fun a ha => by funext x; simp [ct_sg, ha]) rfl
              rw [show j - 1 + 1 = j by omega] at hP hh0
              refine lv_aload_n hx hb dX1_held_59 rfl (lv_at hl 1 rfl) ?_
              refine lv_aload_n hx hb dX1_held_60 rfl (lv_at hl 0 rfl) ?_
              refine vp_callSi (W.runV (As := [.ref (ad (3 + 2 * i2))]) (rest := []) ⟨hx, hb, hml, hown, hts⟩ (c_count l (σ := (ct_sg σ 9 j i2)) hI (ct_Inv_sg9 hv (by omega) (by omega) (by omega)) hn (i := i2) (by omega) (by omega)) (cwV 1 hts gX1_held_X1_countThingsOf rfl rfl rfl (by decide +kernel) ⟨Nat.le_of_ble_eq_true rfl, Nat.le_of_ble_eq_true rfl⟩) (wd_pre (q := (RX1, TX1, 9)) (ci := ciT) hK hP (by omega) rfl cW_0) rfl rfl hl.1 rfl (lv_room (Nat.le_of_ble_eq_true rfl)) dX1_held_61 ⟨Nat.zero_le _, Nat.zero_le _⟩) (fun r4 er4 => ?_)
              subst er4
              have hF : f_held σ (nI i2) (nI j) = (nI (ct_cnt (ct_sg σ 9 j i2) i2 16), (ct_sg σ 9 j i2)) := by unfold f_held; rw [hn, hki_i2, if_neg hki0_i2, if_neg (fun q => q.elim c13 (fun z => (Int32.not_lt.mpr c19) z)), if_neg (show ¬ nI j = (0 : Int32) from fun q => absurd ((nI_eq (by omega) (by omega)).mp (show nI j = nI 0 from q)) (by omega)), hj3, if_neg (by rintro (q | q) <;> first | omega | exact q hh0)]
              exact rt_i hQ hx hb hr hlocks () (by rw [hF]; exact hP) hS (by rw [hF] <;> rfl) dX1_held_64
            · refine lv_bipush (v := (-3)) hx hb dX1_held_47 (by decide) ?_
              have hjj : j - 1 + 1 = j := by omega
              have hF : f_held σ (nI i2) (nI j) = ((-3), σ) := by unfold f_held; rw [hn, hki_i2, if_neg hki0_i2, if_neg (fun q => q.elim c13 (fun z => (Int32.not_lt.mpr c19) z)), if_neg (show ¬ nI j = (0 : Int32) from fun q => absurd ((nI_eq (by omega) (by omega)).mp (show nI j = nI 0 from q)) (by omega)), hj3, if_pos (by first | (left; omega) | (right; rw [← hjj]; exact hh0))]
              exact rt_i hQ hx hb hr hlocks () (by rw [hF]; exact hP) hS (by rw [hF] <;> rfl) dX1_held_49
          · rw [show cw_rf ad (σ.1 9 (j - 1 + 1)) = some (ad (3 + 2 * σ.1 9 (j - 1 + 1))) from if_neg hh0]
            refine lv_ifnonnull (tgt := 47) hx hb dX1_held_37 (by decide) ?_
            refine lv_bipush (v := (-3)) hx hb dX1_held_47 (by decide) ?_
            have hjj : j - 1 + 1 = j := by omega
            have hF : f_held σ (nI i2) (nI j) = ((-3), σ) := by unfold f_held; rw [hn, hki_i2, if_neg hki0_i2, if_neg (fun q => q.elim c13 (fun z => (Int32.not_lt.mpr c19) z)), if_neg (show ¬ nI j = (0 : Int32) from fun q => absurd ((nI_eq (by omega) (by omega)).mp (show nI j = nI 0 from q)) (by omega)), hj3, if_pos (by first | (left; omega) | (right; rw [← hjj]; exact hh0))]
            exact rt_i hQ hx hb hr hlocks () (by rw [hF]; exact hP) hS (by rw [hF] <;> rfl) dX1_held_49
      · refine lv_bipush (v := (-2)) hx hb dX1_held_22 (by decide) ?_
        have hF : f_held σ (nI i2) t = ((-2), σ) := by unfold f_held; rw [hn, hki_i2, if_neg hki0_i2, if_pos (Or.inr (show (16 : Int32) < t from Int32.not_le.mp c19))]
        exact rt_i hQ hx hb hr hlocks () (by rw [hF]; exact hP) hS (by rw [hF] <;> rfl) dX1_held_24
abbrev rm_c_close : Room := { frames := 1, cells := 0, slots := 0, locals := 22 }
set_option maxHeartbeats 4000000 in
set_option maxRecDepth 100000 in
theorem c_close (l : Launch) {D : va_G} {cN cI : ClassId} {ad : Nat → Nat} {σ : St} {τ : Nat → Nat → Nat} {tr : Nat → Int32} {n : Nat} (hI : adI ad (5 + 2 * n)) (hv : ct_Inv σ) (hn : σ.1 0 0 = n)  : Met l yX1_close wsX1_close rm_c_close (va_Pc [.ref (ad 0)] (pC D wCl (tyC cN cI) ad (cW cN cI ad σ τ tr) (5 + 2 * n))) (qI (S := Unit) D wCl ad (5 + 2 * n) (fun r _ => r = nI (ct_close σ n).1) (fun _ => cW cN cI ad (ct_close σ n).2 τ tr)) 0 0 (wA ad (5 + 2 * n)) := by
  refine Met.go (cc := cX1_close) (maxL := 6) (ret := (some .int)) (by decide) rfl (Nat.le_of_ble_eq_true rfl) ?_
  intro p e s m below meth c ls args Q ⟨hx, hb, hml, hown, hts⟩ hr hlocks hnm ⟨hP, hK⟩ hl hQ
  have hl : lv_has ls 6 [(0, .ref (ad 0))] := hl
  have hS : va_S (wA ad (5 + 2 * n)) s.heap s.heap [] := va_S.rf
  have hn30 : n ≤ 30 := by have := hv.1.1; omega
  refine lv_iconst (v := nI 0) hx hb dX1_close_0 (by decide) ?_
  refine lv_istore_n (lv' := [(1, .int (nI (0))), (0, .ref (ad 0))]) hx hb dX1_close_1 rfl hl (by decide) rfl (fun ls hl => ?_)
  refine lv_aload_n hx hb dX1_close_2 rfl (lv_at hl 1 rfl) ?_
  refine wd_get (C := RX1) (T := TX1) (n := 9) (ci := ciT) (v := .ref (ad 1)) hx hb hts (by decide +kernel) hown hK hP (0) (by omega) cW_0 rfl 0 (by decide) (hts (.fieldLink RX1 11 "CarThreads" "nodes" "[LCarThreads$Node;") (by decide +kernel)) (fun _ h9 => h9) (by first | rfl | simp [cw_nd, cw_ob, mw_ob, ct_sg, ct_sl, tu]) dX1_close_3 ?_
  refine lv_astore_n (lv' := [(2, .ref (ad 1)), (1, .int (nI (0))), (0, .ref (ad 0))]) hx hb dX1_close_6 rfl hl (by decide) rfl (fun ls hl => ?_)
  refine lv_aload_n hx hb dX1_close_7 rfl (lv_at hl 0 rfl) ?_
  refine wd_alen (v := nI 30) hx hb hK hP (1) 0 (by omega) cW_1 rfl rfl dX1_close_8 ?_
  refine lv_istore_n (lv' := [(3, .int (nI (30))), (2, .ref (ad 1)), (1, .int (nI (0))), (0, .ref (ad 0))]) hx hb dX1_close_9 rfl hl (by decide) rfl (fun ls hl => ?_)
  refine lv_iconst (v := nI 0) hx hb dX1_close_10 (by decide) ?_
  refine lv_istore (lv' := [(4, .int (nI (0))), (3, .int (nI (30))), (2, .ref (ad 1)), (1, .int (nI (0))), (0, .ref (ad 0))]) hx hb dX1_close_11 hl (by decide) rfl (fun ls hl => ?_)
  have loop13 : ∀ (f t : Nat) (kq : Nat) (H : Heap) (locs : List Loc) (ls : Array Slot), 30 - t = f → t ≤ 30 → ((t < n ∧ kq = t) ∨ (n ≤ t ∧ kq = n)) → va_P D wCl (wl ad (cW cN cI ad ((ct_close σ kq).2) τ tr) (5 + 2 * n)) H → va_S (wA ad (5 + 2 * n)) s.heap H locs → lv_has ls 6 [(4, .int (nI (t))), (3, .int (nI (30))), (2, .ref (ad 1)), (1, .int (nI ((ct_close σ kq).1))), (0, .ref (ad 0))] → W p l e rm_c_close s m args below meth c H locs 0 0 Q (F0 m 13 ls []) := by
    intro f
    induction f with
    | zero =>
      intro t kq H locs ls hf hj hkq hP hS hl
      obtain rfl : n = kq := by omega
      refine lv_iload hx hb dX1_close_13 (lv_at hl 0 rfl) ?_
      refine lv_iload_n hx hb dX1_close_15 rfl (lv_at hl 1 rfl) ?_
      refine wi_icmp_ge (tgt := 53) hx hb (by omega) (by omega) dX1_close_16 (by decide) (fun c16 => ?_) (fun z => absurd z (by omega))
      refine lv_iload_n hx hb dX1_close_53 rfl (lv_at hl 3 rfl) ?_
      exact rt_i hQ hx hb hr hlocks () hP hS rfl dX1_close_54
    | succ f ih =>
      intro t kq H locs ls hf hj hkq hP hS hl
      refine lv_iload hx hb dX1_close_13 (lv_at hl 0 rfl) ?_
      refine lv_iload_n hx hb dX1_close_15 rfl (lv_at hl 1 rfl) ?_
      refine wi_icmp_ge (tgt := 53) hx hb (by omega) (by omega) dX1_close_16 (by decide) (fun z => absurd z (by omega)) (fun c16 => ?_)
      refine lv_aload_n hx hb dX1_close_19 rfl (lv_at hl 2 rfl) ?_
      refine lv_iload hx hb dX1_close_20 (lv_at hl 0 rfl) ?_
      refine wd_aald hx hb hK hP (1) 0 (by omega) cW_1 rfl (t) (by omega) (by omega) rfl dX1_close_22 ?_
      by_cases hlt : t < n
      · obtain rfl : t = kq := by omega
        have hnX : (ct_close σ t).2.1 0 0 = n := by rw [ct_close_n]; exact hn
        have hvX : ct_Inv (ct_close σ t).2 := ct_Inv_close hv t (by omega)
        obtain ⟨_, _, _, _, _, _, _, _, _⟩ := hvX.2.1 (t + 1) (by omega) (by omega)
        rw [hnX, cw_ns_in hlt]
        refine lv_astore (lv' := [(5, .ref (ad (3 + 2 * (t + 1)))), (4, .int (nI (t))), (3, .int (nI (30))), (2, .ref (ad 1)), (1, .int (nI ((ct_close σ t).1))), (0, .ref (ad 0))]) hx hb dX1_close_23 hl (by decide) rfl (fun ls hl => ?_)
        refine lv_aload hx hb dX1_close_25 (lv_at hl 0 rfl) ?_
        refine lv_ifnull hx hb dX1_close_27 ?_
        refine lv_aload hx hb dX1_close_30 (lv_at hl 0 rfl) ?_
        refine wd_get (C := RX0) (T := TX0) (n := 12) (ci := ciN) (v := .int (nI (1 - (ct_close σ t).2.1 4 (t + 1)))) hx hb hts (by decide +kernel) hown hK hP (3 + 2 * (t + 1)) (by omega) (cW_nd (by omega)) rfl 5 (by decide) (hts (.fieldLink RX1 36 "CarThreads$Node" "alive" "Z") (by decide +kernel)) (fun _ h9 => h9) (by first | rfl | simp [cw_nd, cw_ob, mw_ob, ct_sg, ct_sl, tu]) dX1_close_32 ?_
        refine wi_if_eq (tgt := 47) hx hb (by omega) dX1_close_35 (by decide) (fun c35 => ?_) (fun c35 => ?_)
        · refine lv_iinc (v := nI (t + 1)) (lv' := [(4, .int (nI (t + 1))), (5, .ref (ad (3 + 2 * (t + 1)))), (3, .int (nI (30))), (2, .ref (ad 1)), (1, .int (nI ((ct_close σ t).1))), (0, .ref (ad 0))]) hx hb dX1_close_47 hl (k := 1) rfl (wi_inc _) (by decide) rfl (fun ls hl => ?_)
          refine lv_goto (tgt := 13) hx hb dX1_close_50 (by decide) ?_
          have hE : ct_close σ (t + 1) = ct_close σ t := by
            show (if _ then _ else _) = _
            rw [if_neg (by omega)]
          exact ih (t + 1) (t + 1) _ _ _ (by omega) (by omega) (by omega) (by rw [hE]; exact hP) hS (by rw [hE]; exact lv_sub hl [0, 2, 3, 4, 5] rfl)
        · refine lv_aload_n hx hb dX1_close_38 rfl (lv_at hl 5 rfl) ?_
          refine lv_aload hx hb dX1_close_39 (lv_at hl 0 rfl) ?_
          refine wd_callv (va_runV (As := [.ref (ad (3 + 2 * (t + 1)))]) (rest := []) ⟨hx, hb, hml, hown, hts⟩ (c_endNode l (σ := (ct_close σ t).2) hI hvX.toW hnX (i := t + 1) (by omega) (by omega)) (cwV 1 hts gX1_close_X1_endNode rfl rfl rfl (by decide +kernel) ⟨Nat.le_of_ble_eq_true rfl, Nat.le_of_ble_eq_true rfl⟩) (wd_pre (q := (RX1, TX1, 9)) (ci := ciT) hK hP (by omega) rfl cW_0) rfl rfl hl.1 rfl (lv_room (Nat.le_of_ble_eq_true rfl)) dX1_close_41 ⟨Nat.zero_le _, Nat.zero_le _⟩) hS (fun k h => wA_in h) (fun uv1 H locs ev1 hP hz hk hS => ?_)
          have hz4 : (ct_close σ t).2.1 4 (t + 1) = 0 := by omega
          rw [if_pos hz4] at hP
          have hE : ct_close σ (t + 1) = ((ct_close σ t).1 + 1, ct_end (ct_close σ t).2 (t + 1)) := by
            show (if _ then _ else _) = _
            rw [if_pos hz4]
          refine lv_iinc (v := nI ((ct_close σ t).1 + 1)) (lv' := [(1, .int (nI ((ct_close σ t).1 + 1))), (5, .ref (ad (3 + 2 * (t + 1)))), (4, .int (nI (t))), (3, .int (nI (30))), (2, .ref (ad 1)), (0, .ref (ad 0))]) hx hb dX1_close_44 hl (k := 4) rfl (wi_inc _) (by decide) rfl (fun ls hl => ?_)
          refine lv_iinc (v := nI (t + 1)) (lv' := [(4, .int (nI (t + 1))), (1, .int (nI ((ct_close σ t).1 + 1))), (5, .ref (ad (3 + 2 * (t + 1)))), (3, .int (nI (30))), (2, .ref (ad 1)), (0, .ref (ad 0))]) hx hb dX1_close_47 hl (k := 2) rfl (wi_inc _) (by decide) rfl (fun ls hl => ?_)
          refine lv_goto (tgt := 13) hx hb dX1_close_50 (by decide) ?_
          exact ih (t + 1) (t + 1) _ _ _ (by omega) (by omega) (by omega) (by rw [hE]; exact hP) hS (by rw [hE]; exact lv_sub hl [0, 3, 4, 1, 5] rfl)
      · obtain rfl : n = kq := by omega
        have hnX : (ct_close σ n).2.1 0 0 = n := by rw [ct_close_n]; exact hn
        rw [hnX, cw_ns_out hlt]
        refine lv_astoreN (lv' := [(5, .null), (4, .int (nI (t))), (3, .int (nI (30))), (2, .ref (ad 1)), (1, .int (nI ((ct_close σ n).1))), (0, .ref (ad 0))]) hx hb dX1_close_23 hl (by decide) rfl (fun ls hl => ?_)
        refine lv_aloadN hx hb dX1_close_25 (lv_at hl 0 rfl) ?_
        refine lv_ifnullN (tgt := 47) hx hb dX1_close_27 (by decide) ?_
        refine lv_iinc (v := nI (t + 1)) (lv' := [(4, .int (nI (t + 1))), (5, .null), (3, .int (nI (30))), (2, .ref (ad 1)), (1, .int (nI ((ct_close σ n).1))), (0, .ref (ad 0))]) hx hb dX1_close_47 hl (k := 1) rfl (wi_inc _) (by decide) rfl (fun ls hl => ?_)
        refine lv_goto (tgt := 13) hx hb dX1_close_50 (by decide) ?_
        exact ih (t + 1) n _ _ _ (by omega) (by omega) (by omega) hP hS (lv_sub hl [0, 2, 3, 4, 5] rfl)
  exact loop13 _ 0 0 _ _ _ rfl (by omega) (by omega) hP hS (lv_sub hl [0, 1, 2, 3, 4] rfl)
abbrev rm_c_turn : Room := { frames := 1, cells := 0, slots := 0, locals := 21 }
set_option maxHeartbeats 4000000 in
set_option maxRecDepth 100000 in
theorem c_turn (l : Launch) {D : va_G} {cN cI : ClassId} {ad : Nat → Nat} {σ : St} {τ : Nat → Nat → Nat} {tr : Nat → Int32} {n : Nat} (hI : adI ad (5 + 2 * n)) (hv : ct_Inv σ) (hn : σ.1 0 0 = n) (hτ : tK τ) (x : Int32) : Met l yX1_turn wsX1_turn rm_c_turn (va_Pc [.ref (ad 0), .int (x)] (pC D wCl (tyC cN cI) ad (cW cN cI ad σ τ tr) (5 + 2 * n))) (qV (S := (Nat → Nat → Nat) × (Nat → Int32)) D wCl ad (5 + 2 * n) (fun u => tK u.1) (fun u => cW cN cI ad σ u.1 u.2)) 0 0 (wA ad (5 + 2 * n)) := by
  refine Met.go (cc := cX1_turn) (maxL := 2) (ret := none) (by decide) rfl (Nat.le_of_ble_eq_true rfl) ?_
  intro p e s m below meth c ls args Q ⟨hx, hb, hml, hown, hts⟩ hr hlocks hnm ⟨hP, hK⟩ hl hQ
  have hl : lv_has ls 2 [(0, .ref (ad 0)), (1, .int (x))] := hl
  have hS : va_S (wA ad (5 + 2 * n)) s.heap s.heap [] := va_S.rf
  have hn30 : n ≤ 30 := by have := hv.1.1; omega
  have ht5 := hτ.2.2
  refine lv_aload_n hx hb dX1_turn_0 rfl (lv_at hl 0 rfl) ?_
  refine lv_iload_n hx hb dX1_turn_1 rfl (lv_at hl 1 rfl) ?_
  refine vp_callSi (W.runV (As := [.int (x)]) (rest := []) ⟨hx, hb, hml, hown, hts⟩ (c_isKnown l hI hv hn x) (cwV 1 hts gX1_turn_X1_isKnown rfl rfl rfl (by decide +kernel) ⟨Nat.le_of_ble_eq_true rfl, Nat.le_of_ble_eq_true rfl⟩) (wd_pre (q := (RX1, TX1, 9)) (ci := ciT) hK hP (by omega) rfl cW_0) rfl rfl hl.1 rfl (lv_room (Nat.le_of_ble_eq_true rfl)) dX1_turn_2 ⟨Nat.zero_le _, Nat.zero_le _⟩) (fun r1 er1 => ?_)
  by_cases hkx : ct_kn n x = 0
  · rw [if_pos hkx] at er1
    subst er1
    refine wi_if_eq (tgt := 38) hx hb (by omega) dX1_turn_5 (by decide) (fun z => ?_) (fun z => absurd z (by decide))
    exact rt_v hQ hx hb hr hlocks (τ, tr) hP hS hτ dX1_turn_38
  · rw [if_neg hkx] at er1
    subst er1
    refine wi_if_eq (tgt := 38) hx hb (by omega) dX1_turn_5 (by decide) (fun z => absurd z (by decide)) (fun z => ?_)
    refine lv_aload_n hx hb dX1_turn_8 rfl (lv_at hl 0 rfl) ?_
    refine wd_get (C := RX1) (T := TX1) (n := 9) (ci := ciT) (v := .int (nI (τ 2 0))) hx hb hts (by decide +kernel) hown hK hP (0) (by omega) cW_0 rfl 4 (by decide) (hts (.fieldLink RX1 50 "CarThreads" "turnCount" "I") (by decide +kernel)) (fun _ h9 => h9) (by first | rfl | simp [cw_nd, cw_ob, mw_ob, ct_sg, ct_sl, tu]) dX1_turn_9 ?_
    refine lv_sipush (v := nI 500) hx hb dX1_turn_12 (by decide) ?_
    refine wi_icmp_ge (tgt := 38) hx hb (by omega) (by omega) dX1_turn_15 (by decide) (fun c15 => ?_) (fun c15 => ?_)
    · exact rt_v hQ hx hb hr hlocks (τ, tr) hP hS hτ dX1_turn_38
    · refine lv_aload_n hx hb dX1_turn_18 rfl (lv_at hl 0 rfl) ?_
      refine wd_get (C := RX1) (T := TX1) (n := 9) (ci := ciT) (v := .ref (ad 3)) hx hb hts (by decide +kernel) hown hK hP (0) (by omega) cW_0 rfl 3 (by decide) (hts (.fieldLink RX1 18 "CarThreads" "turnRow" "[I") (by decide +kernel)) (fun _ h9 => h9) (by first | rfl | simp [cw_nd, cw_ob, mw_ob, ct_sg, ct_sl, tu]) dX1_turn_19 ?_
      refine lv_aload_n hx hb dX1_turn_22 rfl (lv_at hl 0 rfl) ?_
      refine wd_get (C := RX1) (T := TX1) (n := 9) (ci := ciT) (v := .int (nI (τ 2 0))) hx hb hts (by decide +kernel) hown hK hP (0) (by omega) cW_0 rfl 4 (by decide) (hts (.fieldLink RX1 50 "CarThreads" "turnCount" "I") (by decide +kernel)) (fun _ h9 => h9) (by first | rfl | simp [cw_nd, cw_ob, mw_ob, ct_sg, ct_sl, tu]) dX1_turn_23 ?_
      refine lv_iload_n hx hb dX1_turn_26 rfl (lv_at hl 1 rfl) ?_
      refine wd_iast hx hb hK hP hI (fun k h => wA_in h) hS (3) 1 (by omega) cW_3 rfl (τ 2 0) (by omega) (by omega) rfl dX1_turn_27 (fun H locs hP hS => ?_)
      have hP : va_P D wCl (wl ad (cW cN cI ad σ τ (upd tr (τ 2 0) x)) (5 + 2 * n)) H := up_3 hP
      refine lv_aload_n hx hb dX1_turn_28 rfl (lv_at hl 0 rfl) ?_
      refine lv_dup hx hb dX1_turn_29 rfl ?_
      refine wd_get (C := RX1) (T := TX1) (n := 9) (ci := ciT) (v := .int (nI (τ 2 0))) hx hb hts (by decide +kernel) hown hK hP (0) (by omega) cW_0 rfl 4 (by decide) (hts (.fieldLink RX1 50 "CarThreads" "turnCount" "I") (by decide +kernel)) (fun _ h9 => h9) (by first | rfl | simp [cw_nd, cw_ob, mw_ob, ct_sg, ct_sl, tu]) dX1_turn_30 ?_
      refine lv_iconst (v := nI 1) hx hb dX1_turn_33 (by decide) ?_
      refine wi_add hx hb dX1_turn_34 ?_
      refine wd_put (C := RX1) (T := TX1) (n := 9) (ci := ciT) (v := .int (nI ((τ 2 0) + 1))) (ty := .int) hx hb hts (by decide +kernel) tyX1 tyX1_ok nmX1 hown hK hP hI (fun k h => wA_in h) hS (0) (by omega) cW_0 rfl 4 (by decide) (hts (.fieldLink RX1 50 "CarThreads" "turnCount" "I") (by decide +kernel)) (fun _ h9 => h9) rfl (by decide +kernel) rfl rfl (Nat.le_of_ble_eq_true rfl) dX1_turn_35 (fun H locs hP hS => ?_)
      have hP : va_P D wCl (wl ad (cW cN cI ad σ (tu τ 2 0 ((τ 2 0) + 1)) (upd tr (τ 2 0) x)) (5 + 2 * n)) H := up_ob hP (by simp [cw_ob, ct_sg, ct_sl, tu]) rfl rfl rfl (fun x hx1 _ => by rfl) rfl rfl
      exact rt_v hQ hx hb hr hlocks ((tu τ 2 0 ((τ 2 0) + 1)), (upd tr (τ 2 0) x)) hP hS ⟨hτ.1, hτ.2.1, by show (τ 2 0 + 1) ≤ 500; omega⟩ dX1_turn_38
end P46
