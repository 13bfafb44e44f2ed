section P45
abbrev rm_c_waits : Room := { frames := 2, cells := 0, slots := 0, locals := 42 }
set_option maxHeartbeats 4000000 in
set_option maxRecDepth 100000 in
theorem c_waits (l : Launch) {D : va_G} {cN cI : ClassId} {ad : Nat → Nat} {σ : St} {τ : Nat → Nat → Nat} {tr : Nat → Int32} {n : Nat} (hI : adI ad (5 + 2 * n)) (hv : ct_Inv σ) (hn : σ.1 0 0 = n) (x t y : Int32) : Met l yX1_waits wsX1_waits rm_c_waits (va_Pc [.ref (ad 0), .int (x), .int (t), .int (y)] (pC D wCl (tyC cN cI) ad (cW cN cI ad σ τ tr) (5 + 2 * n))) (qI (S := Unit) D wCl ad (5 + 2 * n) (fun r _ => r = (f_waits σ x t y).1) (fun _ => cW cN cI ad (f_waits σ x t y).2 τ tr)) 0 0 (wA ad (5 + 2 * n)) := by
  refine Met.go (cc := cX1_waits) (maxL := 6) (ret := (some .boolean)) (by decide) rfl (Nat.le_of_ble_eq_true rfl) ?_
  intro p e s m below meth c ls args Q ⟨hx, hb, hml, hown, hts⟩ hr hlocks hnm ⟨hP, hK⟩ hl hQ
  have hl : lv_has ls 6 [(0, .ref (ad 0)), (1, .int (x)), (2, .int (t)), (3, .int (y))] := hl
  have hS : va_S (wA ad (5 + 2 * n)) s.heap s.heap [] := va_S.rf
  have hn30 : n ≤ 30 := by have := hv.1.1; omega
  refine lv_aload_n hx hb dX1_waits_0 rfl (lv_at hl 0 rfl) ?_
  refine lv_iload_n hx hb dX1_waits_1 rfl (lv_at hl 1 rfl) ?_
  refine va_csq (W.runV (As := [.int (x)]) (rest := []) ⟨hx, hb, hml, hown, hts⟩ (c_nodeOrNull l hI hv hn x) (cwV 1 hts gX1_waits_X1_nodeOrNull rfl rfl rfl (by decide +kernel) ⟨Nat.le_of_ble_eq_true rfl, Nat.le_of_ble_eq_true rfl⟩) (wd_pre (q := (RX1, TX1, 9)) (ci := ciT) hK hP (by omega) rfl cW_0) rfl rfl hl.1 rfl (lv_room (Nat.le_of_ble_eq_true rfl)) dX1_waits_2 ⟨Nat.zero_le _, Nat.zero_le _⟩) (fun o1 eo1 => ?_)
  by_cases hk_i2 : ct_kn n x = 0
  · have hki_i2 : ct_kn n x = 0 := hk_i2
    rw [hki_i2] at eo1
    obtain rfl : o1 = none := eo1
    refine lv_astoreN (lv' := [(4, .null), (0, .ref (ad 0)), (1, .int (x)), (2, .int (t)), (3, .int (y))]) hx hb dX1_waits_5 hl (by decide) rfl (fun ls hl => ?_)
    refine lv_aload_n hx hb dX1_waits_7 rfl (lv_at hl 1 rfl) ?_
    refine lv_iload_n hx hb dX1_waits_8 rfl (lv_at hl 4 rfl) ?_
    refine va_csq (W.runV (As := [.int (y)]) (rest := []) ⟨hx, hb, hml, hown, hts⟩ (c_nodeOrNull l hI hv hn y) (cwV 1 hts gX1_waits_X1_nodeOrNull rfl rfl rfl (by decide +kernel) ⟨Nat.le_of_ble_eq_true rfl, Nat.le_of_ble_eq_true rfl⟩) (wd_pre (q := (RX1, TX1, 9)) (ci := ciT) hK hP (by omega) rfl cW_0) rfl rfl hl.1 rfl (lv_room (Nat.le_of_ble_eq_true rfl)) dX1_waits_9 ⟨Nat.zero_le _, Nat.zero_le _⟩) (fun o3 eo3 => ?_)
    by_cases hk_i4 : ct_kn n y = 0
    · have hki_i4 : ct_kn n y = 0 := hk_i4
      rw [hki_i4] at eo3
      obtain rfl : o3 = none := eo3
      refine lv_astoreN (lv' := [(5, .null), (4, .null), (0, .ref (ad 0)), (1, .int (x)), (2, .int (t)), (3, .int (y))]) hx hb dX1_waits_12 hl (by decide) rfl (fun ls hl => ?_)
      refine lv_aloadN hx hb dX1_waits_14 (lv_at hl 1 rfl) ?_
      refine lv_ifnullN (tgt := 31) hx hb dX1_waits_16 (by decide) ?_
      refine lv_iconst (v := nI 0) hx hb dX1_waits_31 (by decide) ?_
      have hF : f_waits σ (x) (t) (y) = (0, σ) := by
        unfold f_waits; rw [hn, hki_i2, hki_i4]
        rw [if_pos]
        first | exact Or.inl rfl | exact Or.inr (Or.inl rfl)
      exact rt_z hQ hx hb hr hlocks () (by rw [hF]; exact hP) hS rfl (by rw [hF] <;> rfl) dX1_waits_32
    · obtain ⟨i4, hi1_i4, hi2_i4, rfl⟩ : ∃ z, 1 ≤ z ∧ z ≤ n ∧ y = nI z := ⟨_, ct_kn_some (by omega) hk_i4⟩
      have hki_i4 : ct_kn n (nI i4) = i4 := ct_kn_nI (by omega) hi1_i4 hi2_i4
      have hki0_i4 : i4 ≠ 0 := by omega
      obtain ⟨_, _, _, _, _, _, _, _, _⟩ := hv.2.1 i4 hi1_i4 (by omega)
      rw [hki_i4] at eo3
      obtain rfl : o3 = some (ad (3 + 2 * i4)) := by rw [eo3]; exact if_neg hki0_i4
      refine lv_astore (lv' := [(5, .ref (ad (3 + 2 * i4))), (4, .null), (0, .ref (ad 0)), (1, .int (x)), (2, .int (t)), (3, .int (nI (i4)))]) hx hb dX1_waits_12 hl (by decide) rfl (fun ls hl => ?_)
      refine lv_aloadN hx hb dX1_waits_14 (lv_at hl 1 rfl) ?_
      refine lv_ifnullN (tgt := 31) hx hb dX1_waits_16 (by decide) ?_
      refine lv_iconst (v := nI 0) hx hb dX1_waits_31 (by decide) ?_
      have hF : f_waits σ (x) (t) (nI i4) = (0, σ) := by
        unfold f_waits; rw [hn, hki_i2, hki_i4]
        rw [if_pos]
        first | exact Or.inl rfl | exact Or.inr (Or.inl rfl)
      exact rt_z hQ hx hb hr hlocks () (by rw [hF]; exact hP) hS rfl (by rw [hF] <;> rfl) dX1_waits_32
  · obtain ⟨i2, hi1_i2, hi2_i2, rfl⟩ : ∃ z, 1 ≤ z ∧ z ≤ n ∧ x = nI z := ⟨_, ct_kn_some (by omega) hk_i2⟩
    have hki_i2 : ct_kn n (nI i2) = i2 := ct_kn_nI (by omega) hi1_i2 hi2_i2
    have hki0_i2 : i2 ≠ 0 := by omega
    obtain ⟨_, _, _, _, _, _, _, _, _⟩ := hv.2.1 i2 hi1_i2 (by omega)
    rw [hki_i2] at eo1
    obtain rfl : o1 = some (ad (3 + 2 * i2)) := by rw [eo1]; exact if_neg hki0_i2
    refine lv_astore (lv' := [(4, .ref (ad (3 + 2 * i2))), (0, .ref (ad 0)), (1, .int (nI (i2))), (2, .int (t)), (3, .int (y))]) hx hb dX1_waits_5 hl (by decide) rfl (fun ls hl => ?_)
    refine lv_aload_n hx hb dX1_waits_7 rfl (lv_at hl 1 rfl) ?_
    refine lv_iload_n hx hb dX1_waits_8 rfl (lv_at hl 4 rfl) ?_
    refine va_csq (W.runV (As := [.int (y)]) (rest := []) ⟨hx, hb, hml, hown, hts⟩ (c_nodeOrNull l hI hv hn y) (cwV 1 hts gX1_waits_X1_nodeOrNull rfl rfl rfl (by decide +kernel) ⟨Nat.le_of_ble_eq_true rfl, Nat.le_of_ble_eq_true rfl⟩) (wd_pre (q := (RX1, TX1, 9)) (ci := ciT) hK hP (by omega) rfl cW_0) rfl rfl hl.1 rfl (lv_room (Nat.le_of_ble_eq_true rfl)) dX1_waits_9 ⟨Nat.zero_le _, Nat.zero_le _⟩) (fun o5 eo5 => ?_)
    by_cases hk_i6 : ct_kn n y = 0
    · have hki_i6 : ct_kn n y = 0 := hk_i6
      rw [hki_i6] at eo5
      obtain rfl : o5 = none := eo5
      refine lv_astoreN (lv' := [(5, .null), (4, .ref (ad (3 + 2 * i2))), (0, .ref (ad 0)), (1, .int (nI (i2))), (2, .int (t)), (3, .int (y))]) hx hb dX1_waits_12 hl (by decide) rfl (fun ls hl => ?_)
      refine lv_aload hx hb dX1_waits_14 (lv_at hl 1 rfl) ?_
      refine lv_ifnull hx hb dX1_waits_16 ?_
      refine lv_aloadN hx hb dX1_waits_19 (lv_at hl 0 rfl) ?_
      refine lv_ifnullN (tgt := 31) hx hb dX1_waits_21 (by decide) ?_
      refine lv_iconst (v := nI 0) hx hb dX1_waits_31 (by decide) ?_
      have hF : f_waits σ (nI i2) (t) (y) = (0, σ) := by
        unfold f_waits; rw [hn, hki_i2, hki_i6]
        rw [if_pos]
        first | exact Or.inl rfl | exact Or.inr (Or.inl rfl)
      exact rt_z hQ hx hb hr hlocks () (by rw [hF]; exact hP) hS rfl (by rw [hF] <;> rfl) dX1_waits_32
    · obtain ⟨i6, hi1_i6, hi2_i6, rfl⟩ : ∃ z, 1 ≤ z ∧ z ≤ n ∧ y = nI z := ⟨_, ct_kn_some (by omega) hk_i6⟩
      have hki_i6 : ct_kn n (nI i6) = i6 := ct_kn_nI (by omega) hi1_i6 hi2_i6
      have hki0_i6 : i6 ≠ 0 := by omega
      obtain ⟨_, _, _, _, _, _, _, _, _⟩ := hv.2.1 i6 hi1_i6 (by omega)
      rw [hki_i6] at eo5
      obtain rfl : o5 = some (ad (3 + 2 * i6)) := by rw [eo5]; exact if_neg hki0_i6
      refine lv_astore (lv' := [(5, .ref (ad (3 + 2 * i6))), (4, .ref (ad (3 + 2 * i2))), (0, .ref (ad 0)), (1, .int (nI (i2))), (2, .int (t)), (3, .int (nI (i6)))]) hx hb dX1_waits_12 hl (by decide) rfl (fun ls hl => ?_)
      refine lv_aload hx hb dX1_waits_14 (lv_at hl 1 rfl) ?_
      refine lv_ifnull hx hb dX1_waits_16 ?_
      refine lv_aload hx hb dX1_waits_19 (lv_at hl 0 rfl) ?_
      refine lv_ifnull hx hb dX1_waits_21 ?_
      refine lv_aload hx hb dX1_waits_24 (lv_at hl 1 rfl) ?_
      refine lv_aload hx hb dX1_waits_26 (lv_at hl 0 rfl) ?_
      refine lv_acmp_ne (rx := some (ad (3 + 2 * i2))) (ry := some (ad (3 + 2 * i6))) (tgt := 33) hx hb dX1_waits_28 (by decide) (fun c28 => ?_) (fun c28 => ?_)
      · refine lv_aload hx hb dX1_waits_33 (lv_at hl 1 rfl) ?_
        refine wd_get (C := RX0) (T := TX0) (n := 12) (ci := ciN) (v := .int (nI (1 - σ.1 4 i2))) hx hb hts (by decide +kernel) hown hK hP (3 + 2 * i2) (by omega) (cW_nd (by omega)) rfl 5 (by decide) (hts (.fieldLink RX1 36 "CarThreads$Node" "alive" "Z") (by decide +kernel)) (fun _ h9 => h9) (by first | rfl | simp [cw_nd, cw_ob, mw_ob, ct_sg, ct_sl, tu]) dX1_waits_35 ?_
        refine wi_if_eq (tgt := 50) hx hb (by omega) dX1_waits_38 (by decide) (fun c38 => ?_) (fun c38 => ?_)
        · refine lv_iconst (v := nI 0) hx hb dX1_waits_50 (by decide) ?_
          have hF : f_waits σ (nI i2) (t) (nI i6) = (0, σ) := by
            unfold f_waits; rw [hn, hki_i2, hki_i6]
            rw [if_pos]
            first | (exact Or.inr (Or.inr (Or.inl (by first | omega | (have q := hI (3 + 2 * i2) (3 + 2 * i6) (by omega) (by omega) (Option.some.inj c28); omega))))) | (exact Or.inr (Or.inr (Or.inr (Or.inl (by omega))))) | (exact Or.inr (Or.inr (Or.inr (Or.inr hyt))))
          exact rt_z hQ hx hb hr hlocks () (by rw [hF]; exact hP) hS rfl (by rw [hF] <;> rfl) dX1_waits_51
        · refine lv_aload hx hb dX1_waits_41 (lv_at hl 1 rfl) ?_
          refine lv_iload_n hx hb dX1_waits_43 rfl (lv_at hl 4 rfl) ?_
          refine vp_callSi (W.runV (As := [.int (t)]) (rest := []) ⟨hx, hb, hml, hown, hts⟩ (c_hytd l hI hv hn (i := i2) (by omega) (by omega) t) (cwV 1 hts gX1_waits_X0_hasYetToDo rfl rfl rfl (by decide +kernel) ⟨Nat.le_of_ble_eq_true rfl, Nat.le_of_ble_eq_true rfl⟩) (wd_pre (q := (RX0, TX0, 12)) (ci := ciN) hK hP (by omega) rfl (cW_nd (by omega))) rfl rfl hl.1 rfl (lv_room (Nat.le_of_ble_eq_true rfl)) dX1_waits_44 ⟨Nat.zero_le _, Nat.zero_le _⟩) (fun r7 er7 => ?_)
          by_cases hyt : t ≤ nI (σ.1 3 i2) ∨ nI (σ.1 1 i2) < t
          · rw [if_pos hyt] at er7
            subst er7
            refine wi_if_ne (tgt := 52) hx hb (by omega) dX1_waits_47 (by decide) (fun z => absurd z (by decide)) (fun z => ?_)
            refine lv_iconst (v := nI 0) hx hb dX1_waits_50 (by decide) ?_
            have hF : f_waits σ (nI i2) (t) (nI i6) = (0, σ) := by
              unfold f_waits; rw [hn, hki_i2, hki_i6]
              rw [if_pos]
              first | (exact Or.inr (Or.inr (Or.inl (by first | omega | (have q := hI (3 + 2 * i2) (3 + 2 * i6) (by omega) (by omega) (Option.some.inj c28); omega))))) | (exact Or.inr (Or.inr (Or.inr (Or.inl (by omega))))) | (exact Or.inr (Or.inr (Or.inr (Or.inr hyt))))
            exact rt_z hQ hx hb hr hlocks () (by rw [hF]; exact hP) hS rfl (by rw [hF] <;> rfl) dX1_waits_51
          · rw [if_neg hyt] at er7
            subst er7
            obtain ⟨j, rfl, hj1, hj2, hj3⟩ := ct_nat (x := t) (lo := σ.1 3 i2) (hi := σ.1 1 i2) (by omega) (by omega) (fun z => hyt (Or.inl (Int32.le_of_lt z))) (fun z => hyt (Or.inr z))
            refine wi_if_ne (tgt := 52) hx hb (by omega) dX1_waits_47 (by decide) (fun z => ?_) (fun z => absurd z (by decide))
            refine lv_aload hx hb dX1_waits_52 (lv_at hl 1 rfl) ?_
            refine wd_get (C := RX0) (T := TX0) (n := 12) (ci := ciN) (v := .ref (ad (4 + 2 * i2))) hx hb hts (by decide +kernel) hown hK hP (3 + 2 * i2) (by omega) (cW_nd (by omega)) rfl 3 (by decide) (hts (.fieldLink RX1 44 "CarThreads$Node" "awaitedBefore" "[LCarThreads$Node;") (by decide +kernel)) (fun _ h9 => h9) (by first | rfl | simp [cw_nd, cw_ob, mw_ob, ct_sg, ct_sl, tu]) dX1_waits_54 ?_
            refine lv_iload_n hx hb dX1_waits_57 rfl (lv_at hl 4 rfl) ?_
            refine lv_aload hx hb dX1_waits_58 (lv_at hl 0 rfl) ?_
            refine wd_aast hx hb hK hP hI (fun k h => wA_in h) hS (4 + 2 * i2) 0 (3 + 2 * i6) ciN (by omega) (by omega) (cW_aw (by omega)) rfl (cW_nd (by omega)) rfl (j) (by omega) (by omega) rfl dX1_waits_60 (fun H locs hP hS => ?_)
            have hP : va_P D wCl (wl ad (cW cN cI ad (ct_sw σ i2 j i6) τ tr) (5 + 2 * n)) H := up_aw hP (by omega) (sw_row (by omega)) (fun k hk => by funext s; simp [ct_sw, hk]) rfl rfl
            refine lv_iconst (v := nI 1) hx hb dX1_waits_61 (by decide) ?_
            have hne : ¬ i2 = i6 := fun q => c28 (by rw [q])
            have hF : f_waits σ (nI i2) (nI j) (nI i6) = (1, (ct_sw σ i2 j i6)) := by unfold f_waits; rw [hn, hki_i2, hki_i6, hj3, if_neg]; intro q; rcases q with q | q | q | q | q | q <;> first | omega | exact absurd (Or.inl q) hyt | exact absurd (Or.inr q) hyt
            exact rt_z hQ hx hb hr hlocks () (by rw [hF]; exact hP) hS rfl (by rw [hF] <;> rfl) dX1_waits_62
      · refine lv_iconst (v := nI 0) hx hb dX1_waits_31 (by decide) ?_
        have hF : f_waits σ (nI i2) (t) (nI i6) = (0, σ) := by
          unfold f_waits; rw [hn, hki_i2, hki_i6]
          rw [if_pos]
          first | (exact Or.inr (Or.inr (Or.inl (by first | omega | (have q := hI (3 + 2 * i2) (3 + 2 * i6) (by omega) (by omega) (Option.some.inj c28); omega))))) | (exact Or.inr (Or.inr (Or.inr (Or.inl (by omega))))) | (exact Or.inr (Or.inr (Or.inr (Or.inr hyt))))
        exact rt_z hQ hx hb hr hlocks () (by rw [hF]; exact hP) hS rfl (by rw [hF] <;> rfl) dX1_waits_32
abbrev rm_c_safe : Room := { frames := 2, cells := 0, slots := 0, locals := 42 }
set_option maxHeartbeats 4000000 in
set_option maxRecDepth 100000 in
theorem c_safe (l : Launch) {D : va_G} {cN cI : ClassId} {ad : Nat → Nat} {σ : St} {τ : Nat → Nat → Nat} {tr : Nat → Int32} {n : Nat} (hI : adI ad (5 + 2 * n)) (hv : ct_Inv σ) (hn : σ.1 0 0 = n) (x : Int32) : Met l yX1_safe wsX1_safe rm_c_safe (va_Pc [.ref (ad 0), .int (x)] (pC D wCl (tyC cN cI) ad (cW cN cI ad σ τ tr) (5 + 2 * n))) (vp_Si (fun r => r = f_safe σ x)) 0 0 (fun _ => False) := by
  refine Met.go (cc := cX1_safe) (maxL := 3) (ret := (some .int)) (by decide) rfl (Nat.le_of_ble_eq_true rfl) ?_
  intro p e s m below meth c ls args Q ⟨hx, hb, hml, hown, hts⟩ hr hlocks hnm ⟨hP, hK⟩ hl hQ
  have hl : lv_has ls 3 [(0, .ref (ad 0)), (1, .int (x))] := hl
  have hn30 : n ≤ 30 := by have := hv.1.1; omega
  refine lv_aload_n hx hb dX1_safe_0 rfl (lv_at hl 0 rfl) ?_
  refine lv_iload_n hx hb dX1_safe_1 rfl (lv_at hl 1 rfl) ?_
  refine va_csq (W.runV (As := [.int (x)]) (rest := []) ⟨hx, hb, hml, hown, hts⟩ (c_nodeOrNull l hI hv hn x) (cwV 1 hts gX1_safe_X1_nodeOrNull rfl rfl rfl (by decide +kernel) ⟨Nat.le_of_ble_eq_true rfl, Nat.le_of_ble_eq_true rfl⟩) (wd_pre (q := (RX1, TX1, 9)) (ci := ciT) hK hP (by omega) rfl cW_0) rfl rfl hl.1 rfl (lv_room (Nat.le_of_ble_eq_true rfl)) dX1_safe_2 ⟨Nat.zero_le _, Nat.zero_le _⟩) (fun o1 eo1 => ?_)
  by_cases hk_i2 : ct_kn n x = 0
  · have hki_i2 : ct_kn n x = 0 := hk_i2
    rw [hki_i2] at eo1
    obtain rfl : o1 = none := eo1
    refine lv_astore_nN (lv' := [(2, .null), (0, .ref (ad 0)), (1, .int (x))]) hx hb dX1_safe_5 rfl hl (by decide) rfl (fun ls hl => ?_)
    refine lv_aload_nN hx hb dX1_safe_6 rfl (lv_at hl 0 rfl) ?_
    refine lv_ifnonnullN hx hb dX1_safe_7 ?_
    refine lv_iconst (v := (-1)) hx hb dX1_safe_10 (by decide) ?_
    exact ro_i hQ hx hb hr hlocks (by unfold f_safe; rw [hn, hki_i2, if_pos rfl]) dX1_safe_11
  · obtain ⟨i2, hi1_i2, hi2_i2, rfl⟩ : ∃ z, 1 ≤ z ∧ z ≤ n ∧ x = nI z := ⟨_, ct_kn_some (by omega) hk_i2⟩
    have hki_i2 : ct_kn n (nI i2) = i2 := ct_kn_nI (by omega) hi1_i2 hi2_i2
    have hki0_i2 : i2 ≠ 0 := by omega
    obtain ⟨_, _, _, _, _, _, _, _, _⟩ := hv.2.1 i2 hi1_i2 (by omega)
    rw [hki_i2] at eo1
    obtain rfl : o1 = some (ad (3 + 2 * i2)) := by rw [eo1]; exact if_neg hki0_i2
    refine lv_astore_n (lv' := [(2, .ref (ad (3 + 2 * i2))), (0, .ref (ad 0)), (1, .int (nI (i2)))]) hx hb dX1_safe_5 rfl hl (by decide) rfl (fun ls hl => ?_)
    refine lv_aload_n hx hb dX1_safe_6 rfl (lv_at hl 0 rfl) ?_
    refine lv_ifnonnull (tgt := 12) hx hb dX1_safe_7 (by decide) ?_
    refine lv_aload_n hx hb dX1_safe_12 rfl (lv_at hl 0 rfl) ?_
    refine wd_get (C := RX0) (T := TX0) (n := 12) (ci := ciN) (v := .int (nI (σ.1 5 i2))) hx hb hts (by decide +kernel) hown hK hP (3 + 2 * i2) (by omega) (cW_nd (by omega)) rfl 9 (by decide) (hts (.fieldLink RX1 60 "CarThreads$Node" "tookSafeWay" "Z") (by decide +kernel)) (fun _ h9 => h9) (by first | rfl | simp [cw_nd, cw_ob, mw_ob, ct_sg, ct_sl, tu]) dX1_safe_13 ?_
    refine wi_if_eq (tgt := 23) hx hb (by omega) dX1_safe_16 (by decide) (fun c16 => ?_) (fun c16 => ?_)
    · refine lv_iconst (v := nI 0) hx hb dX1_safe_23 (by decide) ?_
      exact ro_i hQ hx hb hr hlocks (by unfold f_safe; rw [hn, hki_i2, if_neg hki0_i2]; congr 1; omega) dX1_safe_24
    · refine lv_iconst (v := nI 1) hx hb dX1_safe_19 (by decide) ?_
      refine lv_goto (tgt := 24) hx hb dX1_safe_20 (by decide) ?_
      exact ro_i hQ hx hb hr hlocks (by unfold f_safe; rw [hn, hki_i2, if_neg hki0_i2]; congr 1; omega) dX1_safe_24
abbrev rm_c_finished : Room := { frames := 2, cells := 0, slots := 0, locals := 42 }
set_option maxHeartbeats 4000000 in
set_option maxRecDepth 100000 in
theorem c_finished (l : Launch) {D : va_G} {cN cI : ClassId} {ad : Nat → Nat} {σ : St} {τ : Nat → Nat → Nat} {tr : Nat → Int32} {n : Nat} (hI : adI ad (5 + 2 * n)) (hv : ct_Inv σ) (hn : σ.1 0 0 = n) (x : Int32) : Met l yX1_finished wsX1_finished rm_c_finished (va_Pc [.ref (ad 0), .int (x)] (pC D wCl (tyC cN cI) ad (cW cN cI ad σ τ tr) (5 + 2 * n))) (vp_Si (fun r => r = f_fin σ x)) 0 0 (fun _ => False) := by
  refine Met.go (cc := cX1_finished) (maxL := 3) (ret := (some .int)) (by decide) rfl (Nat.le_of_ble_eq_true rfl) ?_
  intro p e s m below meth c ls args Q ⟨hx, hb, hml, hown, hts⟩ hr hlocks hnm ⟨hP, hK⟩ hl hQ
  have hl : lv_has ls 3 [(0, .ref (ad 0)), (1, .int (x))] := hl
  have hn30 : n ≤ 30 := by have := hv.1.1; omega
  refine lv_aload_n hx hb dX1_finished_0 rfl (lv_at hl 0 rfl) ?_
  refine lv_iload_n hx hb dX1_finished_1 rfl (lv_at hl 1 rfl) ?_
  refine va_csq (W.runV (As := [.int (x)]) (rest := []) ⟨hx, hb, hml, hown, hts⟩ (c_nodeOrNull l hI hv hn x) (cwV 1 hts gX1_finished_X1_nodeOrNull rfl rfl rfl (by decide +kernel) ⟨Nat.le_of_ble_eq_true rfl, Nat.le_of_ble_eq_true rfl⟩) (wd_pre (q := (RX1, TX1, 9)) (ci := ciT) hK hP (by omega) rfl cW_0) rfl rfl hl.1 rfl (lv_room (Nat.le_of_ble_eq_true rfl)) dX1_finished_2 ⟨Nat.zero_le _, Nat.zero_le _⟩) (fun o1 eo1 => ?_)
  by_cases hk_i2 : ct_kn n x = 0
  · have hki_i2 : ct_kn n x = 0 := hk_i2
    rw [hki_i2] at eo1
    obtain rfl : o1 = none := eo1
    refine lv_astore_nN (lv' := [(2, .null), (0, .ref (ad 0)), (1, .int (x))]) hx hb dX1_finished_5 rfl hl (by decide) rfl (fun ls hl => ?_)
    refine lv_aload_nN hx hb dX1_finished_6 rfl (lv_at hl 0 rfl) ?_
    refine lv_ifnonnullN hx hb dX1_finished_7 ?_
    refine lv_iconst (v := (-1)) hx hb dX1_finished_10 (by decide) ?_
    refine lv_goto (tgt := 18) hx hb dX1_finished_11 (by decide) ?_
    exact ro_i hQ hx hb hr hlocks (by unfold f_fin; rw [hn, hki_i2, if_pos rfl]) dX1_finished_18
  · obtain ⟨i2, hi1_i2, hi2_i2, rfl⟩ : ∃ z, 1 ≤ z ∧ z ≤ n ∧ x = nI z := ⟨_, ct_kn_some (by omega) hk_i2⟩
    have hki_i2 : ct_kn n (nI i2) = i2 := ct_kn_nI (by omega) hi1_i2 hi2_i2
    have hki0_i2 : i2 ≠ 0 := by omega
    obtain ⟨_, _, _, _, _, _, _, _, _⟩ := hv.2.1 i2 hi1_i2 (by omega)
    rw [hki_i2] at eo1
    obtain rfl : o1 = some (ad (3 + 2 * i2)) := by rw [eo1]; exact if_neg hki0_i2
    refine lv_astore_n (lv' := [(2, .ref (ad (3 + 2 * i2))), (0, .ref (ad 0)), (1, .int (nI (i2)))]) hx hb dX1_finished_5 rfl hl (by decide) rfl (fun ls hl => ?_)
    refine lv_aload_n hx hb dX1_finished_6 rfl (lv_at hl 0 rfl) ?_
    refine lv_ifnonnull (tgt := 14) hx hb dX1_finished_7 (by decide) ?_
    refine lv_aload_n hx hb dX1_finished_14 rfl (lv_at hl 0 rfl) ?_
    refine wd_get (C := RX0) (T := TX0) (n := 12) (ci := ciN) (v := .int (nI (σ.1 7 i2))) hx hb hts (by decide +kernel) hown hK hP (3 + 2 * i2) (by omega) (cW_nd (by omega)) rfl 10 (by decide) (hts (.fieldLink RX1 80 "CarThreads$Node" "lastPartsDone" "I") (by decide +kernel)) (fun _ h9 => h9) (by first | rfl | simp [cw_nd, cw_ob, mw_ob, ct_sg, ct_sl, tu]) dX1_finished_15 ?_
    exact ro_i hQ hx hb hr hlocks (by unfold f_fin; rw [hn, hki_i2, if_neg hki0_i2]) dX1_finished_18
abbrev rm_c_log : Room := { frames := 0, cells := 0, slots := 0, locals := 0 }
set_option maxHeartbeats 4000000 in
set_option maxRecDepth 100000 in
theorem c_log (l : Launch) {D : va_G} {cN cI : ClassId} {ad : Nat → Nat} {σ : St} {τ : Nat → Nat → Nat} {tr : Nat → Int32} {n : Nat} (hI : adI ad (5 + 2 * n)) (hv : ct_Inv σ) (hn : σ.1 0 0 = n) (x : Int32) : Met l yX1_log wsX1_log rm_c_log (va_Pc [.ref (ad 0), .int (x)] (pC D wCl (tyC cN cI) ad (cW cN cI ad σ τ tr) (5 + 2 * n))) (vp_Si (fun r => r = f_log σ x)) 0 0 (fun _ => False) := by
  refine Met.go (cc := cX1_log) (maxL := 2) (ret := (some .int)) (by decide) rfl (Nat.le_of_ble_eq_true rfl) ?_
  intro p e s m below meth c ls args Q ⟨hx, hb, hml, hown, hts⟩ hr hlocks hnm ⟨hP, hK⟩ hl hQ
  have hl : lv_has ls 2 [(0, .ref (ad 0)), (1, .int (x))] := hl
  have hn30 : n ≤ 30 := by have := hv.1.1; omega
  have hlc := hv.1.2.2
  refine lv_iload_n hx hb dX1_log_0 rfl (lv_at hl 1 rfl) ?_
  refine lv_if_lt (tgt := 21) hx hb dX1_log_1 (by decide) (fun c1 => ?_) (fun c1 => ?_)
  · refine lv_iconst (v := (-1)) hx hb dX1_log_21 (by decide) ?_
    exact ro_i hQ hx hb hr hlocks (by unfold f_log; rw [if_pos (Or.inl c1)]) dX1_log_22
  · refine lv_iload_n hx hb dX1_log_4 rfl (lv_at hl 1 rfl) ?_
    refine lv_aload_n hx hb dX1_log_5 rfl (lv_at hl 0 rfl) ?_
    refine wd_get (C := RX1) (T := TX1) (n := 9) (ci := ciT) (v := .int (nI (σ.1 0 2))) hx hb hts (by decide +kernel) hown hK hP (0) (by omega) cW_0 rfl 6 (by decide) (hts (.fieldLink RX1 57 "CarThreads" "logCount" "I") (by decide +kernel)) (fun _ h9 => h9) (by first | rfl | simp [cw_nd, cw_ob, mw_ob, ct_sg, ct_sl, tu]) dX1_log_6 ?_
    refine lv_icmp_ge (tgt := 21) hx hb dX1_log_9 (by decide) (fun c9 => ?_) (fun c9 => ?_)
    · refine lv_iconst (v := (-1)) hx hb dX1_log_21 (by decide) ?_
      exact ro_i hQ hx hb hr hlocks (by unfold f_log; rw [if_pos (Or.inr c9)]) dX1_log_22
    · refine lv_aload_n hx hb dX1_log_12 rfl (lv_at hl 0 rfl) ?_
      refine wd_get (C := RX1) (T := TX1) (n := 9) (ci := ciT) (v := .ref (ad 4)) hx hb hts (by decide +kernel) hown hK hP (0) (by omega) cW_0 rfl 5 (by decide) (hts (.fieldLink RX1 22 "CarThreads" "logRow" "[I") (by decide +kernel)) (fun _ h9 => h9) (by first | rfl | simp [cw_nd, cw_ob, mw_ob, ct_sg, ct_sl, tu]) dX1_log_13 ?_
      obtain ⟨j, hj, rfl⟩ : ∃ j : Nat, j < 2 ^ 31 ∧ x = nI j := nI_of c1
      have hjl : j < σ.1 0 2 := by
        rcases Nat.lt_or_ge j (σ.1 0 2) with q | q
        · exact q
        · exact absurd (nI_le q hj) c9
      refine lv_iload_n hx hb dX1_log_16 rfl (lv_at hl 1 rfl) ?_
      refine wd_iald hx hb hK hP (4) 1 (by omega) cW_4 rfl (j) (by omega) (by omega) rfl dX1_log_17 ?_
      refine lv_goto (tgt := 22) hx hb dX1_log_18 (by decide) ?_
      exact ro_i hQ hx hb hr hlocks (by unfold f_log; rw [if_neg (fun q => q.elim c1 c9), nI_clamp hj]) dX1_log_22
abbrev rm_c_cut : Room := { frames := 2, cells := 0, slots := 0, locals := 42 }
set_option maxHeartbeats 4000000 in
set_option maxRecDepth 100000 in
theorem c_cut (l : Launch) {D : va_G} {cN cI : ClassId} {ad : Nat → Nat} {σ : St} {τ : Nat → Nat → Nat} {tr : Nat → Int32} {n : Nat} (hI : adI ad (5 + 2 * n)) (hv : ct_Inv σ) (hn : σ.1 0 0 = n) (x : Int32) (v : Int64) : Met l yX1_cut wsX1_cut rm_c_cut (va_Pc [.ref (ad 0), .int (x), .long (v)] (pC D wCl (tyC cN cI) ad (cW cN cI ad σ τ tr) (5 + 2 * n))) (qI (S := Unit) D wCl ad (5 + 2 * n) (fun r _ => r = (f_cut σ x v).1) (fun _ => cW cN cI ad (f_cut σ x v).2 τ tr)) 0 0 (wA ad (5 + 2 * n)) := by
  refine Met.go (cc := cX1_cut) (maxL := 5) (ret := (some .int)) (by decide) rfl (Nat.le_of_ble_eq_true rfl) ?_
  intro p e s m below meth c ls args Q ⟨hx, hb, hml, hown, hts⟩ hr hlocks hnm ⟨hP, hK⟩ hl hQ
  have hl : lv_has ls 5 [(0, .ref (ad 0)), (1, .int (x)), (2, .long (v))] := hl
  have hS : va_S (wA ad (5 + 2 * n)) s.heap s.heap [] := va_S.rf
  have hn30 : n ≤ 30 := by have := hv.1.1; omega
  refine lv_aload_n hx hb dX1_cut_0 rfl (lv_at hl 0 rfl) ?_
  refine lv_iload_n hx hb dX1_cut_1 rfl (lv_at hl 1 rfl) ?_
  refine va_csq (W.runV (As := [.int (x)]) (rest := []) ⟨hx, hb, hml, hown, hts⟩ (c_nodeOrNull l hI hv hn x) (cwV 1 hts gX1_cut_X1_nodeOrNull rfl rfl rfl (by decide +kernel) ⟨Nat.le_of_ble_eq_true rfl, Nat.le_of_ble_eq_true rfl⟩) (wd_pre (q := (RX1, TX1, 9)) (ci := ciT) hK hP (by omega) rfl cW_0) rfl rfl hl.1 rfl (lv_room (Nat.le_of_ble_eq_true rfl)) dX1_cut_2 ⟨Nat.zero_le _, Nat.zero_le _⟩) (fun o1 eo1 => ?_)
  by_cases hk_i2 : ct_kn n x = 0
  · have hki_i2 : ct_kn n x = 0 := hk_i2
    rw [hki_i2] at eo1
    obtain rfl : o1 = none := eo1
    refine lv_astoreN (lv' := [(4, .null), (0, .ref (ad 0)), (1, .int (x)), (2, .long (v))]) hx hb dX1_cut_5 hl (by decide) rfl (fun ls hl => ?_)
    refine lv_aloadN hx hb dX1_cut_7 (lv_at hl 0 rfl) ?_
    refine lv_ifnonnullN hx hb dX1_cut_9 ?_
    refine lv_iconst (v := (-1)) hx hb dX1_cut_12 (by decide) ?_
    have hF : f_cut σ x v = ((-1), σ) := by unfold f_cut; rw [hn, hki_i2, if_pos rfl]
    exact rt_i hQ hx hb hr hlocks () (by rw [hF]; exact hP) hS (by rw [hF] <;> rfl) dX1_cut_13
  · obtain ⟨i2, hi1_i2, hi2_i2, rfl⟩ : ∃ z, 1 ≤ z ∧ z ≤ n ∧ x = nI z := ⟨_, ct_kn_some (by omega) hk_i2⟩
    have hki_i2 : ct_kn n (nI i2) = i2 := ct_kn_nI (by omega) hi1_i2 hi2_i2
    have hki0_i2 : i2 ≠ 0 := by omega
    obtain ⟨_, _, _, _, _, _, _, _, _⟩ := hv.2.1 i2 hi1_i2 (by omega)
    rw [hki_i2] at eo1
    obtain rfl : o1 = some (ad (3 + 2 * i2)) := by rw [eo1]; exact if_neg hki0_i2
    refine lv_astore (lv' := [(4, .ref (ad (3 + 2 * i2))), (0, .ref (ad 0)), (1, .int (nI (i2))), (2, .long (v))]) hx hb dX1_cut_5 hl (by decide) rfl (fun ls hl => ?_)
    refine lv_aload hx hb dX1_cut_7 (lv_at hl 0 rfl) ?_
    refine lv_ifnonnull (tgt := 14) hx hb dX1_cut_9 (by decide) ?_
    refine lv_lload_n hx hb dX1_cut_14 rfl (lv_at hl 3 rfl) ?_
    refine lv_aload_n hx hb dX1_cut_15 rfl (lv_at hl 1 rfl) ?_
    refine wd_get (C := RX1) (T := TX1) (n := 9) (ci := ciT) (v := .long (σ.2.2 0)) hx hb hts (by decide +kernel) hown hK hP (0) (by omega) cW_0 rfl 8 (by decide) (hts (.fieldLink RX1 63 "CarThreads" "nextMicro" "J") (by decide +kernel)) (fun _ h9 => h9) (by first | rfl | simp [cw_nd, cw_ob, mw_ob, ct_sg, ct_sl, tu]) dX1_cut_16 ?_
    refine W.lcmp hx hb dX1_cut_19 ?_
    refine lv_if_ge (tgt := 26) hx hb dX1_cut_20 (by decide) (fun c20 => ?_) (fun c20 => ?_)
    · refine lv_aload hx hb dX1_cut_26 (lv_at hl 0 rfl) ?_
      refine wd_get (C := RX0) (T := TX0) (n := 12) (ci := ciN) (v := .int (nI (1 - σ.1 4 i2))) hx hb hts (by decide +kernel) hown hK hP (3 + 2 * i2) (by omega) (cW_nd (by omega)) rfl 5 (by decide) (hts (.fieldLink RX1 36 "CarThreads$Node" "alive" "Z") (by decide +kernel)) (fun _ h9 => h9) (by first | rfl | simp [cw_nd, cw_ob, mw_ob, ct_sg, ct_sl, tu]) dX1_cut_28 ?_
      refine wi_if_ne (tgt := 37) hx hb (by omega) dX1_cut_31 (by decide) (fun c31 => ?_) (fun c31 => ?_)
      · refine lv_aload hx hb dX1_cut_37 (lv_at hl 0 rfl) ?_
        refine lv_lload_n hx hb dX1_cut_39 rfl (lv_at hl 3 rfl) ?_
        refine wd_put (C := RX0) (T := TX0) (n := 12) (ci := ciN) (v := .long (v)) (ty := .long) hx hb hts (by decide +kernel) tyX0 tyX0_ok nmX0 hown hK hP hI (fun k h => wA_in h) hS (3 + 2 * i2) (by omega) (cW_nd (by omega)) rfl 11 (by decide) (hts (.fieldLink RX1 67 "CarThreads$Node" "cutMicro" "J") (by decide +kernel)) (fun _ h9 => h9) rfl (by decide +kernel) rfl rfl (Nat.le_of_ble_eq_true rfl) dX1_cut_40 (fun H locs hP hS => ?_)
        have hP : va_P D wCl (wl ad (cW cN cI ad (ct_sl σ i2 v) τ tr) (5 + 2 * n)) H := up_nd hP (by omega) (by simp [cw_nd, ct_sg, ct_sl, tu]) (fun x hx _ => by simp [cw_nd, ct_sg, ct_sl, tu, hx]) (by simp [cw_ob, ct_sl]; omega) rfl rfl rfl rfl rfl
        refine lv_iconst (v := nI 1) hx hb dX1_cut_43 (by decide) ?_
        have hF : f_cut σ (nI i2) v = (1, (ct_sl σ i2 v)) := by unfold f_cut; rw [hn, hki_i2, if_neg hki0_i2, if_neg (Int64.not_lt.mpr ((lg_cmp_ge _ _).mp c20)), if_neg (by omega)]
        exact rt_i hQ hx hb hr hlocks () (by rw [hF]; exact hP) hS (by rw [hF] <;> rfl) dX1_cut_44
      · refine lv_bipush (v := (-3)) hx hb dX1_cut_34 (by decide) ?_
        have hF : f_cut σ (nI i2) v = ((-3), σ) := by unfold f_cut; rw [hn, hki_i2, if_neg hki0_i2, if_neg (Int64.not_lt.mpr ((lg_cmp_ge _ _).mp c20)), if_pos (by omega)]
        exact rt_i hQ hx hb hr hlocks () (by rw [hF]; exact hP) hS (by rw [hF] <;> rfl) dX1_cut_36
    · refine lv_bipush (v := (-2)) hx hb dX1_cut_23 (by decide) ?_
      have hF : f_cut σ (nI i2) v = ((-2), σ) := by unfold f_cut; rw [hn, hki_i2, if_neg hki0_i2, if_pos (Int64.not_le.mp (fun q => c20 ((lg_cmp_ge _ _).mpr q)))]
      exact rt_i hQ hx hb hr hlocks () (by rw [hF]; exact hP) hS (by rw [hF] <;> rfl) dX1_cut_25
abbrev rm_c_interrupt : Room := { frames := 2, cells := 0, slots := 0, locals := 42 }
set_option maxHeartbeats 4000000 in
set_option maxRecDepth 100000 in
theorem c_interrupt (l : Launch) {D : va_G} {cN cI : ClassId} {ad : Nat → Nat} {σ : St} {τ : Nat → Nat → Nat} {tr : Nat → Int32} {n : Nat} (hI : adI ad (5 + 2 * n)) (hv : ct_Inv σ) (hn : σ.1 0 0 = n) (x : Int32) : Met l yX1_interrupt wsX1_interrupt rm_c_interrupt (va_Pc [.ref (ad 0), .int (x)] (pC D wCl (tyC cN cI) ad (cW cN cI ad σ τ tr) (5 + 2 * n))) (qI (S := Unit) D wCl ad (5 + 2 * n) (fun r _ => r = (f_int σ x).1) (fun _ => cW cN cI ad (f_int σ x).2 τ tr)) 0 0 (wA ad (5 + 2 * n)) := by
  refine Met.go (cc := cX1_interrupt) (maxL := 3) (ret := (some .boolean)) (by decide) rfl (Nat.le_of_ble_eq_true rfl) ?_
  intro p e s m below meth c ls args Q ⟨hx, hb, hml, hown, hts⟩ hr hlocks hnm ⟨hP, hK⟩ hl hQ
  have hl : lv_has ls 3 [(0, .ref (ad 0)), (1, .int (x))] := hl
  have hS : va_S (wA ad (5 + 2 * n)) s.heap s.heap [] := va_S.rf
  have hn30 : n ≤ 30 := by have := hv.1.1; omega
  refine lv_aload_n hx hb dX1_interrupt_0 rfl (lv_at hl 0 rfl) ?_
  refine lv_iload_n hx hb dX1_interrupt_1 rfl (lv_at hl 1 rfl) ?_
  refine va_csq (W.runV (As := [.int (x)]) (rest := []) ⟨hx, hb, hml, hown, hts⟩ (c_nodeOrNull l hI hv hn x) (cwV 1 hts gX1_interrupt_X1_nodeOrNull rfl rfl rfl (by decide +kernel) ⟨Nat.le_of_ble_eq_true rfl, Nat.le_of_ble_eq_true rfl⟩) (wd_pre (q := (RX1, TX1, 9)) (ci := ciT) hK hP (by omega) rfl cW_0) rfl rfl hl.1 rfl (lv_room (Nat.le_of_ble_eq_true rfl)) dX1_interrupt_2 ⟨Nat.zero_le _, Nat.zero_le _⟩) (fun o1 eo1 => ?_)
  by_cases hk_i2 : ct_kn n x = 0
  · have hki_i2 : ct_kn n x = 0 := hk_i2
    rw [hki_i2] at eo1
    obtain rfl : o1 = none := eo1
    refine lv_astore_nN (lv' := [(2, .null), (0, .ref (ad 0)), (1, .int (x))]) hx hb dX1_interrupt_5 rfl hl (by decide) rfl (fun ls hl => ?_)
    refine lv_aload_nN hx hb dX1_interrupt_6 rfl (lv_at hl 0 rfl) ?_
    refine lv_ifnullN (tgt := 17) hx hb dX1_interrupt_7 (by decide) ?_
    refine lv_iconst (v := nI 0) hx hb dX1_interrupt_17 (by decide) ?_
    have hF : f_int σ x = (0, σ) := by unfold f_int; rw [hn, hki_i2, if_pos (Or.inl rfl)]
    exact rt_z hQ hx hb hr hlocks () (by rw [hF]; exact hP) hS rfl (by rw [hF] <;> rfl) dX1_interrupt_18
  · obtain ⟨i2, hi1_i2, hi2_i2, rfl⟩ : ∃ z, 1 ≤ z ∧ z ≤ n ∧ x = nI z := ⟨_, ct_kn_some (by omega) hk_i2⟩
    have hki_i2 : ct_kn n (nI i2) = i2 := ct_kn_nI (by omega) hi1_i2 hi2_i2
    have hki0_i2 : i2 ≠ 0 := by omega
    obtain ⟨_, _, _, _, _, _, _, _, _⟩ := hv.2.1 i2 hi1_i2 (by omega)
    rw [hki_i2] at eo1
    obtain rfl : o1 = some (ad (3 + 2 * i2)) := by rw [eo1]; exact if_neg hki0_i2
    refine lv_astore_n (lv' := [(2, .ref (ad (3 + 2 * i2))), (0, .ref (ad 0)), (1, .int (nI (i2)))]) hx hb dX1_interrupt_5 rfl hl (by decide) rfl (fun ls hl => ?_)
    refine lv_aload_n hx hb dX1_interrupt_6 rfl (lv_at hl 0 rfl) ?_
    refine lv_ifnull hx hb dX1_interrupt_7 ?_
    refine lv_aload_n hx hb dX1_interrupt_10 rfl (lv_at hl 0 rfl) ?_
    refine wd_get (C := RX0) (T := TX0) (n := 12) (ci := ciN) (v := .int (nI (1 - σ.1 4 i2))) hx hb hts (by decide +kernel) hown hK hP (3 + 2 * i2) (by omega) (cW_nd (by omega)) rfl 5 (by decide) (hts (.fieldLink RX1 36 "CarThreads$Node" "alive" "Z") (by decide +kernel)) (fun _ h9 => h9) (by first | rfl | simp [cw_nd, cw_ob, mw_ob, ct_sg, ct_sl, tu]) dX1_interrupt_11 ?_
    refine wi_if_ne (tgt := 19) hx hb (by omega) dX1_interrupt_14 (by decide) (fun c14 => ?_) (fun c14 => ?_)
    · refine lv_aload_n hx hb dX1_interrupt_19 rfl (lv_at hl 0 rfl) ?_
      refine lv_iconst (v := nI 1) hx hb dX1_interrupt_20 (by decide) ?_
      refine wd_put (C := RX0) (T := TX0) (n := 12) (ci := ciN) (v := .int (nI (1))) (ty := .boolean) hx hb hts (by decide +kernel) tyX0 tyX0_ok nmX0 hown hK hP hI (fun k h => wA_in h) hS (3 + 2 * i2) (by omega) (cW_nd (by omega)) rfl 8 (by decide) (hts (.fieldLink RX1 70 "CarThreads$Node" "interrupted" "Z") (by decide +kernel)) (fun _ h9 => h9) rfl (by decide +kernel) (wi_nar (by omega)) (wi_fit (by omega)) (Nat.le_of_ble_eq_true rfl) dX1_interrupt_21 (fun H locs hP hS => ?_)
      have hP : va_P D wCl (wl ad (cW cN cI ad (ct_sg σ 6 i2 1) τ tr) (5 + 2 * n)) H := up_nd hP (by omega) (by simp [cw_nd, ct_sg, ct_sl, tu]) (fun x hx _ => by simp [cw_nd, ct_sg, ct_sl, tu, hx]) (by rfl) rfl rfl rfl rfl rfl
      refine lv_iconst (v := nI 1) hx hb dX1_interrupt_24 (by decide) ?_
      have hF : f_int σ (nI i2) = (1, (ct_sg σ 6 i2 1)) := by unfold f_int; rw [hn, hki_i2, if_neg (by omega)]
      exact rt_z hQ hx hb hr hlocks () (by rw [hF]; exact hP) hS rfl (by rw [hF] <;> rfl) dX1_interrupt_25
    · refine lv_iconst (v := nI 0) hx hb dX1_interrupt_17 (by decide) ?_
      have hF : f_int σ (nI i2) = (0, σ) := by unfold f_int; rw [hn, hki_i2, if_pos (by omega)]
      exact rt_z hQ hx hb hr hlocks () (by rw [hF]; exact hP) hS rfl (by rw [hF] <;> rfl) dX1_interrupt_18
end P45
