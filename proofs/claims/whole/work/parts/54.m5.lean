section P54
abbrev rm_m_barrier : Room := { frames := 0, cells := 0, slots := 0, locals := 0 }
set_option maxHeartbeats 4000000 in
set_option maxRecDepth 100000 in
theorem m_barrier (l : Launch) {D : va_G} {cI cZ cJ : ClassId} {ad : Nat → Nat} {σ : St} {ρ : Nat → Nat} {cd : Int32} {n : Nat} (hI : adI ad 13) (hv : ct_Inv σ) (hn : σ.1 0 0 = n) (x : Int32) : Met l yY2_barrier wsY2_barrier rm_m_barrier (va_Pc [.ref (ad 0), .int (x)] (pC D wCl (tyM cI cZ cJ) ad (mW cI cZ cJ ad σ ρ cd) 13)) (qI (S := Unit) D wCl ad 13 (fun r _ => r = (f_bar σ x).1) (fun _ => mW cI cZ cJ ad (f_bar σ x).2 ρ (nI 0))) 0 0 (wA ad 13) := by
  refine Met.go (cc := cY2_barrier) (maxL := 3) (ret := (some .int)) (by decide) rfl (Nat.le_of_ble_eq_true rfl) ?_
  intro p e s m below meth c ls args Q ⟨hx, hb, hml, hown, hts⟩ hr hlocks hnm ⟨hP, hK⟩ hl hQ
  have hl : lv_has ls 3 [(0, .ref (ad 0)), (1, .int (x))] := hl
  have hS : va_S (wA ad 13) s.heap s.heap [] := va_S.rf
  have hn30 : n ≤ 30 := by have := hv.1.1; omega
  have hbr := hv.1.2.1
  refine lv_aload_n hx hb dY2_barrier_0 rfl (lv_at hl 0 rfl) ?_
  refine lv_iconst (v := nI 0) hx hb dY2_barrier_1 (by decide) ?_
  refine wd_put (C := RX2) (T := TY2) (n := 17) (ci := ciM) (v := .int (nI (0))) (ty := .int) hx hb hts (by decide +kernel) tyY2 tyY2_ok nmY2 hown hK hP hI (fun k h => wA_in h) hS (0) (by omega) mW_0 rfl 0 (by decide) (hts (.fieldLink RX2 48 "CarThreadsModel" "code" "I") (by decide +kernel)) (fun _ h9 => h9) rfl (by decide +kernel) rfl rfl (Nat.le_of_ble_eq_true rfl) dY2_barrier_2 (fun H locs hP hS => ?_)
  have hP : va_P D wCl (wl ad (mW cI cZ cJ ad σ ρ (nI 0)) 13) H := um_ob hP (by simp [mw_ob, ct_sg, ct_sl]) (fun a ha => by funext x; simp [ct_sg, ct_sl, ha]) rfl (fun i hi => by simp [ct_sg, ct_sl, hi])
  refine lv_iload_n hx hb dY2_barrier_5 rfl (lv_at hl 1 rfl) ?_
  refine lv_if_lt (tgt := 16) hx hb dY2_barrier_6 (by decide) (fun c6 => ?_) (fun c6 => ?_)
  · refine lv_bipush (v := (-2)) hx hb dY2_barrier_16 (by decide) ?_
    have hF : f_bar σ x = ((-2), σ) := by unfold f_bar; rw [if_pos (Or.inl c6)]
    exact rt_i hQ hx hb hr hlocks () (by rw [hF]; exact hP) hS (by rw [hF] <;> rfl) dY2_barrier_18
  · refine lv_iload_n hx hb dY2_barrier_9 rfl (lv_at hl 1 rfl) ?_
    refine lv_sipush (v := nI 200) hx hb dY2_barrier_10 (by decide) ?_
    refine lv_icmp_le (tgt := 19) hx hb dY2_barrier_13 (by decide) (fun c13 => ?_) (fun c13 => ?_)
    · obtain ⟨j, rfl, hj1, hj2, hj3⟩ := ct_nat (x := x) (lo := 0) (hi := 200) (by omega) (by omega) c6 (Int32.not_lt.mpr c13)
      refine lv_aload_n hx hb dY2_barrier_19 rfl (lv_at hl 0 rfl) ?_
      refine wd_get (C := RX2) (T := TY2) (n := 17) (ci := ciM) (v := .int (nI (σ.1 0 1))) hx hb hts (by decide +kernel) hown hK hP (0) (by omega) mW_0 rfl 13 (by decide) (hts (.fieldLink RX2 61 "CarThreadsModel" "barrier" "I") (by decide +kernel)) (fun _ h9 => h9) (by first | rfl | simp [cw_nd, cw_ob, mw_ob, ct_sg, ct_sl, tu]) dY2_barrier_20 ?_
      refine lv_istore_n (lv' := [(2, .int (nI (σ.1 0 1))), (0, .ref (ad 0)), (1, .int (nI (j)))]) hx hb dY2_barrier_23 rfl hl (by decide) rfl (fun ls hl => ?_)
      refine lv_aload_n hx hb dY2_barrier_24 rfl (lv_at hl 1 rfl) ?_
      refine lv_iload_n hx hb dY2_barrier_25 rfl (lv_at hl 2 rfl) ?_
      refine wd_put (C := RX2) (T := TY2) (n := 17) (ci := ciM) (v := .int (nI (j))) (ty := .int) hx hb hts (by decide +kernel) tyY2 tyY2_ok nmY2 hown hK hP hI (fun k h => wA_in h) hS (0) (by omega) mW_0 rfl 13 (by decide) (hts (.fieldLink RX2 61 "CarThreadsModel" "barrier" "I") (by decide +kernel)) (fun _ h9 => h9) rfl (by decide +kernel) rfl rfl (Nat.le_of_ble_eq_true rfl) dY2_barrier_26 (fun H locs hP hS => ?_)
      have hP : va_P D wCl (wl ad (mW cI cZ cJ ad (ct_sg σ 0 1 j) ρ (nI 0)) 13) H := um_ob hP (by simp [mw_ob, ct_sg, ct_sl]) (fun a ha => by funext x; simp [ct_sg, ct_sl, ha]) rfl (fun i hi => by simp [ct_sg, ct_sl, hi])
      refine lv_iload_n hx hb dY2_barrier_29 rfl (lv_at hl 0 rfl) ?_
      have hF : f_bar σ (nI j) = (nI (σ.1 0 1), ct_sg σ 0 1 j) := by unfold f_bar; rw [if_neg (fun q => q.elim c6 (fun z => (Int32.not_lt.mpr c13) z)), hj3]
      exact rt_i hQ hx hb hr hlocks () (by rw [hF]; exact hP) hS (by rw [hF] <;> rfl) dY2_barrier_30
    · refine lv_bipush (v := (-2)) hx hb dY2_barrier_16 (by decide) ?_
      have hF : f_bar σ x = ((-2), σ) := by unfold f_bar; rw [if_pos (Or.inr (show (200 : Int32) < x from Int32.not_le.mp c13))]
      exact rt_i hQ hx hb hr hlocks () (by rw [hF]; exact hP) hS (by rw [hF] <;> rfl) dY2_barrier_18
abbrev rm_m_held : Room := { frames := 1, cells := 0, slots := 0, locals := 23 }
set_option maxHeartbeats 4000000 in
set_option maxRecDepth 100000 in
theorem m_held (l : Launch) {D : va_G} {cI cZ cJ : ClassId} {ad : Nat → Nat} {σ : St} {ρ : Nat → Nat} {cd : Int32} {n : Nat} (hI : adI ad 13) (hv : ct_Inv σ) (hn : σ.1 0 0 = n) (x t : Int32) : Met l yY2_held wsY2_held rm_m_held (va_Pc [.ref (ad 0), .int (x), .int (t)] (pC D wCl (tyM cI cZ cJ) ad (mW cI cZ cJ ad σ ρ cd) 13)) (qI (S := Unit) D wCl ad 13 (fun r _ => r = (f_held σ x t).1) (fun _ => mW cI cZ cJ ad (f_held σ x t).2 ρ (nI 0))) 0 0 (wA ad 13) := by
  refine Met.go (cc := cY2_held) (maxL := 3) (ret := (some .int)) (by decide) rfl (Nat.le_of_ble_eq_true rfl) ?_
  intro p e s m below meth c ls args Q ⟨hx, hb, hml, hown, hts⟩ hr hlocks hnm ⟨hP, hK⟩ hl hQ
  have hl : lv_has ls 3 [(0, .ref (ad 0)), (1, .int (x)), (2, .int (t))] := hl
  have hS : va_S (wA ad 13) s.heap s.heap [] := va_S.rf
  have hn30 : n ≤ 30 := by have := hv.1.1; omega
  refine lv_aload_n hx hb dY2_held_0 rfl (lv_at hl 0 rfl) ?_
  refine lv_iload_n hx hb dY2_held_1 rfl (lv_at hl 1 rfl) ?_
  refine wd_calli (va_runV (As := [.int (x)]) (rest := []) ⟨hx, hb, hml, hown, hts⟩ (m_none l hI hv hn x) (cwV 1 hts gY2_held_Y2_none rfl rfl rfl (by decide +kernel) ⟨Nat.le_of_ble_eq_true rfl, Nat.le_of_ble_eq_true rfl⟩) (wd_pre (q := (RX2, TY2, 17)) (ci := ciM) hK hP (by omega) rfl mW_0) rfl rfl hl.1 rfl (lv_room (Nat.le_of_ble_eq_true rfl)) dY2_held_2 ⟨Nat.zero_le _, Nat.zero_le _⟩) hS (fun k h => wA_in h) (fun r1 ur1 H locs er1 hP hz hk hS => ?_)
  by_cases hk_i2 : ct_kn n x = 0
  · have hki_i2 : ct_kn n x = 0 := hk_i2
    rw [if_pos hki_i2] at er1
    subst er1
    refine wi_if_eq (tgt := 10) hx hb (by omega) dY2_held_5 (by decide) (fun z => absurd z (by decide)) (fun z => ?_)
    refine lv_iconst (v := (-1)) hx hb dY2_held_8 (by decide) ?_
    have hF : f_held σ x t = ((-1), σ) := by unfold f_held; rw [hn, hki_i2, if_pos rfl]
    exact rt_i hQ hx hb hr hlocks () (by rw [hF]; exact hP) hS (by rw [hF] <;> rfl) dY2_held_9
  · obtain ⟨i2, hi1_i2, hi2_i2, rfl⟩ : ∃ z, 1 ≤ z ∧ z ≤ n ∧ x = nI z := ⟨_, ct_kn_some (by omega) hk_i2⟩
    have hki_i2 : ct_kn n (nI i2) = i2 := ct_kn_nI (by omega) hi1_i2 hi2_i2
    have hki0_i2 : i2 ≠ 0 := by omega
    obtain ⟨_, _, _, _, _, _, _, _, _⟩ := hv.2.1 i2 hi1_i2 (by omega)
    rw [hki_i2, if_neg hki0_i2] at er1
    subst er1
    refine wi_if_eq (tgt := 10) hx hb (by omega) dY2_held_5 (by decide) (fun z => ?_) (fun z => absurd z (by decide))
    refine lv_iload_n hx hb dY2_held_10 rfl (lv_at hl 2 rfl) ?_
    refine lv_if_lt (tgt := 20) hx hb dY2_held_11 (by decide) (fun c11 => ?_) (fun c11 => ?_)
    · refine lv_bipush (v := (-2)) hx hb dY2_held_20 (by decide) ?_
      have hF : f_held σ (nI i2) t = ((-2), σ) := by unfold f_held; rw [hn, hki_i2, if_neg hki0_i2, if_pos (Or.inl c11)]
      exact rt_i hQ hx hb hr hlocks () (by rw [hF]; exact hP) hS (by rw [hF] <;> rfl) dY2_held_22
    · refine lv_iload_n hx hb dY2_held_14 rfl (lv_at hl 2 rfl) ?_
      refine lv_bipush (v := nI 16) hx hb dY2_held_15 (by decide) ?_
      refine lv_icmp_le (tgt := 23) hx hb dY2_held_17 (by decide) (fun c17 => ?_) (fun c17 => ?_)
      · obtain ⟨j, rfl, hj1, hj2, hj3⟩ := ct_nat (x := t) (lo := 0) (hi := 16) (by omega) (by omega) c11 (Int32.not_lt.mpr c17)
        have hd9 := hv.2.2.2.1 j
        refine lv_iload_n hx hb dY2_held_23 rfl (lv_at hl 2 rfl) ?_
        refine wi_if_le (tgt := 48) hx hb (by omega) dY2_held_24 (by decide) (fun c24 => ?_) (fun c24 => ?_)
        · refine lv_iload_n hx hb dY2_held_48 rfl (lv_at hl 2 rfl) ?_
          refine wi_if_le (tgt := 59) hx hb (by omega) dY2_held_49 (by decide) (fun c49 => ?_) (fun c49 => ?_)
          · refine lv_aload_n hx hb dY2_held_59 rfl (lv_at hl 0 rfl) ?_
            refine lv_iload_n hx hb dY2_held_60 rfl (lv_at hl 1 rfl) ?_
            refine vp_callSi (W.runV (As := [.int (nI (i2))]) (rest := []) ⟨hx, hb, hml, hown, hts⟩ (m_holds l hI hv hn (i := i2) (by omega) (by omega)) (cwV 1 hts gY2_held_Y2_holds rfl rfl rfl (by decide +kernel) ⟨Nat.le_of_ble_eq_true rfl, Nat.le_of_ble_eq_true rfl⟩) (wd_pre (q := (RX2, TY2, 17)) (ci := ciM) hK hP (by omega) rfl mW_0) rfl rfl hl.1 rfl (lv_room (Nat.le_of_ble_eq_true rfl)) dY2_held_61 ⟨Nat.zero_le _, Nat.zero_le _⟩) (fun r3 er3 => ?_)
            subst er3
            first
              | exact absurd (show 0 < j by omega) (by omega)
              | have hF : f_held σ (nI i2) (nI j) = (nI (ct_cnt σ i2 16), σ) := by unfold f_held; rw [hn, hki_i2, if_neg hki0_i2, if_neg (fun q => q.elim c11 (fun z => (Int32.not_lt.mpr c17) z)), if_pos (by rw [show j = 0 by omega]; rfl)]
                exact rt_i hQ hx hb hr hlocks () (by rw [hF]; exact hP) hS (by rw [hF] <;> rfl) dY2_held_64
          · refine lv_aload_n hx hb dY2_held_52 rfl (lv_at hl 0 rfl) ?_
            refine wd_get (C := RX2) (T := TY2) (n := 17) (ci := ciM) (v := .ref (ad 11)) hx hb hts (by decide +kernel) hown hK hP (0) (by omega) mW_0 rfl 12 (by decide) (hts (.fieldLink RX2 42 "CarThreadsModel" "holder" "[I") (by decide +kernel)) (fun _ h9 => h9) (by first | rfl | simp [cw_nd, cw_ob, mw_ob, ct_sg, ct_sl, tu]) dY2_held_53 ?_
            refine lv_iload_n hx hb dY2_held_56 rfl (lv_at hl 2 rfl) ?_
            refine lv_iload_n hx hb dY2_held_57 rfl (lv_at hl 1 rfl) ?_
            refine wd_iast hx hb hK hP hI (fun k h => wA_in h) hS (11) 0 (by omega) mW_11 rfl (j) (by omega) (by omega) rfl dY2_held_58 (fun H locs hP hS => ?_)
            have hP : va_P D wCl (wl ad (mW cI cZ cJ ad (ct_sg σ 9 j i2) ρ (nI 0)) 13) H := um_11 hP
            refine lv_aload_n hx hb dY2_held_59 rfl (lv_at hl 0 rfl) ?_
            refine lv_iload_n hx hb dY2_held_60 rfl (lv_at hl 1 rfl) ?_
            refine vp_callSi (W.runV (As := [.int (nI (i2))]) (rest := []) ⟨hx, hb, hml, hown, hts⟩ (m_holds l (σ := (ct_sg σ 9 j i2)) hI (ct_Inv_sg9 hv (by omega) (by omega) (by omega)) hn (i := i2) (by omega) (by omega)) (cwV 1 hts gY2_held_Y2_holds rfl rfl rfl (by decide +kernel) ⟨Nat.le_of_ble_eq_true rfl, Nat.le_of_ble_eq_true rfl⟩) (wd_pre (q := (RX2, TY2, 17)) (ci := ciM) hK hP (by omega) rfl mW_0) rfl rfl hl.1 rfl (lv_room (Nat.le_of_ble_eq_true rfl)) dY2_held_61 ⟨Nat.zero_le _, Nat.zero_le _⟩) (fun r4 er4 => ?_)
            subst er4
            have hF : f_held σ (nI i2) (nI j) = (nI (ct_cnt (ct_sg σ 9 j i2) i2 16), (ct_sg σ 9 j i2)) := by unfold f_held; rw [hn, hki_i2, if_neg hki0_i2, if_neg (fun q => q.elim c11 (fun z => (Int32.not_lt.mpr c17) z)), if_neg (show ¬ nI j = (0 : Int32) from fun q => absurd ((nI_eq (by omega) (by omega)).mp (show nI j = nI 0 from q)) (by omega)), hj3, if_neg (by omega)]
            exact rt_i hQ hx hb hr hlocks () (by rw [hF]; exact hP) hS (by rw [hF] <;> rfl) dY2_held_64
        · refine lv_aload_n hx hb dY2_held_27 rfl (lv_at hl 0 rfl) ?_
          refine wd_get (C := RX2) (T := TY2) (n := 17) (ci := ciM) (v := .ref (ad 4)) hx hb hts (by decide +kernel) hown hK hP (0) (by omega) mW_0 rfl 5 (by decide) (hts (.fieldLink RX2 19 "CarThreadsModel" "ended" "[Z") (by decide +kernel)) (fun _ h9 => h9) (by first | rfl | simp [cw_nd, cw_ob, mw_ob, ct_sg, ct_sl, tu]) dY2_held_28 ?_
          refine lv_iload_n hx hb dY2_held_31 rfl (lv_at hl 1 rfl) ?_
          refine wd_zald hx hb hK hP (4) 1 (by omega) mW_4 rfl (i2) (by omega) (by omega) rfl dY2_held_32 ?_
          refine wi_if_ne (tgt := 45) hx hb (by omega) dY2_held_33 (by decide) (fun c33 => ?_) (fun c33 => ?_)
          · refine lv_bipush (v := (-3)) hx hb dY2_held_45 (by decide) ?_
            have hF : f_held σ (nI i2) (nI j) = ((-3), σ) := by unfold f_held; rw [hn, hki_i2, if_neg hki0_i2, if_neg (fun q => q.elim c11 (fun z => (Int32.not_lt.mpr c17) z)), if_neg (show ¬ nI j = (0 : Int32) from fun q => absurd ((nI_eq (by omega) (by omega)).mp (show nI j = nI 0 from q)) (by omega)), hj3, if_pos (by omega)]
            exact rt_i hQ hx hb hr hlocks () (by rw [hF]; exact hP) hS (by rw [hF] <;> rfl) dY2_held_47
          · refine lv_aload_n hx hb dY2_held_36 rfl (lv_at hl 0 rfl) ?_
            refine wd_get (C := RX2) (T := TY2) (n := 17) (ci := ciM) (v := .ref (ad 11)) hx hb hts (by decide +kernel) hown hK hP (0) (by omega) mW_0 rfl 12 (by decide) (hts (.fieldLink RX2 42 "CarThreadsModel" "holder" "[I") (by decide +kernel)) (fun _ h9 => h9) (by first | rfl | simp [cw_nd, cw_ob, mw_ob, ct_sg, ct_sl, tu]) dY2_held_37 ?_
            refine lv_iload_n hx hb dY2_held_40 rfl (lv_at hl 2 rfl) ?_
            refine wd_iald hx hb hK hP (11) 0 (by omega) mW_11 rfl (j) (by omega) (by omega) rfl dY2_held_41 ?_
            refine wi_if_le (tgt := 48) hx hb (by omega) dY2_held_42 (by decide) (fun c42 => ?_) (fun c42 => ?_)
            · refine lv_iload_n hx hb dY2_held_48 rfl (lv_at hl 2 rfl) ?_
              refine wi_if_le (tgt := 59) hx hb (by omega) dY2_held_49 (by decide) (fun c49 => ?_) (fun c49 => ?_)
              · refine lv_aload_n hx hb dY2_held_59 rfl (lv_at hl 0 rfl) ?_
                refine lv_iload_n hx hb dY2_held_60 rfl (lv_at hl 1 rfl) ?_
                refine vp_callSi (W.runV (As := [.int (nI (i2))]) (rest := []) ⟨hx, hb, hml, hown, hts⟩ (m_holds l hI hv hn (i := i2) (by omega) (by omega)) (cwV 1 hts gY2_held_Y2_holds rfl rfl rfl (by decide +kernel) ⟨Nat.le_of_ble_eq_true rfl, Nat.le_of_ble_eq_true rfl⟩) (wd_pre (q := (RX2, TY2, 17)) (ci := ciM) hK hP (by omega) rfl mW_0) rfl rfl hl.1 rfl (lv_room (Nat.le_of_ble_eq_true rfl)) dY2_held_61 ⟨Nat.zero_le _, Nat.zero_le _⟩) (fun r5 er5 => ?_)
                subst er5
                first
                  | exact absurd (show 0 < j by omega) (by omega)
                  | have hF : f_held σ (nI i2) (nI j) = (nI (ct_cnt σ i2 16), σ) := by unfold f_held; rw [hn, hki_i2, if_neg hki0_i2, if_neg (fun q => q.elim c11 (fun z => (Int32.not_lt.mpr c17) z)), if_pos (by rw [show j = 0 by omega]; rfl)]
                    exact rt_i hQ hx hb hr hlocks () (by rw [hF]; exact hP) hS (by rw [hF] <;> rfl) dY2_held_64
              · refine lv_aload_n hx hb dY2_held_52 rfl (lv_at hl 0 rfl) ?_
                refine wd_get (C := RX2) (T := TY2) (n := 17) (ci := ciM) (v := .ref (ad 11)) hx hb hts (by decide +kernel) hown hK hP (0) (by omega) mW_0 rfl 12 (by decide) (hts (.fieldLink RX2 42 "CarThreadsModel" "holder" "[I") (by decide +kernel)) (fun _ h9 => h9) (by first | rfl | simp [cw_nd, cw_ob, mw_ob, ct_sg, ct_sl, tu]) dY2_held_53 ?_
                refine lv_iload_n hx hb dY2_held_56 rfl (lv_at hl 2 rfl) ?_
                refine lv_iload_n hx hb dY2_held_57 rfl (lv_at hl 1 rfl) ?_
                refine wd_iast hx hb hK hP hI (fun k h => wA_in h) hS (11) 0 (by omega) mW_11 rfl (j) (by omega) (by omega) rfl dY2_held_58 (fun H locs hP hS => ?_)
                have hP : va_P D wCl (wl ad (mW cI cZ cJ ad (ct_sg σ 9 j i2) ρ (nI 0)) 13) H := um_11 hP
                refine lv_aload_n hx hb dY2_held_59 rfl (lv_at hl 0 rfl) ?_
                refine lv_iload_n hx hb dY2_held_60 rfl (lv_at hl 1 rfl) ?_
                refine vp_callSi (W.runV (As := [.int (nI (i2))]) (rest := []) ⟨hx, hb, hml, hown, hts⟩ (m_holds l (σ := (ct_sg σ 9 j i2)) hI (ct_Inv_sg9 hv (by omega) (by omega) (by omega)) hn (i := i2) (by omega) (by omega)) (cwV 1 hts gY2_held_Y2_holds rfl rfl rfl (by decide +kernel) ⟨Nat.le_of_ble_eq_true rfl, Nat.le_of_ble_eq_true rfl⟩) (wd_pre (q := (RX2, TY2, 17)) (ci := ciM) hK hP (by omega) rfl mW_0) rfl rfl hl.1 rfl (lv_room (Nat.le_of_ble_eq_true rfl)) dY2_held_61 ⟨Nat.zero_le _, Nat.zero_le _⟩) (fun r6 er6 => ?_)
                subst er6
                have hF : f_held σ (nI i2) (nI j) = (nI (ct_cnt (ct_sg σ 9 j i2) i2 16), (ct_sg σ 9 j i2)) := by unfold f_held; rw [hn, hki_i2, if_neg hki0_i2, if_neg (fun q => q.elim c11 (fun z => (Int32.not_lt.mpr c17) z)), if_neg (show ¬ nI j = (0 : Int32) from fun q => absurd ((nI_eq (by omega) (by omega)).mp (show nI j = nI 0 from q)) (by omega)), hj3, if_neg (by omega)]
                exact rt_i hQ hx hb hr hlocks () (by rw [hF]; exact hP) hS (by rw [hF] <;> rfl) dY2_held_64
            · refine lv_bipush (v := (-3)) hx hb dY2_held_45 (by decide) ?_
              have hF : f_held σ (nI i2) (nI j) = ((-3), σ) := by unfold f_held; rw [hn, hki_i2, if_neg hki0_i2, if_neg (fun q => q.elim c11 (fun z => (Int32.not_lt.mpr c17) z)), if_neg (show ¬ nI j = (0 : Int32) from fun q => absurd ((nI_eq (by omega) (by omega)).mp (show nI j = nI 0 from q)) (by omega)), hj3, if_pos (by omega)]
              exact rt_i hQ hx hb hr hlocks () (by rw [hF]; exact hP) hS (by rw [hF] <;> rfl) dY2_held_47
      · refine lv_bipush (v := (-2)) hx hb dY2_held_20 (by decide) ?_
        have hF : f_held σ (nI i2) t = ((-2), σ) := by unfold f_held; rw [hn, hki_i2, if_neg hki0_i2, if_pos (Or.inr (show (16 : Int32) < t from Int32.not_le.mp c17))]
        exact rt_i hQ hx hb hr hlocks () (by rw [hF]; exact hP) hS (by rw [hF] <;> rfl) dY2_held_22
abbrev rm_m_close : Room := { frames := 1, cells := 0, slots := 0, locals := 22 }
set_option maxHeartbeats 4000000 in
set_option maxRecDepth 100000 in
theorem m_close (l : Launch) {D : va_G} {cI cZ cJ : ClassId} {ad : Nat → Nat} {σ : St} {ρ : Nat → Nat} {cd : Int32} {n : Nat} (hI : adI ad 13) (hv : ct_Inv σ) (hn : σ.1 0 0 = n)  : Met l yY2_close wsY2_close rm_m_close (va_Pc [.ref (ad 0)] (pC D wCl (tyM cI cZ cJ) ad (mW cI cZ cJ ad σ ρ cd) 13)) (qI (S := Unit) D wCl ad 13 (fun r _ => r = nI (ct_close σ n).1) (fun _ => mW cI cZ cJ ad (ct_close σ n).2 ρ (nI 0))) 0 0 (wA ad 13) := by
  refine Met.go (cc := cY2_close) (maxL := 3) (ret := (some .int)) (by decide) rfl (Nat.le_of_ble_eq_true rfl) ?_
  intro p e s m below meth c ls args Q ⟨hx, hb, hml, hown, hts⟩ hr hlocks hnm ⟨hP, hK⟩ hl hQ
  have hl : lv_has ls 3 [(0, .ref (ad 0))] := hl
  have hS : va_S (wA ad 13) s.heap s.heap [] := va_S.rf
  have hn30 : n ≤ 30 := by have := hv.1.1; omega
  refine lv_aload_n hx hb dY2_close_0 rfl (lv_at hl 0 rfl) ?_
  refine lv_iconst (v := nI 0) hx hb dY2_close_1 (by decide) ?_
  refine wd_put (C := RX2) (T := TY2) (n := 17) (ci := ciM) (v := .int (nI (0))) (ty := .int) hx hb hts (by decide +kernel) tyY2 tyY2_ok nmY2 hown hK hP hI (fun k h => wA_in h) hS (0) (by omega) mW_0 rfl 0 (by decide) (hts (.fieldLink RX2 48 "CarThreadsModel" "code" "I") (by decide +kernel)) (fun _ h9 => h9) rfl (by decide +kernel) rfl rfl (Nat.le_of_ble_eq_true rfl) dY2_close_2 (fun H locs hP hS => ?_)
  have hP : va_P D wCl (wl ad (mW cI cZ cJ ad σ ρ (nI 0)) 13) H := um_ob hP (by simp [mw_ob, ct_sg, ct_sl]) (fun a ha => by funext x; simp [ct_sg, ct_sl, ha]) rfl (fun i hi => by simp [ct_sg, ct_sl, hi])
  refine lv_iconst (v := nI 0) hx hb dY2_close_5 (by decide) ?_
  refine lv_istore_n (lv' := [(1, .int (nI (0))), (0, .ref (ad 0))]) hx hb dY2_close_6 rfl hl (by decide) rfl (fun ls hl => ?_)
  refine lv_iconst (v := nI 1) hx hb dY2_close_7 (by decide) ?_
  refine lv_istore_n (lv' := [(2, .int (nI (1))), (1, .int (nI (0))), (0, .ref (ad 0))]) hx hb dY2_close_8 rfl hl (by decide) rfl (fun ls hl => ?_)
  have loop9 : ∀ (f u : Nat) (H : Heap) (locs : List Loc) (ls : Array Slot), n - u = f → u ≤ n → va_P D wCl (wl ad (mW cI cZ cJ ad ((ct_close σ u).2) ρ (nI 0)) 13) H → va_S (wA ad 13) s.heap H locs → lv_has ls 3 [(2, .int (nI (u + 1))), (1, .int (nI ((ct_close σ u).1))), (0, .ref (ad 0))] → W p l e rm_m_close s m args below meth c H locs 0 0 Q (F0 m 9 ls []) := by
    intro f
    induction f with
    | zero =>
      intro u H locs ls hf hj hP hS hl
      have huN : u = n := by omega
      rw [huN] at hP
      have hnX : (ct_close σ n).2.1 0 0 = n := by rw [ct_close_n]; exact hn
      refine lv_iload_n hx hb dY2_close_9 rfl (lv_at hl 0 rfl) ?_
      refine lv_aload_n hx hb dY2_close_10 rfl (lv_at hl 2 rfl) ?_
      refine wd_get (C := RX2) (T := TY2) (n := 17) (ci := ciM) (v := .int (nI ((ct_close σ n).2.1 0 0))) hx hb hts (by decide +kernel) hown hK hP (0) (by omega) mW_0 rfl 1 (by decide) (hts (.fieldLink RX2 52 "CarThreadsModel" "nodes" "I") (by decide +kernel)) (fun _ h9 => h9) (by first | rfl | simp [cw_nd, cw_ob, mw_ob, ct_sg, ct_sl, tu]) dY2_close_11 ?_
      refine wi_icmp_gt (tgt := 43) hx hb (by omega) (by omega) dY2_close_14 (by decide) (fun c14 => ?_) (fun z => absurd z (by omega))
      refine lv_iload_n hx hb dY2_close_43 rfl (lv_at hl 1 rfl) ?_
      exact rt_i hQ hx hb hr hlocks () hP hS (by rw [huN]) dY2_close_44
    | succ f ih =>
      intro u H locs ls hf hj hP hS hl
      have hnX : (ct_close σ u).2.1 0 0 = n := by rw [ct_close_n]; exact hn
      have hvX : ct_Inv (ct_close σ u).2 := ct_Inv_close hv u (by omega)
      obtain ⟨_, _, _, _, _, _, _, _, _⟩ := hvX.2.1 (u + 1) (by omega) (by omega)
      refine lv_iload_n hx hb dY2_close_9 rfl (lv_at hl 0 rfl) ?_
      refine lv_aload_n hx hb dY2_close_10 rfl (lv_at hl 2 rfl) ?_
      refine wd_get (C := RX2) (T := TY2) (n := 17) (ci := ciM) (v := .int (nI ((ct_close σ u).2.1 0 0))) hx hb hts (by decide +kernel) hown hK hP (0) (by omega) mW_0 rfl 1 (by decide) (hts (.fieldLink RX2 52 "CarThreadsModel" "nodes" "I") (by decide +kernel)) (fun _ h9 => h9) (by first | rfl | simp [cw_nd, cw_ob, mw_ob, ct_sg, ct_sl, tu]) dY2_close_11 ?_
      refine wi_icmp_gt (tgt := 43) hx hb (by omega) (by omega) dY2_close_14 (by decide) (fun z => absurd z (by omega)) (fun c14 => ?_)
      refine lv_aload_n hx hb dY2_close_17 rfl (lv_at hl 2 rfl) ?_
      refine wd_get (C := RX2) (T := TY2) (n := 17) (ci := ciM) (v := .ref (ad 4)) hx hb hts (by decide +kernel) hown hK hP (0) (by omega) mW_0 rfl 5 (by decide) (hts (.fieldLink RX2 19 "CarThreadsModel" "ended" "[Z") (by decide +kernel)) (fun _ h9 => h9) (by first | rfl | simp [cw_nd, cw_ob, mw_ob, ct_sg, ct_sl, tu]) dY2_close_18 ?_
      refine lv_iload_n hx hb dY2_close_21 rfl (lv_at hl 0 rfl) ?_
      refine wd_zald hx hb hK hP (4) 1 (by omega) mW_4 rfl (u + 1) (by omega) (by omega) rfl dY2_close_22 ?_
      refine wi_if_eq (tgt := 29) hx hb (by omega) dY2_close_23 (by decide) (fun c23 => ?_) (fun c23 => ?_)
      · refine lv_aload_n hx hb dY2_close_29 rfl (lv_at hl 2 rfl) ?_
        refine lv_iload_n hx hb dY2_close_30 rfl (lv_at hl 0 rfl) ?_
        refine wd_callv (va_runV (As := [.int (nI (u + 1))]) (rest := []) ⟨hx, hb, hml, hown, hts⟩ (m_end l (σ := (ct_close σ u).2) (cd := nI 0) hI hvX.toW hnX (i := u + 1) (by omega) (by omega)) (cwV 1 hts gY2_close_Y2_end rfl rfl rfl (by decide +kernel) ⟨Nat.le_of_ble_eq_true rfl, Nat.le_of_ble_eq_true rfl⟩) (wd_pre (q := (RX2, TY2, 17)) (ci := ciM) hK hP (by omega) rfl mW_0) rfl rfl hl.1 rfl (lv_room (Nat.le_of_ble_eq_true rfl)) dY2_close_31 ⟨Nat.zero_le _, Nat.zero_le _⟩) hS (fun k h => wA_in h) (fun uv1 H locs ev1 hP hz hk hS => ?_)
        have hE : ct_close σ (u + 1) = ((ct_close σ u).1 + 1, ct_end (ct_close σ u).2 (u + 1)) := by
          show (if _ then _ else _) = _
          rw [if_pos (by omega)]
        refine lv_iinc (v := nI ((ct_close σ u).1 + 1)) (lv' := [(1, .int (nI ((ct_close σ u).1 + 1))), (2, .int (nI (u + 1))), (0, .ref (ad 0))]) hx hb dY2_close_34 hl (k := 1) rfl (wi_inc _) (by decide) rfl (fun ls hl => ?_)
        refine lv_iinc (v := nI (u + 1 + 1)) (lv' := [(2, .int (nI (u + 1 + 1))), (1, .int (nI ((ct_close σ u).1 + 1))), (0, .ref (ad 0))]) hx hb dY2_close_37 hl (k := 1) rfl (wi_inc _) (by decide) rfl (fun ls hl => ?_)
        refine lv_goto (tgt := 9) hx hb dY2_close_40 (by decide) ?_
        exact ih (u + 1) _ _ _ (by omega) (by omega) (by rw [hE]; exact hP) hS (by rw [hE]; exact lv_sub hl [0, 1, 2] rfl)
      · refine lv_goto (tgt := 37) hx hb dY2_close_26 (by decide) ?_
        refine lv_iinc (v := nI (u + 1 + 1)) (lv' := [(2, .int (nI (u + 1 + 1))), (1, .int (nI ((ct_close σ u).1))), (0, .ref (ad 0))]) hx hb dY2_close_37 hl (k := 0) rfl (wi_inc _) (by decide) rfl (fun ls hl => ?_)
        refine lv_goto (tgt := 9) hx hb dY2_close_40 (by decide) ?_
        have hE : ct_close σ (u + 1) = ct_close σ u := by
          show (if _ then _ else _) = _
          rw [if_neg (by omega)]
        exact ih (u + 1) _ _ _ (by omega) (by omega) (by rw [hE]; exact hP) hS (by rw [hE]; exact lv_sub hl [0, 1, 2] rfl)
  exact loop9 _ 0 _ _ _ rfl (by omega) hP hS (lv_sub hl [0, 1, 2] rfl)
end P54
