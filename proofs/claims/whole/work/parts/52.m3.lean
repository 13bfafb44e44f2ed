section P52
abbrev rm_m_step : Room := { frames := 1, cells := 0, slots := 0, locals := 22 }
set_option maxHeartbeats 4000000 in
set_option maxRecDepth 100000 in
theorem m_step (l : Launch) {D : va_G} {cI cZ cJ : ClassId} {ad : Nat → Nat} {σ : St} {ρ : Nat → Nat} {cd : Int32} {n : Nat} (hI : adI ad 13) (hv : ct_Inv σ) (hn : σ.1 0 0 = n) {i : Nat} (h1 : 1 ≤ i) (h2 : i ≤ n) : Met l yY2_step wsY2_step rm_m_step (va_Pc [.ref (ad 0), .int (nI (i))] (pC D wCl (tyM cI cZ cJ) ad (mW cI cZ cJ ad σ ρ cd) 13)) (qV (S := Unit) D wCl ad 13 (fun _ => True) (fun _ => mW cI cZ cJ ad (ct_stepL σ i) ρ cd)) 0 0 (wA ad 13) := by
  refine Met.go (cc := cY2_step) (maxL := 2) (ret := none) (by decide) rfl (Nat.le_of_ble_eq_true rfl) ?_
  intro p e s m below meth c ls args Q ⟨hx, hb, hml, hown, hts⟩ hr hlocks hnm ⟨hP, hK⟩ hl hQ
  have hl : lv_has ls 2 [(0, .ref (ad 0)), (1, .int (nI (i)))] := hl
  have hS : va_S (wA ad 13) s.heap s.heap [] := va_S.rf
  have hn30 : n ≤ 30 := by have := hv.1.1; omega
  obtain ⟨_, _, _, _, _, _, _, _, _⟩ := hv.2.1 i h1 (by omega)
  have hlc := hv.1.2.2
  refine lv_aload_n hx hb dY2_step_0 rfl (lv_at hl 0 rfl) ?_
  refine wd_get (C := RX2) (T := TY2) (n := 17) (ci := ciM) (v := .ref (ad 3)) hx hb hts (by decide +kernel) hown hK hP (0) (by omega) mW_0 rfl 4 (by decide) (hts (.fieldLink RX2 16 "CarThreadsModel" "done" "[I") (by decide +kernel)) (fun _ h9 => h9) (by first | rfl | simp [cw_nd, cw_ob, mw_ob, ct_sg, ct_sl, tu]) dY2_step_1 ?_
  refine lv_iload_n hx hb dY2_step_4 rfl (lv_at hl 1 rfl) ?_
  refine wd_iald hx hb hK hP (3) 0 (by omega) mW_3 rfl (i) (by omega) (by omega) rfl dY2_step_5 ?_
  refine lv_iconst (v := nI 1) hx hb dY2_step_6 (by decide) ?_
  refine wi_add hx hb dY2_step_7 ?_
  refine lv_aload_n hx hb dY2_step_8 rfl (lv_at hl 0 rfl) ?_
  refine wd_get (C := RX2) (T := TY2) (n := 17) (ci := ciM) (v := .ref (ad 2)) hx hb hts (by decide +kernel) hown hK hP (0) (by omega) mW_0 rfl 3 (by decide) (hts (.fieldLink RX2 13 "CarThreadsModel" "failsAt" "[I") (by decide +kernel)) (fun _ h9 => h9) (by first | rfl | simp [cw_nd, cw_ob, mw_ob, ct_sg, ct_sl, tu]) dY2_step_9 ?_
  refine lv_iload_n hx hb dY2_step_12 rfl (lv_at hl 1 rfl) ?_
  refine wd_iald hx hb hK hP (2) 0 (by omega) mW_2 rfl (i) (by omega) (by omega) rfl dY2_step_13 ?_
  refine wi_icmp_ne (tgt := 30) hx hb (by omega) (by omega) dY2_step_14 (by decide) (fun c14 => ?_) (fun c14 => ?_)
  · refine lv_aload_n hx hb dY2_step_30 rfl (lv_at hl 0 rfl) ?_
    refine wd_get (C := RX2) (T := TY2) (n := 17) (ci := ciM) (v := .ref (ad 3)) hx hb hts (by decide +kernel) hown hK hP (0) (by omega) mW_0 rfl 4 (by decide) (hts (.fieldLink RX2 16 "CarThreadsModel" "done" "[I") (by decide +kernel)) (fun _ h9 => h9) (by first | rfl | simp [cw_nd, cw_ob, mw_ob, ct_sg, ct_sl, tu]) dY2_step_31 ?_
    refine lv_iload_n hx hb dY2_step_34 rfl (lv_at hl 1 rfl) ?_
    refine lv_dup2_11 hx hb dY2_step_35 rfl rfl ?_
    refine wd_iald hx hb hK hP (3) 0 (by omega) mW_3 rfl (i) (by omega) (by omega) rfl dY2_step_36 ?_
    refine lv_iconst (v := nI 1) hx hb dY2_step_37 (by decide) ?_
    refine wi_add hx hb dY2_step_38 ?_
    refine wd_iast hx hb hK hP hI (fun k h => wA_in h) hS (3) 0 (by omega) mW_3 rfl (i) (by omega) (by omega) rfl dY2_step_39 (fun H locs hP hS => ?_)
    have hP : va_P D wCl (wl ad (mW cI cZ cJ ad (ct_sg σ 3 i ((σ.1 3 i) + 1)) ρ cd) 13) H := um_at (by omega) (by omega) rfl hP
    refine lv_aload_n hx hb dY2_step_40 rfl (lv_at hl 0 rfl) ?_
    refine wd_get (C := RX2) (T := TY2) (n := 17) (ci := ciM) (v := .int (nI (σ.1 0 2))) hx hb hts (by decide +kernel) hown hK hP (0) (by omega) mW_0 rfl 15 (by decide) (hts (.fieldLink RX2 75 "CarThreadsModel" "entries" "I") (by decide +kernel)) (fun _ h9 => h9) (by first | rfl | simp [cw_nd, cw_ob, mw_ob, ct_sg, ct_sl, tu]) dY2_step_41 ?_
    refine lv_sipush (v := nI 2000) hx hb dY2_step_44 (by decide) ?_
    refine wi_icmp_ge (tgt := 81) hx hb (by omega) (by omega) dY2_step_47 (by decide) (fun c47 => ?_) (fun c47 => ?_)
    · have hN : (ct_sg σ 3 i ((σ.1 3 i) + 1)) = ct_note (ct_sg σ 3 i (σ.1 3 i + 1)) (1000 * i + (σ.1 3 i + 1)) := (ct_note_ge (σ := ct_sg σ 3 i (σ.1 3 i + 1)) (by show ¬ σ.1 0 2 < 2000; omega)).symm
      rw [hN] at hP
      have n3 : (ct_note (ct_sg σ 3 i (σ.1 3 i + 1)) (1000 * i + (σ.1 3 i + 1))).1 3 i = σ.1 3 i + 1 := by simp [ct_note, ct_wl, ct_sg]
      have n1 : (ct_note (ct_sg σ 3 i (σ.1 3 i + 1)) (1000 * i + (σ.1 3 i + 1))).1 1 i = σ.1 1 i := by simp [ct_note, ct_wl, ct_sg]
      have n6 : (ct_note (ct_sg σ 3 i (σ.1 3 i + 1)) (1000 * i + (σ.1 3 i + 1))).1 6 i = σ.1 6 i := by simp [ct_note, ct_wl, ct_sg]
      refine lv_aload_n hx hb dY2_step_81 rfl (lv_at hl 0 rfl) ?_
      refine wd_get (C := RX2) (T := TY2) (n := 17) (ci := ciM) (v := .ref (ad 6)) hx hb hts (by decide +kernel) hown hK hP (0) (by omega) mW_0 rfl 7 (by decide) (hts (.fieldLink RX2 26 "CarThreadsModel" "interrupted" "[Z") (by decide +kernel)) (fun _ h9 => h9) (by first | rfl | simp [cw_nd, cw_ob, mw_ob, ct_sg, ct_sl, tu]) dY2_step_82 ?_
      refine lv_iload_n hx hb dY2_step_85 rfl (lv_at hl 1 rfl) ?_
      refine wd_zald hx hb hK hP (6) 1 (by omega) mW_6 rfl (i) (by omega) (by omega) rfl dY2_step_86 ?_
      refine wi_if_ne (tgt := 105) hx hb (by omega) dY2_step_87 (by decide) (fun c87 => ?_) (fun c87 => ?_)
      · refine lv_aload_n hx hb dY2_step_105 rfl (lv_at hl 0 rfl) ?_
        refine lv_iload_n hx hb dY2_step_106 rfl (lv_at hl 1 rfl) ?_
        refine wd_callv (va_runV (As := [.int (nI (i))]) (rest := []) ⟨hx, hb, hml, hown, hts⟩ (m_end l (σ := (ct_note (ct_sg σ 3 i (σ.1 3 i + 1)) (1000 * i + (σ.1 3 i + 1)))) hI (ct_W_note (hv.toW.sg (by decide) (by decide) (by decide))) hn h1 h2) (cwV 1 hts gY2_step_Y2_end rfl rfl rfl (by decide +kernel) ⟨Nat.le_of_ble_eq_true rfl, Nat.le_of_ble_eq_true rfl⟩) (wd_pre (q := (RX2, TY2, 17)) (ci := ciM) hK hP (by omega) rfl mW_0) rfl rfl hl.1 rfl (lv_room (Nat.le_of_ble_eq_true rfl)) dY2_step_107 ⟨Nat.zero_le _, Nat.zero_le _⟩) hS (fun k h => wA_in h) (fun uv1 H locs ev1 hP hz hk hS => ?_)
        have hf : ¬ ct_fails σ i = true := by simp [ct_fails]; omega
        have he : ct_ends σ i = true := by simp [ct_ends]; omega
        exact rt_v hQ hx hb hr hlocks () (by unfold ct_stepL; rw [if_neg hf, if_pos he]; exact hP) hS trivial dY2_step_110
      · refine lv_aload_n hx hb dY2_step_90 rfl (lv_at hl 0 rfl) ?_
        refine wd_get (C := RX2) (T := TY2) (n := 17) (ci := ciM) (v := .ref (ad 3)) hx hb hts (by decide +kernel) hown hK hP (0) (by omega) mW_0 rfl 4 (by decide) (hts (.fieldLink RX2 16 "CarThreadsModel" "done" "[I") (by decide +kernel)) (fun _ h9 => h9) (by first | rfl | simp [cw_nd, cw_ob, mw_ob, ct_sg, ct_sl, tu]) dY2_step_91 ?_
        refine lv_iload_n hx hb dY2_step_94 rfl (lv_at hl 1 rfl) ?_
        refine wd_iald hx hb hK hP (3) 0 (by omega) mW_3 rfl (i) (by omega) (by omega) rfl dY2_step_95 ?_
        refine lv_aload_n hx hb dY2_step_96 rfl (lv_at hl 0 rfl) ?_
        refine wd_get (C := RX2) (T := TY2) (n := 17) (ci := ciM) (v := .ref (ad 1)) hx hb hts (by decide +kernel) hown hK hP (0) (by omega) mW_0 rfl 2 (by decide) (hts (.fieldLink RX2 7 "CarThreadsModel" "steps" "[I") (by decide +kernel)) (fun _ h9 => h9) (by first | rfl | simp [cw_nd, cw_ob, mw_ob, ct_sg, ct_sl, tu]) dY2_step_97 ?_
        refine lv_iload_n hx hb dY2_step_100 rfl (lv_at hl 1 rfl) ?_
        refine wd_iald hx hb hK hP (1) 0 (by omega) mW_1 rfl (i) (by omega) (by omega) rfl dY2_step_101 ?_
        refine wi_icmp_ne (tgt := 110) hx hb (by omega) (by omega) dY2_step_102 (by decide) (fun c102 => ?_) (fun c102 => ?_)
        · have hf : ¬ ct_fails σ i = true := by simp [ct_fails]; omega
          have he : ¬ ct_ends σ i = true := by simp [ct_ends, ct_fails]; omega
          exact rt_v hQ hx hb hr hlocks () (by unfold ct_stepL; rw [if_neg hf, if_neg he]; exact hP) hS trivial dY2_step_110
        · refine lv_aload_n hx hb dY2_step_105 rfl (lv_at hl 0 rfl) ?_
          refine lv_iload_n hx hb dY2_step_106 rfl (lv_at hl 1 rfl) ?_
          refine wd_callv (va_runV (As := [.int (nI (i))]) (rest := []) ⟨hx, hb, hml, hown, hts⟩ (m_end l (σ := (ct_note (ct_sg σ 3 i (σ.1 3 i + 1)) (1000 * i + (σ.1 3 i + 1)))) hI (ct_W_note (hv.toW.sg (by decide) (by decide) (by decide))) hn h1 h2) (cwV 1 hts gY2_step_Y2_end rfl rfl rfl (by decide +kernel) ⟨Nat.le_of_ble_eq_true rfl, Nat.le_of_ble_eq_true rfl⟩) (wd_pre (q := (RX2, TY2, 17)) (ci := ciM) hK hP (by omega) rfl mW_0) rfl rfl hl.1 rfl (lv_room (Nat.le_of_ble_eq_true rfl)) dY2_step_107 ⟨Nat.zero_le _, Nat.zero_le _⟩) hS (fun k h => wA_in h) (fun uv2 H locs ev2 hP hz hk hS => ?_)
          have hf : ¬ ct_fails σ i = true := by simp [ct_fails]; omega
          have he : ct_ends σ i = true := by simp [ct_ends]; omega
          exact rt_v hQ hx hb hr hlocks () (by unfold ct_stepL; rw [if_neg hf, if_pos he]; exact hP) hS trivial dY2_step_110
    · refine lv_aload_n hx hb dY2_step_50 rfl (lv_at hl 0 rfl) ?_
      refine wd_get (C := RX2) (T := TY2) (n := 17) (ci := ciM) (v := .ref (ad 12)) hx hb hts (by decide +kernel) hown hK hP (0) (by omega) mW_0 rfl 16 (by decide) (hts (.fieldLink RX2 45 "CarThreadsModel" "entry" "[I") (by decide +kernel)) (fun _ h9 => h9) (by first | rfl | simp [cw_nd, cw_ob, mw_ob, ct_sg, ct_sl, tu]) dY2_step_51 ?_
      refine lv_aload_n hx hb dY2_step_54 rfl (lv_at hl 0 rfl) ?_
      refine wd_get (C := RX2) (T := TY2) (n := 17) (ci := ciM) (v := .int (nI (σ.1 0 2))) hx hb hts (by decide +kernel) hown hK hP (0) (by omega) mW_0 rfl 15 (by decide) (hts (.fieldLink RX2 75 "CarThreadsModel" "entries" "I") (by decide +kernel)) (fun _ h9 => h9) (by first | rfl | simp [cw_nd, cw_ob, mw_ob, ct_sg, ct_sl, tu]) dY2_step_55 ?_
      refine lv_sipush (v := nI 1000) hx hb dY2_step_58 (by decide) ?_
      refine lv_iload_n hx hb dY2_step_61 rfl (lv_at hl 1 rfl) ?_
      refine wi_mul hx hb dY2_step_62 ?_
      refine lv_aload_n hx hb dY2_step_63 rfl (lv_at hl 0 rfl) ?_
      refine wd_get (C := RX2) (T := TY2) (n := 17) (ci := ciM) (v := .ref (ad 3)) hx hb hts (by decide +kernel) hown hK hP (0) (by omega) mW_0 rfl 4 (by decide) (hts (.fieldLink RX2 16 "CarThreadsModel" "done" "[I") (by decide +kernel)) (fun _ h9 => h9) (by first | rfl | simp [cw_nd, cw_ob, mw_ob, ct_sg, ct_sl, tu]) dY2_step_64 ?_
      refine lv_iload_n hx hb dY2_step_67 rfl (lv_at hl 1 rfl) ?_
      refine wd_iald hx hb hK hP (3) 0 (by omega) mW_3 rfl (i) (by omega) (by omega) rfl dY2_step_68 ?_
      rw [show (ct_sg σ 3 i ((σ.1 3 i) + 1)).1 3 i = (σ.1 3 i) + 1 from by first | rfl | simp [ct_sg]]
      refine wi_add hx hb dY2_step_69 ?_
      refine wd_iast hx hb hK hP hI (fun k h => wA_in h) hS (12) 0 (by omega) mW_12 rfl (σ.1 0 2) (by omega) (by omega) rfl dY2_step_70 (fun H locs hP hS => ?_)
      have hP : va_P D wCl (wl ad (mW cI cZ cJ ad (ct_sg (ct_sg σ 3 i ((σ.1 3 i) + 1)) 10 (σ.1 0 2) ((1000 * i) + ((σ.1 3 i) + 1))) ρ cd) 13) H := um_12 hP
      refine lv_aload_n hx hb dY2_step_71 rfl (lv_at hl 0 rfl) ?_
      refine lv_dup hx hb dY2_step_72 rfl ?_
      refine wd_get (C := RX2) (T := TY2) (n := 17) (ci := ciM) (v := .int (nI (σ.1 0 2))) hx hb hts (by decide +kernel) hown hK hP (0) (by omega) mW_0 rfl 15 (by decide) (hts (.fieldLink RX2 75 "CarThreadsModel" "entries" "I") (by decide +kernel)) (fun _ h9 => h9) (by first | rfl | simp [cw_nd, cw_ob, mw_ob, ct_sg, ct_sl, tu]) dY2_step_73 ?_
      refine lv_iconst (v := nI 1) hx hb dY2_step_76 (by decide) ?_
      refine wi_add hx hb dY2_step_77 ?_
      refine wd_put (C := RX2) (T := TY2) (n := 17) (ci := ciM) (v := .int (nI ((σ.1 0 2) + 1))) (ty := .int) hx hb hts (by decide +kernel) tyY2 tyY2_ok nmY2 hown hK hP hI (fun k h => wA_in h) hS (0) (by omega) mW_0 rfl 15 (by decide) (hts (.fieldLink RX2 75 "CarThreadsModel" "entries" "I") (by decide +kernel)) (fun _ h9 => h9) rfl (by decide +kernel) rfl rfl (Nat.le_of_ble_eq_true rfl) dY2_step_78 (fun H locs hP hS => ?_)
      have hP : va_P D wCl (wl ad (mW cI cZ cJ ad (ct_sg (ct_sg (ct_sg σ 3 i ((σ.1 3 i) + 1)) 10 (σ.1 0 2) ((1000 * i) + ((σ.1 3 i) + 1))) 0 2 ((σ.1 0 2) + 1)) ρ cd) 13) H := um_ob hP (by simp [mw_ob, ct_sg, ct_sl]) (fun a ha => by funext x; simp [ct_sg, ct_sl, ha]) rfl (fun i hi => by simp [ct_sg, ct_sl, hi])
      have hN : (ct_sg (ct_sg (ct_sg σ 3 i ((σ.1 3 i) + 1)) 10 (σ.1 0 2) ((1000 * i) + ((σ.1 3 i) + 1))) 0 2 ((σ.1 0 2) + 1)) = ct_note (ct_sg σ 3 i (σ.1 3 i + 1)) (1000 * i + (σ.1 3 i + 1)) := ct_note_lt (σ := ct_sg σ 3 i (σ.1 3 i + 1)) (by show σ.1 0 2 < 2000; omega)
      rw [hN] at hP
      have n3 : (ct_note (ct_sg σ 3 i (σ.1 3 i + 1)) (1000 * i + (σ.1 3 i + 1))).1 3 i = σ.1 3 i + 1 := by simp [ct_note, ct_wl, ct_sg]
      have n1 : (ct_note (ct_sg σ 3 i (σ.1 3 i + 1)) (1000 * i + (σ.1 3 i + 1))).1 1 i = σ.1 1 i := by simp [ct_note, ct_wl, ct_sg]
      have n6 : (ct_note (ct_sg σ 3 i (σ.1 3 i + 1)) (1000 * i + (σ.1 3 i + 1))).1 6 i = σ.1 6 i := by simp [ct_note, ct_wl, ct_sg]
      refine lv_aload_n hx hb dY2_step_81 rfl (lv_at hl 0 rfl) ?_
      refine wd_get (C := RX2) (T := TY2) (n := 17) (ci := ciM) (v := .ref (ad 6)) hx hb hts (by decide +kernel) hown hK hP (0) (by omega) mW_0 rfl 7 (by decide) (hts (.fieldLink RX2 26 "CarThreadsModel" "interrupted" "[Z") (by decide +kernel)) (fun _ h9 => h9) (by first | rfl | simp [cw_nd, cw_ob, mw_ob, ct_sg, ct_sl, tu]) dY2_step_82 ?_
      refine lv_iload_n hx hb dY2_step_85 rfl (lv_at hl 1 rfl) ?_
      refine wd_zald hx hb hK hP (6) 1 (by omega) mW_6 rfl (i) (by omega) (by omega) rfl dY2_step_86 ?_
      refine wi_if_ne (tgt := 105) hx hb (by omega) dY2_step_87 (by decide) (fun c87 => ?_) (fun c87 => ?_)
      · refine lv_aload_n hx hb dY2_step_105 rfl (lv_at hl 0 rfl) ?_
        refine lv_iload_n hx hb dY2_step_106 rfl (lv_at hl 1 rfl) ?_
        refine wd_callv (va_runV (As := [.int (nI (i))]) (rest := []) ⟨hx, hb, hml, hown, hts⟩ (m_end l (σ := (ct_note (ct_sg σ 3 i (σ.1 3 i + 1)) (1000 * i + (σ.1 3 i + 1)))) hI (ct_W_note (hv.toW.sg (by decide) (by decide) (by decide))) hn h1 h2) (cwV 1 hts gY2_step_Y2_end rfl rfl rfl (by decide +kernel) ⟨Nat.le_of_ble_eq_true rfl, Nat.le_of_ble_eq_true rfl⟩) (wd_pre (q := (RX2, TY2, 17)) (ci := ciM) hK hP (by omega) rfl mW_0) rfl rfl hl.1 rfl (lv_room (Nat.le_of_ble_eq_true rfl)) dY2_step_107 ⟨Nat.zero_le _, Nat.zero_le _⟩) hS (fun k h => wA_in h) (fun uv3 H locs ev3 hP hz hk hS => ?_)
        have hf : ¬ ct_fails σ i = true := by simp [ct_fails]; omega
        have he : ct_ends σ i = true := by simp [ct_ends]; omega
        exact rt_v hQ hx hb hr hlocks () (by unfold ct_stepL; rw [if_neg hf, if_pos he]; exact hP) hS trivial dY2_step_110
      · refine lv_aload_n hx hb dY2_step_90 rfl (lv_at hl 0 rfl) ?_
        refine wd_get (C := RX2) (T := TY2) (n := 17) (ci := ciM) (v := .ref (ad 3)) hx hb hts (by decide +kernel) hown hK hP (0) (by omega) mW_0 rfl 4 (by decide) (hts (.fieldLink RX2 16 "CarThreadsModel" "done" "[I") (by decide +kernel)) (fun _ h9 => h9) (by first | rfl | simp [cw_nd, cw_ob, mw_ob, ct_sg, ct_sl, tu]) dY2_step_91 ?_
        refine lv_iload_n hx hb dY2_step_94 rfl (lv_at hl 1 rfl) ?_
        refine wd_iald hx hb hK hP (3) 0 (by omega) mW_3 rfl (i) (by omega) (by omega) rfl dY2_step_95 ?_
        refine lv_aload_n hx hb dY2_step_96 rfl (lv_at hl 0 rfl) ?_
        refine wd_get (C := RX2) (T := TY2) (n := 17) (ci := ciM) (v := .ref (ad 1)) hx hb hts (by decide +kernel) hown hK hP (0) (by omega) mW_0 rfl 2 (by decide) (hts (.fieldLink RX2 7 "CarThreadsModel" "steps" "[I") (by decide +kernel)) (fun _ h9 => h9) (by first | rfl | simp [cw_nd, cw_ob, mw_ob, ct_sg, ct_sl, tu]) dY2_step_97 ?_
        refine lv_iload_n hx hb dY2_step_100 rfl (lv_at hl 1 rfl) ?_
        refine wd_iald hx hb hK hP (1) 0 (by omega) mW_1 rfl (i) (by omega) (by omega) rfl dY2_step_101 ?_
        refine wi_icmp_ne (tgt := 110) hx hb (by omega) (by omega) dY2_step_102 (by decide) (fun c102 => ?_) (fun c102 => ?_)
        · have hf : ¬ ct_fails σ i = true := by simp [ct_fails]; omega
          have he : ¬ ct_ends σ i = true := by simp [ct_ends, ct_fails]; omega
          exact rt_v hQ hx hb hr hlocks () (by unfold ct_stepL; rw [if_neg hf, if_neg he]; exact hP) hS trivial dY2_step_110
        · refine lv_aload_n hx hb dY2_step_105 rfl (lv_at hl 0 rfl) ?_
          refine lv_iload_n hx hb dY2_step_106 rfl (lv_at hl 1 rfl) ?_
          refine wd_callv (va_runV (As := [.int (nI (i))]) (rest := []) ⟨hx, hb, hml, hown, hts⟩ (m_end l (σ := (ct_note (ct_sg σ 3 i (σ.1 3 i + 1)) (1000 * i + (σ.1 3 i + 1)))) hI (ct_W_note (hv.toW.sg (by decide) (by decide) (by decide))) hn h1 h2) (cwV 1 hts gY2_step_Y2_end rfl rfl rfl (by decide +kernel) ⟨Nat.le_of_ble_eq_true rfl, Nat.le_of_ble_eq_true rfl⟩) (wd_pre (q := (RX2, TY2, 17)) (ci := ciM) hK hP (by omega) rfl mW_0) rfl rfl hl.1 rfl (lv_room (Nat.le_of_ble_eq_true rfl)) dY2_step_107 ⟨Nat.zero_le _, Nat.zero_le _⟩) hS (fun k h => wA_in h) (fun uv4 H locs ev4 hP hz hk hS => ?_)
          have hf : ¬ ct_fails σ i = true := by simp [ct_fails]; omega
          have he : ct_ends σ i = true := by simp [ct_ends]; omega
          exact rt_v hQ hx hb hr hlocks () (by unfold ct_stepL; rw [if_neg hf, if_pos he]; exact hP) hS trivial dY2_step_110
  · refine lv_aload_n hx hb dY2_step_17 rfl (lv_at hl 0 rfl) ?_
    refine wd_get (C := RX2) (T := TY2) (n := 17) (ci := ciM) (v := .ref (ad 5)) hx hb hts (by decide +kernel) hown hK hP (0) (by omega) mW_0 rfl 6 (by decide) (hts (.fieldLink RX2 23 "CarThreadsModel" "safe" "[Z") (by decide +kernel)) (fun _ h9 => h9) (by first | rfl | simp [cw_nd, cw_ob, mw_ob, ct_sg, ct_sl, tu]) dY2_step_18 ?_
    refine lv_iload_n hx hb dY2_step_21 rfl (lv_at hl 1 rfl) ?_
    refine lv_iconst (v := nI 1) hx hb dY2_step_22 (by decide) ?_
    refine wd_zast hx hb hK hP hI (fun k h => wA_in h) hS (5) 1 (by omega) mW_5 rfl (i) (by omega) (by omega) (wi_nar2 (by omega)) rfl dY2_step_23 (fun H locs hP hS => ?_)
    have hP : va_P D wCl (wl ad (mW cI cZ cJ ad (ct_sg σ 5 i 1) ρ cd) 13) H := um_at (by omega) (by omega) rfl hP
    refine lv_aload_n hx hb dY2_step_24 rfl (lv_at hl 0 rfl) ?_
    refine lv_iload_n hx hb dY2_step_25 rfl (lv_at hl 1 rfl) ?_
    refine wd_callv (va_runV (As := [.int (nI (i))]) (rest := []) ⟨hx, hb, hml, hown, hts⟩ (m_end l (σ := (ct_sg σ 5 i 1)) hI (hv.toW.sg (by decide) (by decide) (by decide)) hn h1 h2) (cwV 1 hts gY2_step_Y2_end rfl rfl rfl (by decide +kernel) ⟨Nat.le_of_ble_eq_true rfl, Nat.le_of_ble_eq_true rfl⟩) (wd_pre (q := (RX2, TY2, 17)) (ci := ciM) hK hP (by omega) rfl mW_0) rfl rfl hl.1 rfl (lv_room (Nat.le_of_ble_eq_true rfl)) dY2_step_26 ⟨Nat.zero_le _, Nat.zero_le _⟩) hS (fun k h => wA_in h) (fun uv5 H locs ev5 hP hz hk hS => ?_)
    have hf : ct_fails σ i = true := by simp [ct_fails]; omega
    exact rt_v hQ hx hb hr hlocks () (by unfold ct_stepL; rw [if_pos hf]; exact hP) hS trivial dY2_step_29
abbrev rm_m_begin : Room := { frames := 1, cells := 0, slots := 0, locals := 24 }
set_option maxHeartbeats 4000000 in
set_option maxRecDepth 100000 in
theorem m_begin (l : Launch) {D : va_G} {cI cZ cJ : ClassId} {ad : Nat → Nat} {σ : St} {ρ : Nat → Nat} {cd : Int32} {n : Nat} (hI : adI ad 13) (hv : ct_Inv σ) (hn : σ.1 0 0 = n) (hρ : ∀ i, ρ i ≤ 1) : Met l yY2_begin wsY2_begin rm_m_begin (va_Pc [.ref (ad 0)] (pC D wCl (tyM cI cZ cJ) ad (mW cI cZ cJ ad σ ρ cd) 13)) (qI (S := Unit) D wCl ad 13 (fun r _ => r = nI (bN (ct_any (ct_cut σ n) n))) (fun _ => mW cI cZ cJ ad (ct_cut σ n) (mR ρ (ct_cut σ n) n) cd)) 0 0 (wA ad 13) := by
  refine Met.go (cc := cY2_begin) (maxL := 3) (ret := (some .boolean)) (by decide) rfl (Nat.le_of_ble_eq_true rfl) ?_
  intro p e s m below meth c ls args Q ⟨hx, hb, hml, hown, hts⟩ hr hlocks hnm ⟨hP, hK⟩ hl hQ
  have hl : lv_has ls 3 [(0, .ref (ad 0))] := hl
  have hS : va_S (wA ad 13) s.heap s.heap [] := va_S.rf
  have hn30 : n ≤ 30 := by have := hv.1.1; omega
  refine lv_iconst (v := nI 1) hx hb dY2_begin_0 (by decide) ?_
  refine lv_istore_n (lv' := [(1, .int (nI (1))), (0, .ref (ad 0))]) hx hb dY2_begin_1 rfl hl (by decide) rfl (fun ls hl => ?_)
  have loop2 : ∀ (f u : Nat) (H : Heap) (locs : List Loc) (ls : Array Slot), n - u = f → u ≤ n → va_P D wCl (wl ad (mW cI cZ cJ ad (ct_cut σ u) ρ cd) 13) H → va_S (wA ad 13) s.heap H locs → lv_has ls 3 [(1, .int (nI (u + 1))), (0, .ref (ad 0))] → W p l e rm_m_begin s m args below meth c H locs 0 0 Q (F0 m 2 ls []) := by
    intro f
    induction f with
    | zero =>
      intro u H locs ls hf hj hP hS hl
      have huN : u = n := by omega
      rw [huN] at hP
      have hnX : (ct_cut σ n).1 0 0 = n := by rw [ct_cut_n]; exact hn
      refine lv_iload_n hx hb dY2_begin_2 rfl (lv_at hl 0 rfl) ?_
      refine lv_aload_n hx hb dY2_begin_3 rfl (lv_at hl 1 rfl) ?_
      refine wd_get (C := RX2) (T := TY2) (n := 17) (ci := ciM) (v := .int (nI ((ct_cut σ n).1 0 0))) hx hb hts (by decide +kernel) hown hK hP (0) (by omega) mW_0 rfl 1 (by decide) (hts (.fieldLink RX2 52 "CarThreadsModel" "nodes" "I") (by decide +kernel)) (fun _ h9 => h9) (by first | rfl | simp [cw_nd, cw_ob, mw_ob, ct_sg, ct_sl, tu]) dY2_begin_4 ?_
      refine wi_icmp_gt (tgt := 44) hx hb (by omega) (by omega) dY2_begin_7 (by decide) (fun c7 => ?_) (fun z => absurd z (by omega))
      refine lv_iconst (v := nI 0) hx hb dY2_begin_44 (by decide) ?_
      refine lv_istore_n (lv' := [(1, .int (nI (0))), (0, .ref (ad 0))]) hx hb dY2_begin_45 rfl hl (by decide) rfl (fun ls hl => ?_)
      refine lv_iconst (v := nI 1) hx hb dY2_begin_46 (by decide) ?_
      refine lv_istore_n (lv' := [(2, .int (nI (1))), (1, .int (nI (0))), (0, .ref (ad 0))]) hx hb dY2_begin_47 rfl hl (by decide) rfl (fun ls hl => ?_)
      have hnX : (ct_cut σ n).1 0 0 = n := by rw [ct_cut_n]; exact hn
      have hvX : ct_Inv (ct_cut σ n) := ct_Inv_cut hv n (by omega)
      have loop48 : ∀ (f u : Nat) (H : Heap) (locs : List Loc) (ls : Array Slot), n - u = f → u ≤ n → va_P D wCl (wl ad (mW cI cZ cJ ad (ct_cut σ n) (mR ρ (ct_cut σ n) u) cd) 13) H → va_S (wA ad 13) s.heap H locs → lv_has ls 3 [(2, .int (nI (u + 1))), (1, .int (nI (bN (ct_any (ct_cut σ n) u)))), (0, .ref (ad 0))] → W p l e rm_m_begin s m args below meth c H locs 0 0 Q (F0 m 48 ls []) := by
        intro f
        induction f with
        | zero =>
          intro u H locs ls hf hj hP hS hl
          have huN2 : u = n := by omega
          rw [huN2] at hP
          refine lv_iload_n hx hb dY2_begin_48 rfl (lv_at hl 0 rfl) ?_
          refine lv_aload_n hx hb dY2_begin_49 rfl (lv_at hl 2 rfl) ?_
          refine wd_get (C := RX2) (T := TY2) (n := 17) (ci := ciM) (v := .int (nI ((ct_cut σ n).1 0 0))) hx hb hts (by decide +kernel) hown hK hP (0) (by omega) mW_0 rfl 1 (by decide) (hts (.fieldLink RX2 52 "CarThreadsModel" "nodes" "I") (by decide +kernel)) (fun _ h9 => h9) (by first | rfl | simp [cw_nd, cw_ob, mw_ob, ct_sg, ct_sl, tu]) dY2_begin_50 ?_
          refine wi_icmp_gt (tgt := 92) hx hb (by omega) (by omega) dY2_begin_53 (by decide) (fun c53 => ?_) (fun z => absurd z (by omega))
          refine lv_iload_n hx hb dY2_begin_92 rfl (lv_at hl 1 rfl) ?_
          exact rt_z hQ hx hb hr hlocks () hP hS (wi_nar (bN_le _)) (by rw [huN2]) dY2_begin_93
        | succ f ih =>
          intro u H locs ls hf hj hP hS hl
          have hlt : u < n := by omega
          have hbn := bN_le (ct_any (ct_cut σ n) u)
          have hbg := bN_le (ct_go (ct_cut σ n) (u + 1))
          refine lv_iload_n hx hb dY2_begin_48 rfl (lv_at hl 0 rfl) ?_
          refine lv_aload_n hx hb dY2_begin_49 rfl (lv_at hl 2 rfl) ?_
          refine wd_get (C := RX2) (T := TY2) (n := 17) (ci := ciM) (v := .int (nI ((ct_cut σ n).1 0 0))) hx hb hts (by decide +kernel) hown hK hP (0) (by omega) mW_0 rfl 1 (by decide) (hts (.fieldLink RX2 52 "CarThreadsModel" "nodes" "I") (by decide +kernel)) (fun _ h9 => h9) (by first | rfl | simp [cw_nd, cw_ob, mw_ob, ct_sg, ct_sl, tu]) dY2_begin_50 ?_
          refine wi_icmp_gt (tgt := 92) hx hb (by omega) (by omega) dY2_begin_53 (by decide) (fun z => absurd z (by omega)) (fun c53 => ?_)
          refine lv_aload_n hx hb dY2_begin_56 rfl (lv_at hl 2 rfl) ?_
          refine wd_get (C := RX2) (T := TY2) (n := 17) (ci := ciM) (v := .ref (ad 9)) hx hb hts (by decide +kernel) hown hK hP (0) (by omega) mW_0 rfl 10 (by decide) (hts (.fieldLink RX2 36 "CarThreadsModel" "ready" "[Z") (by decide +kernel)) (fun _ h9 => h9) (by first | rfl | simp [cw_nd, cw_ob, mw_ob, ct_sg, ct_sl, tu]) dY2_begin_57 ?_
          refine lv_iload_n hx hb dY2_begin_60 rfl (lv_at hl 0 rfl) ?_
          refine lv_aload_n hx hb dY2_begin_61 rfl (lv_at hl 2 rfl) ?_
          refine lv_iload_n hx hb dY2_begin_62 rfl (lv_at hl 0 rfl) ?_
          refine vp_callSi (W.runV (As := [.int (nI (u + 1))]) (rest := [.int (nI (u + 1)), .ref (ad 9)]) ⟨hx, hb, hml, hown, hts⟩ (m_mayGo l (σ := ct_cut σ n) (ρ := mR ρ (ct_cut σ n) u) hI hvX hnX (i := u + 1) (by omega) (by omega)) (cwV 1 hts gY2_begin_Y2_mayGo rfl rfl rfl (by decide +kernel) ⟨Nat.le_of_ble_eq_true rfl, Nat.le_of_ble_eq_true rfl⟩) (wd_pre (q := (RX2, TY2, 17)) (ci := ciM) hK hP (by omega) rfl mW_0) rfl rfl hl.1 rfl (lv_room (Nat.le_of_ble_eq_true rfl)) dY2_begin_63 ⟨Nat.zero_le _, Nat.zero_le _⟩) (fun r1 er1 => ?_)
          subst er1
          refine wd_zast hx hb hK hP hI (fun k h => wA_in h) hS (9) 1 (by omega) mW_9 rfl (u + 1) (by omega) (by omega) (wi_nar2 (by omega)) rfl dY2_begin_66 (fun H locs hP hS => ?_)
          have hP : va_P D wCl (wl ad (mW cI cZ cJ ad (ct_cut σ n) (va_up (mR ρ (ct_cut σ n) u) (u + 1) (bN (ct_go (ct_cut σ n) (u + 1)))) cd) 13) H := um_9 hP
          rw [mR_s] at hP
          have hrd : mR ρ (ct_cut σ n) (u + 1) (u + 1) = bN (ct_go (ct_cut σ n) (u + 1)) := mR_at
          refine lv_iload_n hx hb dY2_begin_67 rfl (lv_at hl 1 rfl) ?_
          refine wi_if_ne (tgt := 80) hx hb (by omega) dY2_begin_68 (by decide) (fun c68 => ?_) (fun c68 => ?_)
          · refine lv_iconst (v := nI 1) hx hb dY2_begin_80 (by decide) ?_
            refine lv_goto (tgt := 85) hx hb dY2_begin_81 (by decide) ?_
            refine lv_istore_n (lv' := [(1, .int (nI (1))), (2, .int (nI (u + 1))), (0, .ref (ad 0))]) hx hb dY2_begin_85 rfl hl (by decide) rfl (fun ls hl => ?_)
            refine lv_iinc (v := nI (u + 1 + 1)) (lv' := [(2, .int (nI (u + 1 + 1))), (1, .int (nI (1))), (0, .ref (ad 0))]) hx hb dY2_begin_86 hl (k := 1) rfl (wi_inc _) (by decide) rfl (fun ls hl => ?_)
            refine lv_goto (tgt := 48) hx hb dY2_begin_89 (by decide) ?_
            have e1 : bN (ct_any (ct_cut σ n) (u + 1)) = 1 := by
              have q : ct_any (ct_cut σ n) (u + 1) = (ct_any (ct_cut σ n) u || ct_go (ct_cut σ n) (u + 1)) := rfl
              rw [q]
              first | (rw [bN_1 (show ¬ bN (ct_go (ct_cut σ n) (u + 1)) = 0 by omega)]; simp [bN]; done) | (rw [bN_1 (show ¬ bN (ct_any (ct_cut σ n) u) = 0 by omega)]; simp [bN]; done) | (rw [bN_0 (show bN (ct_go (ct_cut σ n) (u + 1)) = 0 by omega), bN_0 (show bN (ct_any (ct_cut σ n) u) = 0 by omega)]; rfl)
            exact ih (u + 1) _ _ _ (by omega) (by omega) hP hS (by rw [e1]; exact lv_sub hl [0, 1, 2] rfl)
          · refine lv_aload_n hx hb dY2_begin_71 rfl (lv_at hl 2 rfl) ?_
            refine wd_get (C := RX2) (T := TY2) (n := 17) (ci := ciM) (v := .ref (ad 9)) hx hb hts (by decide +kernel) hown hK hP (0) (by omega) mW_0 rfl 10 (by decide) (hts (.fieldLink RX2 36 "CarThreadsModel" "ready" "[Z") (by decide +kernel)) (fun _ h9 => h9) (by first | rfl | simp [cw_nd, cw_ob, mw_ob, ct_sg, ct_sl, tu]) dY2_begin_72 ?_
            refine lv_iload_n hx hb dY2_begin_75 rfl (lv_at hl 0 rfl) ?_
            refine wd_zald hx hb hK hP (9) 1 (by omega) mW_9 rfl (u + 1) (by omega) (by omega) rfl dY2_begin_76 ?_
            rw [hrd]
            refine wi_if_eq (tgt := 84) hx hb (by omega) dY2_begin_77 (by decide) (fun c77 => ?_) (fun c77 => ?_)
            · refine lv_iconst (v := nI 0) hx hb dY2_begin_84 (by decide) ?_
              refine lv_istore_n (lv' := [(1, .int (nI (0))), (2, .int (nI (u + 1))), (0, .ref (ad 0))]) hx hb dY2_begin_85 rfl hl (by decide) rfl (fun ls hl => ?_)
              refine lv_iinc (v := nI (u + 1 + 1)) (lv' := [(2, .int (nI (u + 1 + 1))), (1, .int (nI (0))), (0, .ref (ad 0))]) hx hb dY2_begin_86 hl (k := 1) rfl (wi_inc _) (by decide) rfl (fun ls hl => ?_)
              refine lv_goto (tgt := 48) hx hb dY2_begin_89 (by decide) ?_
              have e1 : bN (ct_any (ct_cut σ n) (u + 1)) = 0 := by
                have q : ct_any (ct_cut σ n) (u + 1) = (ct_any (ct_cut σ n) u || ct_go (ct_cut σ n) (u + 1)) := rfl
                rw [q]
                first | (rw [bN_1 (show ¬ bN (ct_go (ct_cut σ n) (u + 1)) = 0 by omega)]; simp [bN]; done) | (rw [bN_1 (show ¬ bN (ct_any (ct_cut σ n) u) = 0 by omega)]; simp [bN]; done) | (rw [bN_0 (show bN (ct_go (ct_cut σ n) (u + 1)) = 0 by omega), bN_0 (show bN (ct_any (ct_cut σ n) u) = 0 by omega)]; rfl)
              exact ih (u + 1) _ _ _ (by omega) (by omega) hP hS (by rw [e1]; exact lv_sub hl [0, 1, 2] rfl)
            · refine lv_iconst (v := nI 1) hx hb dY2_begin_80 (by decide) ?_
              refine lv_goto (tgt := 85) hx hb dY2_begin_81 (by decide) ?_
              refine lv_istore_n (lv' := [(1, .int (nI (1))), (2, .int (nI (u + 1))), (0, .ref (ad 0))]) hx hb dY2_begin_85 rfl hl (by decide) rfl (fun ls hl => ?_)
              refine lv_iinc (v := nI (u + 1 + 1)) (lv' := [(2, .int (nI (u + 1 + 1))), (1, .int (nI (1))), (0, .ref (ad 0))]) hx hb dY2_begin_86 hl (k := 1) rfl (wi_inc _) (by decide) rfl (fun ls hl => ?_)
              refine lv_goto (tgt := 48) hx hb dY2_begin_89 (by decide) ?_
              have e1 : bN (ct_any (ct_cut σ n) (u + 1)) = 1 := by
                have q : ct_any (ct_cut σ n) (u + 1) = (ct_any (ct_cut σ n) u || ct_go (ct_cut σ n) (u + 1)) := rfl
                rw [q]
                first | (rw [bN_1 (show ¬ bN (ct_go (ct_cut σ n) (u + 1)) = 0 by omega)]; simp [bN]; done) | (rw [bN_1 (show ¬ bN (ct_any (ct_cut σ n) u) = 0 by omega)]; simp [bN]; done) | (rw [bN_0 (show bN (ct_go (ct_cut σ n) (u + 1)) = 0 by omega), bN_0 (show bN (ct_any (ct_cut σ n) u) = 0 by omega)]; rfl)
              exact ih (u + 1) _ _ _ (by omega) (by omega) hP hS (by rw [e1]; exact lv_sub hl [0, 1, 2] rfl)
      exact loop48 _ 0 _ _ _ rfl (by omega) (by rw [mR_0]; exact hP) hS (lv_sub hl [0, 1, 2] rfl)
    | succ f ih =>
      intro u H locs ls hf hj hP hS hl
      have hnX : (ct_cut σ u).1 0 0 = n := by rw [ct_cut_n]; exact hn
      have hvX : ct_Inv (ct_cut σ u) := ct_Inv_cut hv u (by omega)
      obtain ⟨_, _, _, _, _, _, _, _, _⟩ := hvX.2.1 (u + 1) (by omega) (by omega)
      refine lv_iload_n hx hb dY2_begin_2 rfl (lv_at hl 0 rfl) ?_
      refine lv_aload_n hx hb dY2_begin_3 rfl (lv_at hl 1 rfl) ?_
      refine wd_get (C := RX2) (T := TY2) (n := 17) (ci := ciM) (v := .int (nI ((ct_cut σ u).1 0 0))) hx hb hts (by decide +kernel) hown hK hP (0) (by omega) mW_0 rfl 1 (by decide) (hts (.fieldLink RX2 52 "CarThreadsModel" "nodes" "I") (by decide +kernel)) (fun _ h9 => h9) (by first | rfl | simp [cw_nd, cw_ob, mw_ob, ct_sg, ct_sl, tu]) dY2_begin_4 ?_
      refine wi_icmp_gt (tgt := 44) hx hb (by omega) (by omega) dY2_begin_7 (by decide) (fun z => absurd z (by omega)) (fun c7 => ?_)
      refine lv_aload_n hx hb dY2_begin_10 rfl (lv_at hl 1 rfl) ?_
      refine wd_get (C := RX2) (T := TY2) (n := 17) (ci := ciM) (v := .ref (ad 4)) hx hb hts (by decide +kernel) hown hK hP (0) (by omega) mW_0 rfl 5 (by decide) (hts (.fieldLink RX2 19 "CarThreadsModel" "ended" "[Z") (by decide +kernel)) (fun _ h9 => h9) (by first | rfl | simp [cw_nd, cw_ob, mw_ob, ct_sg, ct_sl, tu]) dY2_begin_11 ?_
      refine lv_iload_n hx hb dY2_begin_14 rfl (lv_at hl 0 rfl) ?_
      refine wd_zald hx hb hK hP (4) 1 (by omega) mW_4 rfl (u + 1) (by omega) (by omega) rfl dY2_begin_15 ?_
      refine wi_if_ne (tgt := 38) hx hb (by omega) dY2_begin_16 (by decide) (fun c16 => ?_) (fun c16 => ?_)
      · refine lv_iinc (v := nI (u + 1 + 1)) (lv' := [(1, .int (nI (u + 1 + 1))), (0, .ref (ad 0))]) hx hb dY2_begin_38 hl (k := 0) rfl (wi_inc _) (by decide) rfl (fun ls hl => ?_)
        refine lv_goto (tgt := 2) hx hb dY2_begin_41 (by decide) ?_
        have hE : ct_cut σ (u + 1) = ct_cut σ u := by
          show (if _ then _ else _) = _
          rw [if_neg (by rintro ⟨q1, q2⟩; first | omega | exact c16 (lg_cmp_0.mpr (by simpa using q2)))]
        exact ih (u + 1) _ _ _ (by omega) (by omega) (by rw [hE]; exact hP) hS (lv_sub hl [0, 1] rfl)
      · refine lv_aload_n hx hb dY2_begin_19 rfl (lv_at hl 1 rfl) ?_
        refine wd_get (C := RX2) (T := TY2) (n := 17) (ci := ciM) (v := .ref (ad 8)) hx hb hts (by decide +kernel) hown hK hP (0) (by omega) mW_0 rfl 9 (by decide) (hts (.fieldLink RX2 32 "CarThreadsModel" "cutAt" "[J") (by decide +kernel)) (fun _ h9 => h9) (by first | rfl | simp [cw_nd, cw_ob, mw_ob, ct_sg, ct_sl, tu]) dY2_begin_20 ?_
        refine lv_iload_n hx hb dY2_begin_23 rfl (lv_at hl 0 rfl) ?_
        refine wd_lald hx hb hK hP (8) 2 (by omega) mW_8 rfl (u + 1) (by omega) (by omega) rfl dY2_begin_24 ?_
        refine lv_aload_n hx hb dY2_begin_25 rfl (lv_at hl 1 rfl) ?_
        refine wd_get (C := RX2) (T := TY2) (n := 17) (ci := ciM) (v := .long ((ct_cut σ u).2.2 0)) hx hb hts (by decide +kernel) hown hK hP (0) (by omega) mW_0 rfl 14 (by decide) (hts (.fieldLink RX2 64 "CarThreadsModel" "now" "J") (by decide +kernel)) (fun _ h9 => h9) (by first | rfl | simp [cw_nd, cw_ob, mw_ob, ct_sg, ct_sl, tu]) dY2_begin_26 ?_
        refine W.lcmp hx hb dY2_begin_29 ?_
        refine lv_if_ne (tgt := 38) hx hb dY2_begin_30 (by decide) (fun c30 => ?_) (fun c30 => ?_)
        · refine lv_iinc (v := nI (u + 1 + 1)) (lv' := [(1, .int (nI (u + 1 + 1))), (0, .ref (ad 0))]) hx hb dY2_begin_38 hl (k := 0) rfl (wi_inc _) (by decide) rfl (fun ls hl => ?_)
          refine lv_goto (tgt := 2) hx hb dY2_begin_41 (by decide) ?_
          have hE : ct_cut σ (u + 1) = ct_cut σ u := by
            show (if _ then _ else _) = _
            rw [if_neg (by rintro ⟨q1, q2⟩; first | omega | exact c30 (lg_cmp_0.mpr (by simpa using q2)))]
          exact ih (u + 1) _ _ _ (by omega) (by omega) (by rw [hE]; exact hP) hS (lv_sub hl [0, 1] rfl)
        · refine lv_aload_n hx hb dY2_begin_33 rfl (lv_at hl 1 rfl) ?_
          refine lv_iload_n hx hb dY2_begin_34 rfl (lv_at hl 0 rfl) ?_
          refine wd_callv (va_runV (As := [.int (nI (u + 1))]) (rest := []) ⟨hx, hb, hml, hown, hts⟩ (m_end l (σ := ct_cut σ u) hI hvX.toW hnX (i := u + 1) (by omega) (by omega)) (cwV 1 hts gY2_begin_Y2_end rfl rfl rfl (by decide +kernel) ⟨Nat.le_of_ble_eq_true rfl, Nat.le_of_ble_eq_true rfl⟩) (wd_pre (q := (RX2, TY2, 17)) (ci := ciM) hK hP (by omega) rfl mW_0) rfl rfl hl.1 rfl (lv_room (Nat.le_of_ble_eq_true rfl)) dY2_begin_35 ⟨Nat.zero_le _, Nat.zero_le _⟩) hS (fun k h => wA_in h) (fun uv2 H locs ev2 hP hz hk hS => ?_)
          have hE : ct_cut σ (u + 1) = ct_end (ct_cut σ u) (u + 1) := by
            show (if _ then _ else _) = _
            rw [if_pos ⟨by omega, by have q := lg_cmp_0.mp c30; simpa using q⟩]
          rw [← hE] at hP
          refine lv_iinc (v := nI (u + 1 + 1)) (lv' := [(1, .int (nI (u + 1 + 1))), (0, .ref (ad 0))]) hx hb dY2_begin_38 hl (k := 0) rfl (wi_inc _) (by decide) rfl (fun ls hl => ?_)
          refine lv_goto (tgt := 2) hx hb dY2_begin_41 (by decide) ?_
          exact ih (u + 1) _ _ _ (by omega) (by omega) hP hS (lv_sub hl [0, 1] rfl)
  exact loop2 _ 0 _ _ _ rfl (by omega) hP hS (lv_sub hl [0, 1] rfl)
end P52
