section P50
abbrev rm_m_none : Room := { frames := 0, cells := 0, slots := 0, locals := 0 }
set_option maxHeartbeats 4000000 in
set_option maxRecDepth 100000 in
theorem m_none (l : Launch) {D : va_G} {cI cZ cJ : ClassId} {ad : Nat → Nat} {σ : St} {ρ : Nat → Nat} {cd : Int32} {n : Nat} (hI : adI ad 13) (hv : ct_Inv σ) (hn : σ.1 0 0 = n) (x : Int32) : Met l yY2_none wsY2_none rm_m_none (va_Pc [.ref (ad 0), .int (x)] (pC D wCl (tyM cI cZ cJ) ad (mW cI cZ cJ ad σ ρ cd) 13)) (qI (S := Unit) D wCl ad 13 (fun r _ => r = if ct_kn n x = 0 then nI 1 else nI 0) (fun _ => mW cI cZ cJ ad σ ρ (nI 0))) 0 0 (wA ad 13) := by
  refine Met.go (cc := cY2_none) (maxL := 2) (ret := (some .boolean)) (by decide) rfl (Nat.le_of_ble_eq_true rfl) ?_
  intro p e s m below meth c ls args Q ⟨hx, hb, hml, hown, hts⟩ hr hlocks hnm ⟨hP, hK⟩ hl hQ
  have hl : lv_has ls 2 [(0, .ref (ad 0)), (1, .int (x))] := hl
  have hS : va_S (wA ad 13) s.heap s.heap [] := va_S.rf
  have hn30 : n ≤ 30 := by have := hv.1.1; omega
  refine lv_aload_n hx hb dY2_none_0 rfl (lv_at hl 0 rfl) ?_
  refine lv_iconst (v := nI 0) hx hb dY2_none_1 (by decide) ?_
  refine wd_put (C := RX2) (T := TY2) (n := 17) (ci := ciM) (v := .int (nI (0))) (ty := .int) hx hb hts (by decide +kernel) tyY2 tyY2_ok nmY2 hown hK hP hI (fun k h => wA_in h) hS (0) (by omega) mW_0 rfl 0 (by decide) (hts (.fieldLink RX2 48 "CarThreadsModel" "code" "I") (by decide +kernel)) (fun _ h9 => h9) rfl (by decide +kernel) rfl rfl (Nat.le_of_ble_eq_true rfl) dY2_none_2 (fun H locs hP hS => ?_)
  have hP : va_P D wCl (wl ad (mW cI cZ cJ ad σ ρ (nI 0)) 13) H := um_ob hP (by simp [mw_ob, ct_sg, ct_sl]) (fun a ha => by funext x; simp [ct_sg, ct_sl, ha]) rfl (fun i hi => by simp [ct_sg, ct_sl, hi])
  refine lv_iload_n hx hb dY2_none_5 rfl (lv_at hl 1 rfl) ?_
  refine lv_iconst (v := nI 1) hx hb dY2_none_6 (by decide) ?_
  refine lv_icmp_lt (tgt := 18) hx hb dY2_none_7 (by decide) (fun c7 => ?_) (fun c7 => ?_)
  · refine lv_iconst (v := nI 1) hx hb dY2_none_18 (by decide) ?_
    refine lv_goto (tgt := 23) hx hb dY2_none_19 (by decide) ?_
    exact rt_z hQ hx hb hr hlocks () hP hS rfl (by rw [if_pos (ct_kn_lo c7)]) dY2_none_23
  · refine lv_iload_n hx hb dY2_none_10 rfl (lv_at hl 1 rfl) ?_
    refine lv_aload_n hx hb dY2_none_11 rfl (lv_at hl 0 rfl) ?_
    refine wd_get (C := RX2) (T := TY2) (n := 17) (ci := ciM) (v := .int (nI (σ.1 0 0))) hx hb hts (by decide +kernel) hown hK hP (0) (by omega) mW_0 rfl 1 (by decide) (hts (.fieldLink RX2 52 "CarThreadsModel" "nodes" "I") (by decide +kernel)) (fun _ h9 => h9) (by first | rfl | simp [cw_nd, cw_ob, mw_ob, ct_sg, ct_sl, tu]) dY2_none_12 ?_
    refine lv_icmp_le (tgt := 22) hx hb dY2_none_15 (by decide) (fun c15 => ?_) (fun c15 => ?_)
    · refine lv_iconst (v := nI 0) hx hb dY2_none_22 (by decide) ?_
      exact rt_z hQ hx hb hr hlocks () hP hS rfl (by rw [if_neg (ct_kn_in (by omega) c7 (by rw [← hn]; exact Int32.not_lt.mpr c15))]) dY2_none_23
    · refine lv_iconst (v := nI 1) hx hb dY2_none_18 (by decide) ?_
      refine lv_goto (tgt := 23) hx hb dY2_none_19 (by decide) ?_
      exact rt_z hQ hx hb hr hlocks () hP hS rfl (by rw [if_pos (ct_kn_hi (by omega) (by rw [← hn]; exact Int32.not_le.mp c15))]) dY2_none_23
abbrev rm_m_node : Room := { frames := 0, cells := 0, slots := 0, locals := 0 }
set_option maxHeartbeats 4000000 in
set_option maxRecDepth 100000 in
theorem m_node (l : Launch) {D : va_G} {cI cZ cJ : ClassId} {ad : Nat → Nat} {σ : St} {ρ : Nat → Nat} {cd : Int32} {n : Nat} (hI : adI ad 13) (hv : ct_Inv σ) (hn : σ.1 0 0 = n) (x y : Int32) : Met l yY2_node wsY2_node rm_m_node (va_Pc [.ref (ad 0), .int (x), .int (y)] (pC D wCl (tyM cI cZ cJ) ad (mW cI cZ cJ ad σ ρ cd) 13)) (qI (S := Unit) D wCl ad 13 (fun r _ => r = (f_node σ x y).1) (fun _ => mW cI cZ cJ ad (f_node σ x y).2 ρ (nI 0))) 0 0 (wA ad 13) := by
  refine Met.go (cc := cY2_node) (maxL := 3) (ret := (some .int)) (by decide) rfl (Nat.le_of_ble_eq_true rfl) ?_
  intro p e s m below meth c ls args Q ⟨hx, hb, hml, hown, hts⟩ hr hlocks hnm ⟨hP, hK⟩ hl hQ
  have hl : lv_has ls 3 [(0, .ref (ad 0)), (1, .int (x)), (2, .int (y))] := hl
  have hS : va_S (wA ad 13) s.heap s.heap [] := va_S.rf
  have hn30 : n ≤ 30 := by have := hv.1.1; omega
  refine lv_aload_n hx hb dY2_node_0 rfl (lv_at hl 0 rfl) ?_
  refine lv_iconst (v := nI 0) hx hb dY2_node_1 (by decide) ?_
  refine wd_put (C := RX2) (T := TY2) (n := 17) (ci := ciM) (v := .int (nI (0))) (ty := .int) hx hb hts (by decide +kernel) tyY2 tyY2_ok nmY2 hown hK hP hI (fun k h => wA_in h) hS (0) (by omega) mW_0 rfl 0 (by decide) (hts (.fieldLink RX2 48 "CarThreadsModel" "code" "I") (by decide +kernel)) (fun _ h9 => h9) rfl (by decide +kernel) rfl rfl (Nat.le_of_ble_eq_true rfl) dY2_node_2 (fun H locs hP hS => ?_)
  have hP : va_P D wCl (wl ad (mW cI cZ cJ ad σ ρ (nI 0)) 13) H := um_ob hP (by simp [mw_ob, ct_sg, ct_sl]) (fun a ha => by funext x; simp [ct_sg, ct_sl, ha]) rfl (fun i hi => by simp [ct_sg, ct_sl, hi])
  refine lv_iload_n hx hb dY2_node_5 rfl (lv_at hl 1 rfl) ?_
  refine lv_iconst (v := nI 1) hx hb dY2_node_6 (by decide) ?_
  refine lv_icmp_lt (tgt := 26) hx hb dY2_node_7 (by decide) (fun c7 => ?_) (fun c7 => ?_)
  · refine lv_bipush (v := (-2)) hx hb dY2_node_26 (by decide) ?_
    have hF : f_node σ x y = ((-2), σ) := by unfold f_node; rw [if_pos (show x < 1 ∨ 200 < x ∨ y < 0 ∨ x < y from Or.inl c7)]
    exact rt_i hQ hx hb hr hlocks () (by rw [hF]; exact hP) hS (by rw [hF] <;> rfl) dY2_node_28
  · refine lv_iload_n hx hb dY2_node_10 rfl (lv_at hl 1 rfl) ?_
    refine lv_sipush (v := nI 200) hx hb dY2_node_11 (by decide) ?_
    refine lv_icmp_gt (tgt := 26) hx hb dY2_node_14 (by decide) (fun c14 => ?_) (fun c14 => ?_)
    · refine lv_bipush (v := (-2)) hx hb dY2_node_26 (by decide) ?_
      have hF : f_node σ x y = ((-2), σ) := by unfold f_node; rw [if_pos (show x < 1 ∨ 200 < x ∨ y < 0 ∨ x < y from Or.inr (Or.inl c14))]
      exact rt_i hQ hx hb hr hlocks () (by rw [hF]; exact hP) hS (by rw [hF] <;> rfl) dY2_node_28
    · refine lv_iload_n hx hb dY2_node_17 rfl (lv_at hl 2 rfl) ?_
      refine lv_if_lt (tgt := 26) hx hb dY2_node_18 (by decide) (fun c18 => ?_) (fun c18 => ?_)
      · refine lv_bipush (v := (-2)) hx hb dY2_node_26 (by decide) ?_
        have hF : f_node σ x y = ((-2), σ) := by unfold f_node; rw [if_pos (show x < 1 ∨ 200 < x ∨ y < 0 ∨ x < y from Or.inr (Or.inr (Or.inl c18)))]
        exact rt_i hQ hx hb hr hlocks () (by rw [hF]; exact hP) hS (by rw [hF] <;> rfl) dY2_node_28
      · refine lv_iload_n hx hb dY2_node_21 rfl (lv_at hl 2 rfl) ?_
        refine lv_iload_n hx hb dY2_node_22 rfl (lv_at hl 1 rfl) ?_
        refine lv_icmp_le (tgt := 29) hx hb dY2_node_23 (by decide) (fun c23 => ?_) (fun c23 => ?_)
        · obtain ⟨a, rfl, ha1, ha2, ha3⟩ := ct_nat (x := x) (lo := 1) (hi := 200) (by omega) (by omega) c7 c14
          obtain ⟨b, rfl, hb1, hb2, hb3⟩ := ct_nat (x := y) (lo := 0) (hi := a) (by omega) (by omega) c18 (Int32.not_lt.mpr c23)
          refine lv_aload_n hx hb dY2_node_29 rfl (lv_at hl 0 rfl) ?_
          refine wd_get (C := RX2) (T := TY2) (n := 17) (ci := ciM) (v := .int (nI (σ.1 0 0))) hx hb hts (by decide +kernel) hown hK hP (0) (by omega) mW_0 rfl 1 (by decide) (hts (.fieldLink RX2 52 "CarThreadsModel" "nodes" "I") (by decide +kernel)) (fun _ h9 => h9) (by first | rfl | simp [cw_nd, cw_ob, mw_ob, ct_sg, ct_sl, tu]) dY2_node_30 ?_
          refine lv_bipush (v := nI 30) hx hb dY2_node_33 (by decide) ?_
          refine wi_icmp_ne (tgt := 41) hx hb (by omega) (by omega) dY2_node_35 (by decide) (fun c35 => ?_) (fun c35 => ?_)
          · refine lv_aload_n hx hb dY2_node_41 rfl (lv_at hl 0 rfl) ?_
            refine lv_dup hx hb dY2_node_42 rfl ?_
            refine wd_get (C := RX2) (T := TY2) (n := 17) (ci := ciM) (v := .int (nI (σ.1 0 0))) hx hb hts (by decide +kernel) hown hK hP (0) (by omega) mW_0 rfl 1 (by decide) (hts (.fieldLink RX2 52 "CarThreadsModel" "nodes" "I") (by decide +kernel)) (fun _ h9 => h9) (by first | rfl | simp [cw_nd, cw_ob, mw_ob, ct_sg, ct_sl, tu]) dY2_node_43 ?_
            refine lv_iconst (v := nI 1) hx hb dY2_node_46 (by decide) ?_
            refine wi_add hx hb dY2_node_47 ?_
            refine wd_put (C := RX2) (T := TY2) (n := 17) (ci := ciM) (v := .int (nI ((σ.1 0 0) + 1))) (ty := .int) hx hb hts (by decide +kernel) tyY2 tyY2_ok nmY2 hown hK hP hI (fun k h => wA_in h) hS (0) (by omega) mW_0 rfl 1 (by decide) (hts (.fieldLink RX2 52 "CarThreadsModel" "nodes" "I") (by decide +kernel)) (fun _ h9 => h9) rfl (by decide +kernel) rfl rfl (Nat.le_of_ble_eq_true rfl) dY2_node_48 (fun H locs hP hS => ?_)
            have hP : va_P D wCl (wl ad (mW cI cZ cJ ad (ct_sg σ 0 0 ((σ.1 0 0) + 1)) ρ (nI 0)) 13) H := um_ob hP (by simp [mw_ob, ct_sg, ct_sl]) (fun a ha => by funext x; simp [ct_sg, ct_sl, ha]) rfl (fun i hi => by simp [ct_sg, ct_sl, hi])
            refine lv_aload_n hx hb dY2_node_51 rfl (lv_at hl 0 rfl) ?_
            refine wd_get (C := RX2) (T := TY2) (n := 17) (ci := ciM) (v := .ref (ad 1)) hx hb hts (by decide +kernel) hown hK hP (0) (by omega) mW_0 rfl 2 (by decide) (hts (.fieldLink RX2 7 "CarThreadsModel" "steps" "[I") (by decide +kernel)) (fun _ h9 => h9) (by first | rfl | simp [cw_nd, cw_ob, mw_ob, ct_sg, ct_sl, tu]) dY2_node_52 ?_
            refine lv_aload_n hx hb dY2_node_55 rfl (lv_at hl 0 rfl) ?_
            refine wd_get (C := RX2) (T := TY2) (n := 17) (ci := ciM) (v := .int (nI ((σ.1 0 0) + 1))) hx hb hts (by decide +kernel) hown hK hP (0) (by omega) mW_0 rfl 1 (by decide) (hts (.fieldLink RX2 52 "CarThreadsModel" "nodes" "I") (by decide +kernel)) (fun _ h9 => h9) (by first | rfl | simp [cw_nd, cw_ob, mw_ob, ct_sg, ct_sl, tu]) dY2_node_56 ?_
            refine lv_iload_n hx hb dY2_node_59 rfl (lv_at hl 1 rfl) ?_
            refine wd_iast hx hb hK hP hI (fun k h => wA_in h) hS (1) 0 (by omega) mW_1 rfl ((σ.1 0 0) + 1) (by omega) (by omega) rfl dY2_node_60 (fun H locs hP hS => ?_)
            have hP : va_P D wCl (wl ad (mW cI cZ cJ ad (ct_sg (ct_sg σ 0 0 ((σ.1 0 0) + 1)) 1 ((σ.1 0 0) + 1) a) ρ (nI 0)) 13) H := um_at (by omega) (by omega) rfl hP
            refine lv_aload_n hx hb dY2_node_61 rfl (lv_at hl 0 rfl) ?_
            refine wd_get (C := RX2) (T := TY2) (n := 17) (ci := ciM) (v := .ref (ad 2)) hx hb hts (by decide +kernel) hown hK hP (0) (by omega) mW_0 rfl 3 (by decide) (hts (.fieldLink RX2 13 "CarThreadsModel" "failsAt" "[I") (by decide +kernel)) (fun _ h9 => h9) (by first | rfl | simp [cw_nd, cw_ob, mw_ob, ct_sg, ct_sl, tu]) dY2_node_62 ?_
            refine lv_aload_n hx hb dY2_node_65 rfl (lv_at hl 0 rfl) ?_
            refine wd_get (C := RX2) (T := TY2) (n := 17) (ci := ciM) (v := .int (nI ((σ.1 0 0) + 1))) hx hb hts (by decide +kernel) hown hK hP (0) (by omega) mW_0 rfl 1 (by decide) (hts (.fieldLink RX2 52 "CarThreadsModel" "nodes" "I") (by decide +kernel)) (fun _ h9 => h9) (by first | rfl | simp [cw_nd, cw_ob, mw_ob, ct_sg, ct_sl, tu]) dY2_node_66 ?_
            refine lv_iload_n hx hb dY2_node_69 rfl (lv_at hl 2 rfl) ?_
            refine wd_iast hx hb hK hP hI (fun k h => wA_in h) hS (2) 0 (by omega) mW_2 rfl ((σ.1 0 0) + 1) (by omega) (by omega) rfl dY2_node_70 (fun H locs hP hS => ?_)
            have hP : va_P D wCl (wl ad (mW cI cZ cJ ad (ct_sg (ct_sg (ct_sg σ 0 0 ((σ.1 0 0) + 1)) 1 ((σ.1 0 0) + 1) a) 2 ((σ.1 0 0) + 1) b) ρ (nI 0)) 13) H := um_at (by omega) (by omega) rfl hP
            refine lv_aload_n hx hb dY2_node_71 rfl (lv_at hl 0 rfl) ?_
            refine wd_get (C := RX2) (T := TY2) (n := 17) (ci := ciM) (v := .ref (ad 8)) hx hb hts (by decide +kernel) hown hK hP (0) (by omega) mW_0 rfl 9 (by decide) (hts (.fieldLink RX2 32 "CarThreadsModel" "cutAt" "[J") (by decide +kernel)) (fun _ h9 => h9) (by first | rfl | simp [cw_nd, cw_ob, mw_ob, ct_sg, ct_sl, tu]) dY2_node_72 ?_
            refine lv_aload_n hx hb dY2_node_75 rfl (lv_at hl 0 rfl) ?_
            refine wd_get (C := RX2) (T := TY2) (n := 17) (ci := ciM) (v := .int (nI ((σ.1 0 0) + 1))) hx hb hts (by decide +kernel) hown hK hP (0) (by omega) mW_0 rfl 1 (by decide) (hts (.fieldLink RX2 52 "CarThreadsModel" "nodes" "I") (by decide +kernel)) (fun _ h9 => h9) (by first | rfl | simp [cw_nd, cw_ob, mw_ob, ct_sg, ct_sl, tu]) dY2_node_76 ?_
            refine lv_ldc2 (v := (-1)) hx hb hown (hts (.constantLong RX2 55 (-1)) (by decide +kernel)) dY2_node_79 ?_
            refine wd_last hx hb hK hP hI (fun k h => wA_in h) hS (8) 2 (by omega) mW_8 rfl ((σ.1 0 0) + 1) (by omega) (by omega) rfl dY2_node_82 (fun H locs hP hS => ?_)
            have hP : va_P D wCl (wl ad (mW cI cZ cJ ad (ct_sl (ct_sg (ct_sg (ct_sg σ 0 0 ((σ.1 0 0) + 1)) 1 ((σ.1 0 0) + 1) a) 2 ((σ.1 0 0) + 1) b) ((σ.1 0 0) + 1) ((-1))) ρ (nI 0)) 13) H := um_8 (by omega) hP
            refine lv_aload_n hx hb dY2_node_83 rfl (lv_at hl 0 rfl) ?_
            refine wd_get (C := RX2) (T := TY2) (n := 17) (ci := ciM) (v := .int (nI ((σ.1 0 0) + 1))) hx hb hts (by decide +kernel) hown hK hP (0) (by omega) mW_0 rfl 1 (by decide) (hts (.fieldLink RX2 52 "CarThreadsModel" "nodes" "I") (by decide +kernel)) (fun _ h9 => h9) (by first | rfl | simp [cw_nd, cw_ob, mw_ob, ct_sg, ct_sl, tu]) dY2_node_84 ?_
            have hF : f_node σ (nI a) (nI b) = (nI (σ.1 0 0 + 1), (ct_sl (ct_sg (ct_sg (ct_sg σ 0 0 ((σ.1 0 0) + 1)) 1 ((σ.1 0 0) + 1) a) 2 ((σ.1 0 0) + 1) b) ((σ.1 0 0) + 1) ((-1)))) := by
              unfold f_node; rw [if_neg (fun q => by rcases q with q | q | q | q <;> first | exact c7 q | exact c14 q | exact c18 q | exact (Int32.not_lt.mpr c23) q), if_neg (by omega), ha3, hb3, ct_new_eq]
            exact rt_i hQ hx hb hr hlocks () (by rw [hF]; exact hP) hS (by rw [hF]) dY2_node_87
          · refine lv_bipush (v := (-4)) hx hb dY2_node_38 (by decide) ?_
            have hF : f_node σ (nI a) (nI b) = ((-4), σ) := by unfold f_node; rw [if_neg (fun q => by rcases q with q | q | q | q <;> first | exact c7 q | exact c14 q | exact c18 q | exact (Int32.not_lt.mpr c23) q), if_pos (by omega)]
            exact rt_i hQ hx hb hr hlocks () (by rw [hF]; exact hP) hS (by rw [hF] <;> rfl) dY2_node_40
        · refine lv_bipush (v := (-2)) hx hb dY2_node_26 (by decide) ?_
          have hF : f_node σ x y = ((-2), σ) := by unfold f_node; rw [if_pos (show x < 1 ∨ 200 < x ∨ y < 0 ∨ x < y from Or.inr (Or.inr (Or.inr (Int32.not_le.mp c23))))]
          exact rt_i hQ hx hb hr hlocks () (by rw [hF]; exact hP) hS (by rw [hF] <;> rfl) dY2_node_28
abbrev rm_m_waits : Room := { frames := 1, cells := 0, slots := 0, locals := 21 }
set_option maxHeartbeats 4000000 in
set_option maxRecDepth 100000 in
theorem m_waits (l : Launch) {D : va_G} {cI cZ cJ : ClassId} {ad : Nat → Nat} {σ : St} {ρ : Nat → Nat} {cd : Int32} {n : Nat} (hI : adI ad 13) (hv : ct_Inv σ) (hn : σ.1 0 0 = n) (x t y : Int32) : Met l yY2_waits wsY2_waits rm_m_waits (va_Pc [.ref (ad 0), .int (x), .int (t), .int (y)] (pC D wCl (tyM cI cZ cJ) ad (mW cI cZ cJ ad σ ρ cd) 13)) (qI (S := Unit) D wCl ad 13 (fun r _ => r = (f_waits σ x t y).1) (fun _ => mW cI cZ cJ ad (f_waits σ x t y).2 ρ (nI 0))) 0 0 (wA ad 13) := by
  refine Met.go (cc := cY2_waits) (maxL := 4) (ret := (some .boolean)) (by decide) rfl (Nat.le_of_ble_eq_true rfl) ?_
  intro p e s m below meth c ls args Q ⟨hx, hb, hml, hown, hts⟩ hr hlocks hnm ⟨hP, hK⟩ hl hQ
  have hl : lv_has ls 4 [(0, .ref (ad 0)), (1, .int (x)), (2, .int (t)), (3, .int (y))] := hl
  have hS : va_S (wA ad 13) s.heap s.heap [] := va_S.rf
  have hn30 : n ≤ 30 := by have := hv.1.1; omega
  refine lv_aload_n hx hb dY2_waits_0 rfl (lv_at hl 0 rfl) ?_
  refine lv_iload_n hx hb dY2_waits_1 rfl (lv_at hl 1 rfl) ?_
  refine wd_calli (va_runV (As := [.int (x)]) (rest := []) ⟨hx, hb, hml, hown, hts⟩ (m_none l hI hv hn x) (cwV 1 hts gY2_waits_Y2_none rfl rfl rfl (by decide +kernel) ⟨Nat.le_of_ble_eq_true rfl, Nat.le_of_ble_eq_true rfl⟩) (wd_pre (q := (RX2, TY2, 17)) (ci := ciM) hK hP (by omega) rfl mW_0) rfl rfl hl.1 rfl (lv_room (Nat.le_of_ble_eq_true rfl)) dY2_waits_2 ⟨Nat.zero_le _, Nat.zero_le _⟩) hS (fun k h => wA_in h) (fun r1 ur1 H locs er1 hP hz hk hS => ?_)
  by_cases hk_i2 : ct_kn n x = 0
  · have hki_i2 : ct_kn n x = 0 := hk_i2
    rw [if_pos hki_i2] at er1
    subst er1
    refine wi_if_ne (tgt := 50) hx hb (by omega) dY2_waits_5 (by decide) (fun z => ?_) (fun z => absurd z (by decide))
    refine lv_iconst (v := nI 0) hx hb dY2_waits_50 (by decide) ?_
    have hF : f_waits σ (x) (t) (y) = (0, σ) := by
      unfold f_waits; rw [hn, hki_i2, if_pos]
      first | exact Or.inl rfl | exact Or.inr (Or.inl rfl)
    exact rt_z hQ hx hb hr hlocks () (by rw [hF]; exact hP) hS rfl (by rw [hF] <;> rfl) dY2_waits_51
  · obtain ⟨i2, hi1_i2, hi2_i2, rfl⟩ : ∃ z, 1 ≤ z ∧ z ≤ n ∧ x = nI z := ⟨_, ct_kn_some (by omega) hk_i2⟩
    have hki_i2 : ct_kn n (nI i2) = i2 := ct_kn_nI (by omega) hi1_i2 hi2_i2
    have hki0_i2 : i2 ≠ 0 := by omega
    obtain ⟨_, _, _, _, _, _, _, _, _⟩ := hv.2.1 i2 hi1_i2 (by omega)
    rw [hki_i2, if_neg hki0_i2] at er1
    subst er1
    refine wi_if_ne (tgt := 50) hx hb (by omega) dY2_waits_5 (by decide) (fun z => absurd z (by decide)) (fun z => ?_)
    refine lv_aload_n hx hb dY2_waits_8 rfl (lv_at hl 0 rfl) ?_
    refine lv_iload_n hx hb dY2_waits_9 rfl (lv_at hl 3 rfl) ?_
    refine wd_calli (va_runV (As := [.int (y)]) (rest := []) ⟨hx, hb, hml, hown, hts⟩ (m_none l hI hv hn y) (cwV 1 hts gY2_waits_Y2_none rfl rfl rfl (by decide +kernel) ⟨Nat.le_of_ble_eq_true rfl, Nat.le_of_ble_eq_true rfl⟩) (wd_pre (q := (RX2, TY2, 17)) (ci := ciM) hK hP (by omega) rfl mW_0) rfl rfl hl.1 rfl (lv_room (Nat.le_of_ble_eq_true rfl)) dY2_waits_10 ⟨Nat.zero_le _, Nat.zero_le _⟩) hS (fun k h => wA_in h) (fun r3 ur3 H locs er3 hP hz hk hS => ?_)
    by_cases hk_i4 : ct_kn n y = 0
    · have hki_i4 : ct_kn n y = 0 := hk_i4
      rw [if_pos hki_i4] at er3
      subst er3
      refine wi_if_ne (tgt := 50) hx hb (by omega) dY2_waits_13 (by decide) (fun z => ?_) (fun z => absurd z (by decide))
      refine lv_iconst (v := nI 0) hx hb dY2_waits_50 (by decide) ?_
      have hF : f_waits σ (nI i2) (t) (y) = (0, σ) := by
        unfold f_waits; rw [hn, hki_i2, hki_i4, if_pos]
        first | exact Or.inl rfl | exact Or.inr (Or.inl rfl)
      exact rt_z hQ hx hb hr hlocks () (by rw [hF]; exact hP) hS rfl (by rw [hF] <;> rfl) dY2_waits_51
    · obtain ⟨i4, hi1_i4, hi2_i4, rfl⟩ : ∃ z, 1 ≤ z ∧ z ≤ n ∧ y = nI z := ⟨_, ct_kn_some (by omega) hk_i4⟩
      have hki_i4 : ct_kn n (nI i4) = i4 := ct_kn_nI (by omega) hi1_i4 hi2_i4
      have hki0_i4 : i4 ≠ 0 := by omega
      obtain ⟨_, _, _, _, _, _, _, _, _⟩ := hv.2.1 i4 hi1_i4 (by omega)
      rw [hki_i4, if_neg hki0_i4] at er3
      subst er3
      refine wi_if_ne (tgt := 50) hx hb (by omega) dY2_waits_13 (by decide) (fun z => absurd z (by decide)) (fun z => ?_)
      refine lv_iload_n hx hb dY2_waits_16 rfl (lv_at hl 1 rfl) ?_
      refine lv_iload_n hx hb dY2_waits_17 rfl (lv_at hl 3 rfl) ?_
      refine wi_icmp_eq (tgt := 50) hx hb (by omega) (by omega) dY2_waits_18 (by decide) (fun c18 => ?_) (fun c18 => ?_)
      · refine lv_iconst (v := nI 0) hx hb dY2_waits_50 (by decide) ?_
        have hF : f_waits σ (nI i2) (t) (nI i4) = (0, σ) := by
          unfold f_waits; rw [hn, hki_i2, hki_i4, if_pos]
          first | exact Or.inr (Or.inr (Or.inr (Or.inr (Or.inl c18)))) | exact Or.inr (Or.inr (Or.inr (Or.inr (Or.inr (Int32.not_le.mp c18))))) | omega
        exact rt_z hQ hx hb hr hlocks () (by rw [hF]; exact hP) hS rfl (by rw [hF] <;> rfl) dY2_waits_51
      · refine lv_aload_n hx hb dY2_waits_21 rfl (lv_at hl 0 rfl) ?_
        refine wd_get (C := RX2) (T := TY2) (n := 17) (ci := ciM) (v := .ref (ad 4)) hx hb hts (by decide +kernel) hown hK hP (0) (by omega) mW_0 rfl 5 (by decide) (hts (.fieldLink RX2 19 "CarThreadsModel" "ended" "[Z") (by decide +kernel)) (fun _ h9 => h9) (by first | rfl | simp [cw_nd, cw_ob, mw_ob, ct_sg, ct_sl, tu]) dY2_waits_22 ?_
        refine lv_iload_n hx hb dY2_waits_25 rfl (lv_at hl 1 rfl) ?_
        refine wd_zald hx hb hK hP (4) 1 (by omega) mW_4 rfl (i2) (by omega) (by omega) rfl dY2_waits_26 ?_
        refine wi_if_ne (tgt := 50) hx hb (by omega) dY2_waits_27 (by decide) (fun c27 => ?_) (fun c27 => ?_)
        · refine lv_iconst (v := nI 0) hx hb dY2_waits_50 (by decide) ?_
          have hF : f_waits σ (nI i2) (t) (nI i4) = (0, σ) := by
            unfold f_waits; rw [hn, hki_i2, hki_i4, if_pos]
            first | exact Or.inr (Or.inr (Or.inr (Or.inr (Or.inl c27)))) | exact Or.inr (Or.inr (Or.inr (Or.inr (Or.inr (Int32.not_le.mp c27))))) | omega
          exact rt_z hQ hx hb hr hlocks () (by rw [hF]; exact hP) hS rfl (by rw [hF] <;> rfl) dY2_waits_51
        · refine lv_iload_n hx hb dY2_waits_30 rfl (lv_at hl 2 rfl) ?_
          refine lv_aload_n hx hb dY2_waits_31 rfl (lv_at hl 0 rfl) ?_
          refine wd_get (C := RX2) (T := TY2) (n := 17) (ci := ciM) (v := .ref (ad 3)) hx hb hts (by decide +kernel) hown hK hP (0) (by omega) mW_0 rfl 4 (by decide) (hts (.fieldLink RX2 16 "CarThreadsModel" "done" "[I") (by decide +kernel)) (fun _ h9 => h9) (by first | rfl | simp [cw_nd, cw_ob, mw_ob, ct_sg, ct_sl, tu]) dY2_waits_32 ?_
          refine lv_iload_n hx hb dY2_waits_35 rfl (lv_at hl 1 rfl) ?_
          refine wd_iald hx hb hK hP (3) 0 (by omega) mW_3 rfl (i2) (by omega) (by omega) rfl dY2_waits_36 ?_
          refine lv_icmp_le (tgt := 50) hx hb dY2_waits_37 (by decide) (fun c37 => ?_) (fun c37 => ?_)
          · refine lv_iconst (v := nI 0) hx hb dY2_waits_50 (by decide) ?_
            have hF : f_waits σ (nI i2) (t) (nI i4) = (0, σ) := by
              unfold f_waits; rw [hn, hki_i2, hki_i4, if_pos]
              first | exact Or.inr (Or.inr (Or.inr (Or.inr (Or.inl c37)))) | exact Or.inr (Or.inr (Or.inr (Or.inr (Or.inr (Int32.not_le.mp c37))))) | omega
            exact rt_z hQ hx hb hr hlocks () (by rw [hF]; exact hP) hS rfl (by rw [hF] <;> rfl) dY2_waits_51
          · refine lv_iload_n hx hb dY2_waits_40 rfl (lv_at hl 2 rfl) ?_
            refine lv_aload_n hx hb dY2_waits_41 rfl (lv_at hl 0 rfl) ?_
            refine wd_get (C := RX2) (T := TY2) (n := 17) (ci := ciM) (v := .ref (ad 1)) hx hb hts (by decide +kernel) hown hK hP (0) (by omega) mW_0 rfl 2 (by decide) (hts (.fieldLink RX2 7 "CarThreadsModel" "steps" "[I") (by decide +kernel)) (fun _ h9 => h9) (by first | rfl | simp [cw_nd, cw_ob, mw_ob, ct_sg, ct_sl, tu]) dY2_waits_42 ?_
            refine lv_iload_n hx hb dY2_waits_45 rfl (lv_at hl 1 rfl) ?_
            refine wd_iald hx hb hK hP (1) 0 (by omega) mW_1 rfl (i2) (by omega) (by omega) rfl dY2_waits_46 ?_
            refine lv_icmp_le (tgt := 52) hx hb dY2_waits_47 (by decide) (fun c47 => ?_) (fun c47 => ?_)
            · obtain ⟨j, rfl, hj1, hj2, hj3⟩ := ct_nat (x := t) (lo := σ.1 3 i2) (hi := σ.1 1 i2) (by omega) (by omega) (fun z => c37 (Int32.le_of_lt z)) (Int32.not_lt.mpr c47)
              refine lv_aload_n hx hb dY2_waits_52 rfl (lv_at hl 0 rfl) ?_
              refine wd_get (C := RX2) (T := TY2) (n := 17) (ci := ciM) (v := .ref (ad 10)) hx hb hts (by decide +kernel) hown hK hP (0) (by omega) mW_0 rfl 11 (by decide) (hts (.fieldLink RX2 39 "CarThreadsModel" "waits" "[I") (by decide +kernel)) (fun _ h9 => h9) (by first | rfl | simp [cw_nd, cw_ob, mw_ob, ct_sg, ct_sl, tu]) dY2_waits_53 ?_
              refine lv_sipush (v := nI 201) hx hb dY2_waits_56 (by decide) ?_
              refine lv_iload_n hx hb dY2_waits_59 rfl (lv_at hl 1 rfl) ?_
              refine wi_mul hx hb dY2_waits_60 ?_
              refine lv_iload_n hx hb dY2_waits_61 rfl (lv_at hl 2 rfl) ?_
              refine wi_add hx hb dY2_waits_62 ?_
              refine lv_iload_n hx hb dY2_waits_63 rfl (lv_at hl 3 rfl) ?_
              refine wd_iast hx hb hK hP hI (fun k h => wA_in h) hS (10) 0 (by omega) mW_10 rfl ((201 * i2) + j) (by omega) (by omega) rfl dY2_waits_64 (fun H locs hP hS => ?_)
              have hP : va_P D wCl (wl ad (mW cI cZ cJ ad (ct_sw σ i2 j i4) ρ (nI 0)) 13) H := um_10 (by omega) hP
              refine lv_iconst (v := nI 1) hx hb dY2_waits_65 (by decide) ?_
              have hF : f_waits σ (nI i2) (nI j) (nI i4) = (1, (ct_sw σ i2 j i4)) := by
                unfold f_waits; rw [hn, hki_i2, hki_i4, hj3, if_neg]; intro q; rcases q with q | q | q | q | q | q <;> first | omega | exact c37 q | exact (Int32.not_lt.mpr c47) q
              exact rt_z hQ hx hb hr hlocks () (by rw [hF]; exact hP) hS rfl (by rw [hF] <;> rfl) dY2_waits_66
            · refine lv_iconst (v := nI 0) hx hb dY2_waits_50 (by decide) ?_
              have hF : f_waits σ (nI i2) (t) (nI i4) = (0, σ) := by
                unfold f_waits; rw [hn, hki_i2, hki_i4, if_pos]
                first | exact Or.inr (Or.inr (Or.inr (Or.inr (Or.inl c47)))) | exact Or.inr (Or.inr (Or.inr (Or.inr (Or.inr (Int32.not_le.mp c47))))) | omega
              exact rt_z hQ hx hb hr hlocks () (by rw [hF]; exact hP) hS rfl (by rw [hF] <;> rfl) dY2_waits_51
abbrev rm_m_turn : Room := { frames := 0, cells := 0, slots := 0, locals := 0 }
set_option maxHeartbeats 4000000 in
set_option maxRecDepth 100000 in
theorem m_turn (l : Launch) {D : va_G} {cI cZ cJ : ClassId} {ad : Nat → Nat} {σ : St} {ρ : Nat → Nat} {cd : Int32} {n : Nat} (hI : adI ad 13) (hv : ct_Inv σ) (hn : σ.1 0 0 = n) (x : Int32) : Met l yY2_turn wsY2_turn rm_m_turn (va_Pc [.ref (ad 0), .int (x)] (pC D wCl (tyM cI cZ cJ) ad (mW cI cZ cJ ad σ ρ cd) 13)) (qV (S := Unit) D wCl ad 13 (fun _ => True) (fun _ => mW cI cZ cJ ad σ ρ (nI 0))) 0 0 (wA ad 13) := by
  refine Met.go (cc := cY2_turn) (maxL := 2) (ret := none) (by decide) rfl (Nat.le_of_ble_eq_true rfl) ?_
  intro p e s m below meth c ls args Q ⟨hx, hb, hml, hown, hts⟩ hr hlocks hnm ⟨hP, hK⟩ hl hQ
  have hl : lv_has ls 2 [(0, .ref (ad 0)), (1, .int (x))] := hl
  have hS : va_S (wA ad 13) s.heap s.heap [] := va_S.rf
  have hn30 : n ≤ 30 := by have := hv.1.1; omega
  refine lv_aload_n hx hb dY2_turn_0 rfl (lv_at hl 0 rfl) ?_
  refine lv_iconst (v := nI 0) hx hb dY2_turn_1 (by decide) ?_
  refine wd_put (C := RX2) (T := TY2) (n := 17) (ci := ciM) (v := .int (nI (0))) (ty := .int) hx hb hts (by decide +kernel) tyY2 tyY2_ok nmY2 hown hK hP hI (fun k h => wA_in h) hS (0) (by omega) mW_0 rfl 0 (by decide) (hts (.fieldLink RX2 48 "CarThreadsModel" "code" "I") (by decide +kernel)) (fun _ h9 => h9) rfl (by decide +kernel) rfl rfl (Nat.le_of_ble_eq_true rfl) dY2_turn_2 (fun H locs hP hS => ?_)
  have hP : va_P D wCl (wl ad (mW cI cZ cJ ad σ ρ (nI 0)) 13) H := um_ob hP (by simp [mw_ob, ct_sg, ct_sl]) (fun a ha => by funext x; simp [ct_sg, ct_sl, ha]) rfl (fun i hi => by simp [ct_sg, ct_sl, hi])
  exact rt_v hQ hx hb hr hlocks () hP hS trivial dY2_turn_5
abbrev rm_m_end : Room := { frames := 0, cells := 0, slots := 0, locals := 0 }
set_option maxHeartbeats 4000000 in
set_option maxRecDepth 100000 in
theorem m_end (l : Launch) {D : va_G} {cI cZ cJ : ClassId} {ad : Nat → Nat} {σ : St} {ρ : Nat → Nat} {cd : Int32} {n : Nat} (hI : adI ad 13) (hv : ct_W σ) (hn : σ.1 0 0 = n) {i : Nat} (h1 : 1 ≤ i) (h2 : i ≤ n) : Met l yY2_end wsY2_end rm_m_end (va_Pc [.ref (ad 0), .int (nI (i))] (pC D wCl (tyM cI cZ cJ) ad (mW cI cZ cJ ad σ ρ cd) 13)) (qV (S := Unit) D wCl ad 13 (fun _ => True) (fun _ => mW cI cZ cJ ad (ct_end σ i) ρ cd)) 0 0 (wA ad 13) := by
  refine Met.go (cc := cY2_end) (maxL := 3) (ret := none) (by decide) rfl (Nat.le_of_ble_eq_true rfl) ?_
  intro p e s m below meth c ls args Q ⟨hx, hb, hml, hown, hts⟩ hr hlocks hnm ⟨hP, hK⟩ hl hQ
  have hl : lv_has ls 3 [(0, .ref (ad 0)), (1, .int (nI (i)))] := hl
  have hS : va_S (wA ad 13) s.heap s.heap [] := va_S.rf
  have hn30 : n ≤ 30 := by have := hv.1; omega
  refine lv_aload_n hx hb dY2_end_0 rfl (lv_at hl 0 rfl) ?_
  refine wd_get (C := RX2) (T := TY2) (n := 17) (ci := ciM) (v := .ref (ad 4)) hx hb hts (by decide +kernel) hown hK hP (0) (by omega) mW_0 rfl 5 (by decide) (hts (.fieldLink RX2 19 "CarThreadsModel" "ended" "[Z") (by decide +kernel)) (fun _ h9 => h9) (by first | rfl | simp [cw_nd, cw_ob, mw_ob, ct_sg, ct_sl, tu]) dY2_end_1 ?_
  refine lv_iload_n hx hb dY2_end_4 rfl (lv_at hl 1 rfl) ?_
  refine lv_iconst (v := nI 1) hx hb dY2_end_5 (by decide) ?_
  refine wd_zast hx hb hK hP hI (fun k h => wA_in h) hS (4) 1 (by omega) mW_4 rfl (i) (by omega) (by omega) (wi_nar2 (by omega)) rfl dY2_end_6 (fun H locs hP hS => ?_)
  have hP : va_P D wCl (wl ad (mW cI cZ cJ ad (ct_sg σ 4 i 1) ρ cd) 13) H := um_at (by omega) (by omega) rfl hP
  refine lv_aload_n hx hb dY2_end_7 rfl (lv_at hl 0 rfl) ?_
  refine wd_get (C := RX2) (T := TY2) (n := 17) (ci := ciM) (v := .ref (ad 7)) hx hb hts (by decide +kernel) hown hK hP (0) (by omega) mW_0 rfl 8 (by decide) (hts (.fieldLink RX2 29 "CarThreadsModel" "finished" "[I") (by decide +kernel)) (fun _ h9 => h9) (by first | rfl | simp [cw_nd, cw_ob, mw_ob, ct_sg, ct_sl, tu]) dY2_end_8 ?_
  refine lv_iload_n hx hb dY2_end_11 rfl (lv_at hl 1 rfl) ?_
  refine lv_dup2_11 hx hb dY2_end_12 rfl rfl ?_
  refine wd_iald hx hb hK hP (7) 0 (by omega) mW_7 rfl (i) (by omega) (by omega) rfl dY2_end_13 ?_
  rw [show (ct_sg σ 4 i 1).1 7 i = σ.1 7 i from by first | rfl | simp [ct_sg]]
  refine lv_iconst (v := nI 1) hx hb dY2_end_14 (by decide) ?_
  refine wi_add hx hb dY2_end_15 ?_
  refine wd_iast hx hb hK hP hI (fun k h => wA_in h) hS (7) 0 (by omega) mW_7 rfl (i) (by omega) (by omega) rfl dY2_end_16 (fun H locs hP hS => ?_)
  have hP : va_P D wCl (wl ad (mW cI cZ cJ ad (ct_sg (ct_sg σ 4 i 1) 7 i ((σ.1 7 i) + 1)) ρ cd) 13) H := um_at (by omega) (by omega) rfl hP
  refine lv_iconst (v := nI 1) hx hb dY2_end_17 (by decide) ?_
  refine lv_istore_n (lv' := [(2, .int (nI (1))), (0, .ref (ad 0)), (1, .int (nI (i)))]) hx hb dY2_end_18 rfl hl (by decide) rfl (fun ls hl => ?_)
  have loop19 : ∀ (f u : Nat) (H : Heap) (locs : List Loc) (ls : Array Slot), 16 - u = f → u ≤ 16 → va_P D wCl (wl ad (mW cI cZ cJ ad (ct_fr (ct_sg (ct_sg σ 4 i 1) 7 i (σ.1 7 i + 1)) i u) ρ cd) 13) H → va_S (wA ad 13) s.heap H locs → lv_has ls 3 [(2, .int (nI (u + 1))), (0, .ref (ad 0)), (1, .int (nI (i)))] → W p l e rm_m_end s m args below meth c H locs 0 0 Q (F0 m 19 ls []) := by
    intro f
    induction f with
    | zero =>
      intro u H locs ls hf hj hP hS hl
      obtain rfl : u = 16 := by omega
      refine lv_iload_n hx hb dY2_end_19 rfl (lv_at hl 0 rfl) ?_
      refine lv_bipush (v := nI 17) hx hb dY2_end_20 (by decide) ?_
      refine wi_icmp_ge (tgt := 57) hx hb (by omega) (by omega) dY2_end_22 (by decide) (fun c22 => ?_) (fun z => absurd z (by omega))
      exact rt_v hQ hx hb hr hlocks () (by rw [← fr_end2 hv.2.2.2 h1]; exact hP) hS trivial dY2_end_57
    | succ f ih =>
      intro u H locs ls hf hj hP hS hl
      have hd9 := hv.2.2.1 (u + 1)
      have hd8 : (ct_fr (ct_sg (ct_sg σ 4 i 1) 7 i (σ.1 7 i + 1)) i u).1 9 (u + 1) = σ.1 9 (u + 1) := by rw [ct_fr_at]; rfl
      refine lv_iload_n hx hb dY2_end_19 rfl (lv_at hl 0 rfl) ?_
      refine lv_bipush (v := nI 17) hx hb dY2_end_20 (by decide) ?_
      refine wi_icmp_ge (tgt := 57) hx hb (by omega) (by omega) dY2_end_22 (by decide) (fun z => absurd z (by omega)) (fun c22 => ?_)
      refine lv_aload_n hx hb dY2_end_25 rfl (lv_at hl 1 rfl) ?_
      refine wd_get (C := RX2) (T := TY2) (n := 17) (ci := ciM) (v := .ref (ad 11)) hx hb hts (by decide +kernel) hown hK hP (0) (by omega) mW_0 rfl 12 (by decide) (hts (.fieldLink RX2 42 "CarThreadsModel" "holder" "[I") (by decide +kernel)) (fun _ h9 => h9) (by first | rfl | simp [cw_nd, cw_ob, mw_ob, ct_sg, ct_sl, tu]) dY2_end_26 ?_
      refine lv_iload_n hx hb dY2_end_29 rfl (lv_at hl 0 rfl) ?_
      refine lv_aload_n hx hb dY2_end_30 rfl (lv_at hl 1 rfl) ?_
      refine wd_get (C := RX2) (T := TY2) (n := 17) (ci := ciM) (v := .ref (ad 11)) hx hb hts (by decide +kernel) hown hK hP (0) (by omega) mW_0 rfl 12 (by decide) (hts (.fieldLink RX2 42 "CarThreadsModel" "holder" "[I") (by decide +kernel)) (fun _ h9 => h9) (by first | rfl | simp [cw_nd, cw_ob, mw_ob, ct_sg, ct_sl, tu]) dY2_end_31 ?_
      refine lv_iload_n hx hb dY2_end_34 rfl (lv_at hl 0 rfl) ?_
      refine wd_iald hx hb hK hP (11) 0 (by omega) mW_11 rfl (u + 1) (by omega) (by omega) rfl dY2_end_35 ?_
      refine lv_iload_n hx hb dY2_end_36 rfl (lv_at hl 2 rfl) ?_
      refine wi_icmp_ne (tgt := 44) hx hb (by omega) (by omega) dY2_end_37 (by decide) (fun c37 => ?_) (fun c37 => ?_)
      · refine lv_aload_n hx hb dY2_end_44 rfl (lv_at hl 1 rfl) ?_
        refine wd_get (C := RX2) (T := TY2) (n := 17) (ci := ciM) (v := .ref (ad 11)) hx hb hts (by decide +kernel) hown hK hP (0) (by omega) mW_0 rfl 12 (by decide) (hts (.fieldLink RX2 42 "CarThreadsModel" "holder" "[I") (by decide +kernel)) (fun _ h9 => h9) (by first | rfl | simp [cw_nd, cw_ob, mw_ob, ct_sg, ct_sl, tu]) dY2_end_45 ?_
        refine lv_iload_n hx hb dY2_end_48 rfl (lv_at hl 0 rfl) ?_
        refine wd_iald hx hb hK hP (11) 0 (by omega) mW_11 rfl (u + 1) (by omega) (by omega) rfl dY2_end_49 ?_
        refine wd_iast hx hb hK hP hI (fun k h => wA_in h) hS (11) 0 (by omega) mW_11 rfl (u + 1) (by omega) (by omega) rfl dY2_end_50 (fun H locs hP hS => ?_)
        have hP : va_P D wCl (wl ad (mW cI cZ cJ ad (ct_sg (ct_fr (ct_sg (ct_sg σ 4 i 1) 7 i (σ.1 7 i + 1)) i u) 9 (u + 1) ((ct_fr (ct_sg (ct_sg σ 4 i 1) 7 i (σ.1 7 i + 1)) i u).1 9 (u + 1))) ρ cd) 13) H := um_11 hP
        rw [fr_put0 (by rw [← ct_fr_at (i := i)]; omega)] at hP
        refine lv_iinc (v := nI (u + 1 + 1)) (lv' := [(2, .int (nI (u + 1 + 1))), (0, .ref (ad 0)), (1, .int (nI (i)))]) hx hb dY2_end_51 hl (k := 0) rfl (wi_inc _) (by decide) rfl (fun ls hl => ?_)
        refine lv_goto (tgt := 19) hx hb dY2_end_54 (by decide) ?_
        exact ih (u + 1) _ _ _ (by omega) (by omega) hP hS (lv_sub hl [0, 1, 2] rfl)
      · refine lv_iconst (v := nI 0) hx hb dY2_end_40 (by decide) ?_
        refine lv_goto (tgt := 50) hx hb dY2_end_41 (by decide) ?_
        refine wd_iast hx hb hK hP hI (fun k h => wA_in h) hS (11) 0 (by omega) mW_11 rfl (u + 1) (by omega) (by omega) rfl dY2_end_50 (fun H locs hP hS => ?_)
        have hP : va_P D wCl (wl ad (mW cI cZ cJ ad (ct_sg (ct_fr (ct_sg (ct_sg σ 4 i 1) 7 i (σ.1 7 i + 1)) i u) 9 (u + 1) 0) ρ cd) 13) H := um_11 hP
        rw [fr_put1 (by rw [← ct_fr_at]; omega)] at hP
        refine lv_iinc (v := nI (u + 1 + 1)) (lv' := [(2, .int (nI (u + 1 + 1))), (0, .ref (ad 0)), (1, .int (nI (i)))]) hx hb dY2_end_51 hl (k := 0) rfl (wi_inc _) (by decide) rfl (fun ls hl => ?_)
        refine lv_goto (tgt := 19) hx hb dY2_end_54 (by decide) ?_
        exact ih (u + 1) _ _ _ (by omega) (by omega) hP hS (lv_sub hl [0, 1, 2] rfl)
  exact loop19 _ 0 _ _ _ rfl (by omega) (by rw [ct_fr_0]; exact hP) hS (lv_sub hl [0, 1, 2] rfl)
abbrev rm_m_holds : Room := { frames := 0, cells := 0, slots := 0, locals := 0 }
set_option maxHeartbeats 4000000 in
set_option maxRecDepth 100000 in
theorem m_holds (l : Launch) {D : va_G} {cI cZ cJ : ClassId} {ad : Nat → Nat} {σ : St} {ρ : Nat → Nat} {cd : Int32} {n : Nat} (hI : adI ad 13) (hv : ct_Inv σ) (hn : σ.1 0 0 = n) {i : Nat} (h1 : 1 ≤ i) (h2 : i ≤ n) : Met l yY2_holds wsY2_holds rm_m_holds (va_Pc [.ref (ad 0), .int (nI (i))] (pC D wCl (tyM cI cZ cJ) ad (mW cI cZ cJ ad σ ρ cd) 13)) (vp_Si (fun r => r = nI (ct_cnt σ i 16))) 0 0 (fun _ => False) := by
  refine Met.go (cc := cY2_holds) (maxL := 4) (ret := (some .int)) (by decide) rfl (Nat.le_of_ble_eq_true rfl) ?_
  intro p e s m below meth c ls args Q ⟨hx, hb, hml, hown, hts⟩ hr hlocks hnm ⟨hP, hK⟩ hl hQ
  have hl : lv_has ls 4 [(0, .ref (ad 0)), (1, .int (nI (i)))] := hl
  have hn30 : n ≤ 30 := by have := hv.1.1; omega
  refine lv_iconst (v := nI 0) hx hb dY2_holds_0 (by decide) ?_
  refine lv_istore_n (lv' := [(2, .int (nI (0))), (0, .ref (ad 0)), (1, .int (nI (i)))]) hx hb dY2_holds_1 rfl hl (by decide) rfl (fun ls hl => ?_)
  refine lv_iconst (v := nI 1) hx hb dY2_holds_2 (by decide) ?_
  refine lv_istore_n (lv' := [(3, .int (nI (1))), (2, .int (nI (0))), (0, .ref (ad 0)), (1, .int (nI (i)))]) hx hb dY2_holds_3 rfl hl (by decide) rfl (fun ls hl => ?_)
  have loop4 : ∀ (f u : Nat) (ls : Array Slot), 16 - u = f → u ≤ 16 → lv_has ls 4 [(3, .int (nI (u + 1))), (2, .int (nI (ct_cnt σ i u))), (0, .ref (ad 0)), (1, .int (nI (i)))] → W p l e rm_m_holds s m args below meth c s.heap [] 0 0 Q (F0 m 4 ls []) := by
    intro f
    induction f with
    | zero =>
      intro u ls hf hj hl
      refine lv_iload_n hx hb dY2_holds_4 rfl (lv_at hl 0 rfl) ?_
      refine lv_bipush (v := nI 17) hx hb dY2_holds_5 (by decide) ?_
      refine wi_icmp_ge (tgt := 34) hx hb (by omega) (by omega) dY2_holds_7 (by decide) (fun c7 => ?_) (fun z => absurd z (by omega))
      refine lv_iload_n hx hb dY2_holds_34 rfl (lv_at hl 1 rfl) ?_
      exact ro_i hQ hx hb hr hlocks (by rw [show u = 16 by omega]) dY2_holds_35
    | succ f ih =>
      intro u ls hf hj hl
      have hd9 := hv.2.2.2.1 (u + 1)
      refine lv_iload_n hx hb dY2_holds_4 rfl (lv_at hl 0 rfl) ?_
      refine lv_bipush (v := nI 17) hx hb dY2_holds_5 (by decide) ?_
      refine wi_icmp_ge (tgt := 34) hx hb (by omega) (by omega) dY2_holds_7 (by decide) (fun z => absurd z (by omega)) (fun c7 => ?_)
      refine lv_aload_n hx hb dY2_holds_10 rfl (lv_at hl 2 rfl) ?_
      refine wd_get (C := RX2) (T := TY2) (n := 17) (ci := ciM) (v := .ref (ad 11)) hx hb hts (by decide +kernel) hown hK hP (0) (by omega) mW_0 rfl 12 (by decide) (hts (.fieldLink RX2 42 "CarThreadsModel" "holder" "[I") (by decide +kernel)) (fun _ h9 => h9) (by first | rfl | simp [cw_nd, cw_ob, mw_ob, ct_sg, ct_sl, tu]) dY2_holds_11 ?_
      refine lv_iload_n hx hb dY2_holds_14 rfl (lv_at hl 0 rfl) ?_
      refine wd_iald hx hb hK hP (11) 0 (by omega) mW_11 rfl (u + 1) (by omega) (by omega) rfl dY2_holds_15 ?_
      refine lv_iload_n hx hb dY2_holds_16 rfl (lv_at hl 3 rfl) ?_
      refine wi_icmp_ne (tgt := 26) hx hb (by omega) (by omega) dY2_holds_17 (by decide) (fun c17 => ?_) (fun c17 => ?_)
      · refine lv_iload_n hx hb dY2_holds_26 rfl (lv_at hl 1 rfl) ?_
        refine lv_istore_n (lv' := [(2, .int (nI (ct_cnt σ i u))), (3, .int (nI (u + 1))), (0, .ref (ad 0)), (1, .int (nI (i)))]) hx hb dY2_holds_27 rfl hl (by decide) rfl (fun ls hl => ?_)
        refine lv_iinc (v := nI (u + 1 + 1)) (lv' := [(3, .int (nI (u + 1 + 1))), (2, .int (nI (ct_cnt σ i u))), (0, .ref (ad 0)), (1, .int (nI (i)))]) hx hb dY2_holds_28 hl (k := 1) rfl (wi_inc _) (by decide) rfl (fun ls hl => ?_)
        refine lv_goto (tgt := 4) hx hb dY2_holds_31 (by decide) ?_
        have e1 : ct_cnt σ i (u + 1) = ct_cnt σ i u := by
          show (if σ.1 9 (u + 1) = i then _ else _) = _
          rw [if_neg (by omega)]
        exact ih (u + 1) _ (by omega) (by omega) (by rw [e1]; exact lv_sub hl [0, 1, 2, 3] rfl)
      · refine lv_iload_n hx hb dY2_holds_20 rfl (lv_at hl 1 rfl) ?_
        refine lv_iconst (v := nI 1) hx hb dY2_holds_21 (by decide) ?_
        refine wi_add hx hb dY2_holds_22 ?_
        refine lv_goto (tgt := 27) hx hb dY2_holds_23 (by decide) ?_
        refine lv_istore_n (lv' := [(2, .int (nI ((ct_cnt σ i u) + 1))), (3, .int (nI (u + 1))), (0, .ref (ad 0)), (1, .int (nI (i)))]) hx hb dY2_holds_27 rfl hl (by decide) rfl (fun ls hl => ?_)
        refine lv_iinc (v := nI (u + 1 + 1)) (lv' := [(3, .int (nI (u + 1 + 1))), (2, .int (nI ((ct_cnt σ i u) + 1))), (0, .ref (ad 0)), (1, .int (nI (i)))]) hx hb dY2_holds_28 hl (k := 1) rfl (wi_inc _) (by decide) rfl (fun ls hl => ?_)
        refine lv_goto (tgt := 4) hx hb dY2_holds_31 (by decide) ?_
        have e1 : ct_cnt σ i (u + 1) = (ct_cnt σ i u) + 1 := by
          show (if σ.1 9 (u + 1) = i then _ else _) = _
          rw [if_pos (by omega)]
        exact ih (u + 1) _ (by omega) (by omega) (by rw [e1]; exact lv_sub hl [0, 1, 2, 3] rfl)
  exact loop4 _ 0 _ rfl (by omega) (lv_sub hl [0, 1, 2, 3] rfl)
end P50
