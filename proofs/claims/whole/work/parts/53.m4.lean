section P53
abbrev rm_m_run : Room := { frames := 2, cells := 0, slots := 0, locals := 46 }
set_option maxHeartbeats 4000000 in
set_option maxRecDepth 100000 in
theorem m_run (l : Launch) {D : va_G} {cI cZ cJ : ClassId} {ad : Nat → Nat} {σ : St} {ρ : Nat → Nat} {cd : Int32} {n : Nat} (hI : adI ad 13) (hv : ct_Inv σ) (hn : σ.1 0 0 = n) (hρ : ∀ i, ρ i ≤ 1) : Met l yY2_run wsY2_run rm_m_run (va_Pc [.ref (ad 0)] (pC D wCl (tyM cI cZ cJ) ad (mW cI cZ cJ ad σ ρ cd) 13)) (qI (S := Nat → Nat) D wCl ad 13 (fun r θ => r = nI (ct_run 1000 σ).1 ∧ ∀ i, θ i ≤ 1) (fun θ => mW cI cZ cJ ad (ct_run 1000 σ).2 θ (nI 0))) 0 0 (wA ad 13) := by
  refine Met.go (cc := cY2_run) (maxL := 3) (ret := (some .int)) (by decide) rfl (Nat.le_of_ble_eq_true rfl) ?_
  intro p e s m below meth c ls args Q ⟨hx, hb, hml, hown, hts⟩ hr hlocks hnm ⟨hP, hK⟩ hl hQ
  have hl : lv_has ls 3 [(0, .ref (ad 0))] := hl
  have hS : va_S (wA ad 13) s.heap s.heap [] := va_S.rf
  have hn30 : n ≤ 30 := by have := hv.1.1; omega
  refine lv_aload_n hx hb dY2_run_0 rfl (lv_at hl 0 rfl) ?_
  refine lv_iconst (v := nI 0) hx hb dY2_run_1 (by decide) ?_
  refine wd_put (C := RX2) (T := TY2) (n := 17) (ci := ciM) (v := .int (nI (0))) (ty := .int) hx hb hts (by decide +kernel) tyY2 tyY2_ok nmY2 hown hK hP hI (fun k h => wA_in h) hS (0) (by omega) mW_0 rfl 0 (by decide) (hts (.fieldLink RX2 48 "CarThreadsModel" "code" "I") (by decide +kernel)) (fun _ h9 => h9) rfl (by decide +kernel) rfl rfl (Nat.le_of_ble_eq_true rfl) dY2_run_2 (fun H locs hP hS => ?_)
  have hP : va_P D wCl (wl ad (mW cI cZ cJ ad σ ρ (nI 0)) 13) H := um_ob hP (by simp [mw_ob, ct_sg, ct_sl]) (fun a ha => by funext x; simp [ct_sg, ct_sl, ha]) rfl (fun i hi => by simp [ct_sg, ct_sl, hi])
  refine lv_iconst (v := nI 0) hx hb dY2_run_5 (by decide) ?_
  refine lv_istore_n (lv' := [(1, .int (nI (0))), (0, .ref (ad 0))]) hx hb dY2_run_6 rfl hl (by decide) rfl (fun ls hl => ?_)
  have loop7 : ∀ (f t : Nat) (μ : St) (θ : Nat → Nat) (H : Heap) (locs : List Loc) (ls : Array Slot), 1000 - t = f → t ≤ 1000 → ct_run 1000 σ = (t + (ct_run (1000 - t) μ).1, (ct_run (1000 - t) μ).2) → ct_Inv μ → μ.1 0 0 = n → (∀ i, θ i ≤ 1) → va_P D wCl (wl ad (mW cI cZ cJ ad μ θ (nI 0)) 13) H → va_S (wA ad 13) s.heap H locs → lv_has ls 3 [(1, .int (nI (t))), (0, .ref (ad 0))] → W p l e rm_m_run s m args below meth c H locs 0 0 Q (F0 m 7 ls []) := by
    intro f
    induction f with
    | zero =>
      intro t μ θ H locs ls hf hj hRn hvμ hnμ hθ hP hS hl
      rw [hf] at hRn
      refine lv_iload_n hx hb dY2_run_7 rfl (lv_at hl 0 rfl) ?_
      refine lv_sipush (v := nI 1000) hx hb dY2_run_8 (by decide) ?_
      refine wi_icmp_ge (tgt := 67) hx hb (by omega) (by omega) dY2_run_11 (by decide) (fun c11 => ?_) (fun z => absurd z (by omega))
      refine lv_iload_n hx hb dY2_run_67 rfl (lv_at hl 0 rfl) ?_
      exact rt_i hQ hx hb hr hlocks θ (by rw [hRn]; exact hP) hS ⟨by rw [hRn]; rfl, hθ⟩ dY2_run_68
    | succ f ih =>
      intro t μ θ H locs ls hf hj hRn hvμ hnμ hθ hP hS hl
      rw [hf] at hRn
      refine lv_iload_n hx hb dY2_run_7 rfl (lv_at hl 0 rfl) ?_
      refine lv_sipush (v := nI 1000) hx hb dY2_run_8 (by decide) ?_
      refine wi_icmp_ge (tgt := 67) hx hb (by omega) (by omega) dY2_run_11 (by decide) (fun z => absurd z (by omega)) (fun c11 => ?_)
      refine lv_aload_n hx hb dY2_run_14 rfl (lv_at hl 1 rfl) ?_
      refine wd_calli (va_runV (As := []) (rest := []) ⟨hx, hb, hml, hown, hts⟩ (m_begin l (σ := μ) (ρ := θ) hI hvμ hnμ hθ) (cwV 0 hts gY2_run_Y2_begin rfl rfl rfl (by decide +kernel) ⟨Nat.le_of_ble_eq_true rfl, Nat.le_of_ble_eq_true rfl⟩) (wd_pre (q := (RX2, TY2, 17)) (ci := ciM) hK hP (by omega) rfl mW_0) rfl rfl hl.1 rfl (lv_room (Nat.le_of_ble_eq_true rfl)) dY2_run_15 ⟨Nat.zero_le _, Nat.zero_le _⟩) hS (fun k h => wA_in h) (fun r1 ur1 H locs er1 hP hz hk hS => ?_)
      have hun : ct_run (f + 1) μ = if ct_any (ct_cut μ n) n = true then ((ct_run f (ct_micro (ct_cut μ n))).1 + 1, (ct_run f (ct_micro (ct_cut μ n))).2) else (0, ct_cut μ n) := by rw [← hnμ]; rfl
      have hθ1 := mR_le hθ (ct_cut μ n) n
      have hnX : (ct_cut μ n).1 0 0 = n := by rw [ct_cut_n]; exact hnμ
      have hvX : ct_Inv (ct_cut μ n) := ct_Inv_cut hvμ n (by omega)
      by_cases hany : ct_any (ct_cut μ n) n = true
      · rw [hany] at er1
        obtain rfl : r1 = nI 1 := er1
        rw [if_pos hany] at hun
        rw [hun] at hRn
        refine wi_if_eq (tgt := 67) hx hb (by omega) dY2_run_18 (by decide) (fun z => absurd z (by decide)) (fun z => ?_)
        refine lv_iconst (v := nI 1) hx hb dY2_run_21 (by decide) ?_
        refine lv_istore_n (lv' := [(2, .int (nI (1))), (1, .int (nI (t))), (0, .ref (ad 0))]) hx hb dY2_run_22 rfl hl (by decide) rfl (fun ls hl => ?_)
        have loop23 : ∀ (f u : Nat) (H : Heap) (locs : List Loc) (ls : Array Slot), n - u = f → u ≤ n → va_P D wCl (wl ad (mW cI cZ cJ ad (ct_part (ct_cut μ n) (ct_X (ct_cut μ n)) u) (mR θ (ct_cut μ n) n) (nI 0)) 13) H → va_S (wA ad 13) s.heap H locs → lv_has ls 3 [(2, .int (nI (u + 1))), (1, .int (nI (t))), (0, .ref (ad 0))] → W p l e rm_m_run s m args below meth c H locs 0 0 Q (F0 m 23 ls []) := by
          intro f
          induction f with
          | zero =>
            intro u H locs ls hf hj hP hS hl
            have huN : u = n := by omega
            rw [huN] at hP
            have hnP : (ct_part (ct_cut μ n) (ct_X (ct_cut μ n)) n).1 0 0 = n := hnX
            refine lv_iload_n hx hb dY2_run_23 rfl (lv_at hl 0 rfl) ?_
            refine lv_aload_n hx hb dY2_run_24 rfl (lv_at hl 2 rfl) ?_
            refine wd_get (C := RX2) (T := TY2) (n := 17) (ci := ciM) (v := .int (nI ((ct_part (ct_cut μ n) (ct_X (ct_cut μ n)) n).1 0 0))) hx hb hts (by decide +kernel) hown hK hP (0) (by omega) mW_0 rfl 1 (by decide) (hts (.fieldLink RX2 52 "CarThreadsModel" "nodes" "I") (by decide +kernel)) (fun _ h9 => h9) (by first | rfl | simp [cw_nd, cw_ob, mw_ob, ct_sg, ct_sl, tu]) dY2_run_25 ?_
            refine wi_icmp_gt (tgt := 51) hx hb (by omega) (by omega) dY2_run_28 (by decide) (fun c28 => ?_) (fun z => absurd z (by omega))
            refine lv_aload_n hx hb dY2_run_51 rfl (lv_at hl 2 rfl) ?_
            refine lv_dup hx hb dY2_run_52 rfl ?_
            refine wd_get (C := RX2) (T := TY2) (n := 17) (ci := ciM) (v := .long ((ct_part (ct_cut μ n) (ct_X (ct_cut μ n)) n).2.2 0)) hx hb hts (by decide +kernel) hown hK hP (0) (by omega) mW_0 rfl 14 (by decide) (hts (.fieldLink RX2 64 "CarThreadsModel" "now" "J") (by decide +kernel)) (fun _ h9 => h9) (by first | rfl | simp [cw_nd, cw_ob, mw_ob, ct_sg, ct_sl, tu]) dY2_run_53 ?_
            refine lv_lconst (v := 1) hx hb dY2_run_56 (by decide) ?_
            refine lv_ladd hx hb dY2_run_57 ?_
            refine wd_put (C := RX2) (T := TY2) (n := 17) (ci := ciM) (v := .long ((ct_part (ct_cut μ n) (ct_X (ct_cut μ n)) n).2.2 0 + 1)) (ty := .long) hx hb hts (by decide +kernel) tyY2 tyY2_ok nmY2 hown hK hP hI (fun k h => wA_in h) hS (0) (by omega) mW_0 rfl 14 (by decide) (hts (.fieldLink RX2 64 "CarThreadsModel" "now" "J") (by decide +kernel)) (fun _ h9 => h9) rfl (by decide +kernel) rfl rfl (Nat.le_of_ble_eq_true rfl) dY2_run_58 (fun H locs hP hS => ?_)
            have hP : va_P D wCl (wl ad (mW cI cZ cJ ad (ct_sl (ct_part (ct_cut μ n) (ct_X (ct_cut μ n)) n) 0 ((ct_part (ct_cut μ n) (ct_X (ct_cut μ n)) n).2.2 0 + 1)) (mR θ (ct_cut μ n) n) (nI 0)) 13) H := um_ob hP (by simp [mw_ob, ct_sg, ct_sl]) (fun a ha => by funext x; simp [ct_sg, ct_sl, ha]) rfl (fun i hi => by simp [ct_sg, ct_sl, hi])
            refine lv_iinc (v := nI (t + 1)) (lv' := [(1, .int (nI (t + 1))), (2, .int (nI (u + 1))), (0, .ref (ad 0))]) hx hb dY2_run_61 hl (k := 1) rfl (wi_inc _) (by decide) rfl (fun ls hl => ?_)
            refine lv_goto (tgt := 7) hx hb dY2_run_64 (by decide) ?_
            have hPn := ct_part_n (ct_cut μ n)
            rw [hnX] at hPn
            have hRn2 : ct_run 1000 σ = (t + 1 + (ct_run (1000 - (t + 1)) (ct_micro (ct_cut μ n))).1, (ct_run (1000 - (t + 1)) (ct_micro (ct_cut μ n))).2) := by
              rw [show 1000 - (t + 1) = f by omega, hRn]; congr 1; omega
            exact ih (t + 1) (ct_micro (ct_cut μ n)) (mR θ (ct_cut μ n) n) _ _ _ (by omega) (by omega) hRn2 (ct_Inv_micro hvX) (by rw [ct_micro_n]; exact hnX) hθ1 (by rw [← hPn]; exact hP) hS (lv_sub hl [0, 2] rfl)
          | succ f ih =>
            intro u H locs ls hf hj hP hS hl
            have hnP : (ct_part (ct_cut μ n) (ct_X (ct_cut μ n)) u).1 0 0 = n := hnX
            have hr1 : mR θ (ct_cut μ n) n (u + 1) = bN (ct_go (ct_cut μ n) (u + 1)) := mR_in (by omega) (by omega)
            have hbg := bN_le (ct_go (ct_cut μ n) (u + 1))
            have hXg : ct_X (ct_cut μ n) (u + 1) = ct_go (ct_cut μ n) (u + 1) := ct_X_in (by omega) (by omega)
            refine lv_iload_n hx hb dY2_run_23 rfl (lv_at hl 0 rfl) ?_
            refine lv_aload_n hx hb dY2_run_24 rfl (lv_at hl 2 rfl) ?_
            refine wd_get (C := RX2) (T := TY2) (n := 17) (ci := ciM) (v := .int (nI ((ct_part (ct_cut μ n) (ct_X (ct_cut μ n)) u).1 0 0))) hx hb hts (by decide +kernel) hown hK hP (0) (by omega) mW_0 rfl 1 (by decide) (hts (.fieldLink RX2 52 "CarThreadsModel" "nodes" "I") (by decide +kernel)) (fun _ h9 => h9) (by first | rfl | simp [cw_nd, cw_ob, mw_ob, ct_sg, ct_sl, tu]) dY2_run_25 ?_
            refine wi_icmp_gt (tgt := 51) hx hb (by omega) (by omega) dY2_run_28 (by decide) (fun z => absurd z (by omega)) (fun c28 => ?_)
            refine lv_aload_n hx hb dY2_run_31 rfl (lv_at hl 2 rfl) ?_
            refine wd_get (C := RX2) (T := TY2) (n := 17) (ci := ciM) (v := .ref (ad 9)) hx hb hts (by decide +kernel) hown hK hP (0) (by omega) mW_0 rfl 10 (by decide) (hts (.fieldLink RX2 36 "CarThreadsModel" "ready" "[Z") (by decide +kernel)) (fun _ h9 => h9) (by first | rfl | simp [cw_nd, cw_ob, mw_ob, ct_sg, ct_sl, tu]) dY2_run_32 ?_
            refine lv_iload_n hx hb dY2_run_35 rfl (lv_at hl 0 rfl) ?_
            refine wd_zald hx hb hK hP (9) 1 (by omega) mW_9 rfl (u + 1) (by omega) (by omega) rfl dY2_run_36 ?_
            refine wi_if_eq (tgt := 45) hx hb (by omega) dY2_run_37 (by decide) (fun c37 => ?_) (fun c37 => ?_)
            · refine lv_iinc (v := nI (u + 1 + 1)) (lv' := [(2, .int (nI (u + 1 + 1))), (1, .int (nI (t))), (0, .ref (ad 0))]) hx hb dY2_run_45 hl (k := 0) rfl (wi_inc _) (by decide) rfl (fun ls hl => ?_)
              refine lv_goto (tgt := 23) hx hb dY2_run_48 (by decide) ?_
              have hsk := ct_part_skip (σ := (ct_cut μ n)) (X := ct_X (ct_cut μ n)) (k := u) (by rw [hXg]; exact bN_0 (by omega))
              exact ih (u + 1) _ _ _ (by omega) (by omega) (by rw [hsk]; exact hP) hS (lv_sub hl [0, 1, 2] rfl)
            · refine lv_aload_n hx hb dY2_run_40 rfl (lv_at hl 2 rfl) ?_
              refine lv_iload_n hx hb dY2_run_41 rfl (lv_at hl 0 rfl) ?_
              refine wd_callv (va_runV (As := [.int (nI (u + 1))]) (rest := []) ⟨hx, hb, hml, hown, hts⟩ (m_step l (σ := ct_part (ct_cut μ n) (ct_X (ct_cut μ n)) u) (ρ := mR θ (ct_cut μ n) n) (cd := nI 0) hI (ct_Inv_part hvX u) hnP (i := u + 1) (by omega) (by omega)) (cwV 1 hts gY2_run_Y2_step rfl rfl rfl (by decide +kernel) ⟨Nat.le_of_ble_eq_true rfl, Nat.le_of_ble_eq_true rfl⟩) (wd_pre (q := (RX2, TY2, 17)) (ci := ciM) hK hP (by omega) rfl mW_0) rfl rfl hl.1 rfl (lv_room (Nat.le_of_ble_eq_true rfl)) dY2_run_42 ⟨Nat.zero_le _, Nat.zero_le _⟩) hS (fun k h => wA_in h) (fun uv2 H locs ev2 hP hz hk hS => ?_)
              rw [ct_part_step (by rw [hXg]; exact bN_1 (by omega))] at hP
              refine lv_iinc (v := nI (u + 1 + 1)) (lv' := [(2, .int (nI (u + 1 + 1))), (1, .int (nI (t))), (0, .ref (ad 0))]) hx hb dY2_run_45 hl (k := 0) rfl (wi_inc _) (by decide) rfl (fun ls hl => ?_)
              refine lv_goto (tgt := 23) hx hb dY2_run_48 (by decide) ?_
              exact ih (u + 1) _ _ _ (by omega) (by omega) hP hS (lv_sub hl [0, 1, 2] rfl)
        exact loop23 _ 0 _ _ _ rfl (by omega) (by rw [ct_part_0 (ct_X_0 _)]; exact hP) hS (lv_sub hl [0, 1, 2] rfl)
      · simp at hany
        rw [hany] at er1
        obtain rfl : r1 = nI 0 := er1
        rw [if_neg (by simp [hany])] at hun
        rw [hun] at hRn
        refine wi_if_eq (tgt := 67) hx hb (by omega) dY2_run_18 (by decide) (fun z => ?_) (fun z => absurd z (by decide))
        refine lv_iload_n hx hb dY2_run_67 rfl (lv_at hl 0 rfl) ?_
        exact rt_i hQ hx hb hr hlocks (mR θ (ct_cut μ n) n) (by rw [hRn]; exact hP) hS ⟨by rw [hRn]; rfl, hθ1⟩ dY2_run_68
  exact loop7 _ 0 σ ρ _ _ _ rfl (by omega) (by simp) hv hn hρ hP hS (lv_sub hl [0, 1] rfl)
abbrev rm_m_log : Room := { frames := 0, cells := 0, slots := 0, locals := 0 }
set_option maxHeartbeats 4000000 in
set_option maxRecDepth 100000 in
theorem m_log (l : Launch) {D : va_G} {cI cZ cJ : ClassId} {ad : Nat → Nat} {σ : St} {ρ : Nat → Nat} {cd : Int32} {n : Nat} (hI : adI ad 13) (hv : ct_Inv σ) (hn : σ.1 0 0 = n) (x : Int32) : Met l yY2_log wsY2_log rm_m_log (va_Pc [.ref (ad 0), .int (x)] (pC D wCl (tyM cI cZ cJ) ad (mW cI cZ cJ ad σ ρ cd) 13)) (qI (S := Unit) D wCl ad 13 (fun r _ => r = f_log σ x) (fun _ => mW cI cZ cJ ad σ ρ (nI 0))) 0 0 (wA ad 13) := by
  refine Met.go (cc := cY2_log) (maxL := 2) (ret := (some .int)) (by decide) rfl (Nat.le_of_ble_eq_true rfl) ?_
  intro p e s m below meth c ls args Q ⟨hx, hb, hml, hown, hts⟩ hr hlocks hnm ⟨hP, hK⟩ hl hQ
  have hl : lv_has ls 2 [(0, .ref (ad 0)), (1, .int (x))] := hl
  have hS : va_S (wA ad 13) s.heap s.heap [] := va_S.rf
  have hn30 : n ≤ 30 := by have := hv.1.1; omega
  have hlc := hv.1.2.2
  refine lv_aload_n hx hb dY2_log_0 rfl (lv_at hl 0 rfl) ?_
  refine lv_iconst (v := nI 0) hx hb dY2_log_1 (by decide) ?_
  refine wd_put (C := RX2) (T := TY2) (n := 17) (ci := ciM) (v := .int (nI (0))) (ty := .int) hx hb hts (by decide +kernel) tyY2 tyY2_ok nmY2 hown hK hP hI (fun k h => wA_in h) hS (0) (by omega) mW_0 rfl 0 (by decide) (hts (.fieldLink RX2 48 "CarThreadsModel" "code" "I") (by decide +kernel)) (fun _ h9 => h9) rfl (by decide +kernel) rfl rfl (Nat.le_of_ble_eq_true rfl) dY2_log_2 (fun H locs hP hS => ?_)
  have hP : va_P D wCl (wl ad (mW cI cZ cJ ad σ ρ (nI 0)) 13) H := um_ob hP (by simp [mw_ob, ct_sg, ct_sl]) (fun a ha => by funext x; simp [ct_sg, ct_sl, ha]) rfl (fun i hi => by simp [ct_sg, ct_sl, hi])
  refine lv_iload_n hx hb dY2_log_5 rfl (lv_at hl 1 rfl) ?_
  refine lv_if_lt (tgt := 17) hx hb dY2_log_6 (by decide) (fun c6 => ?_) (fun c6 => ?_)
  · refine lv_iconst (v := (-1)) hx hb dY2_log_17 (by decide) ?_
    refine lv_goto (tgt := 27) hx hb dY2_log_18 (by decide) ?_
    exact rt_i hQ hx hb hr hlocks () hP hS (by unfold f_log; rw [if_pos (Or.inl c6)]) dY2_log_27
  · refine lv_iload_n hx hb dY2_log_9 rfl (lv_at hl 1 rfl) ?_
    refine lv_aload_n hx hb dY2_log_10 rfl (lv_at hl 0 rfl) ?_
    refine wd_get (C := RX2) (T := TY2) (n := 17) (ci := ciM) (v := .int (nI (σ.1 0 2))) hx hb hts (by decide +kernel) hown hK hP (0) (by omega) mW_0 rfl 15 (by decide) (hts (.fieldLink RX2 75 "CarThreadsModel" "entries" "I") (by decide +kernel)) (fun _ h9 => h9) (by first | rfl | simp [cw_nd, cw_ob, mw_ob, ct_sg, ct_sl, tu]) dY2_log_11 ?_
    refine lv_icmp_lt (tgt := 21) hx hb dY2_log_14 (by decide) (fun c14 => ?_) (fun c14 => ?_)
    · refine lv_aload_n hx hb dY2_log_21 rfl (lv_at hl 0 rfl) ?_
      refine wd_get (C := RX2) (T := TY2) (n := 17) (ci := ciM) (v := .ref (ad 12)) hx hb hts (by decide +kernel) hown hK hP (0) (by omega) mW_0 rfl 16 (by decide) (hts (.fieldLink RX2 45 "CarThreadsModel" "entry" "[I") (by decide +kernel)) (fun _ h9 => h9) (by first | rfl | simp [cw_nd, cw_ob, mw_ob, ct_sg, ct_sl, tu]) dY2_log_22 ?_
      obtain ⟨j, hj, rfl⟩ : ∃ j : Nat, j < 2 ^ 31 ∧ x = nI j := nI_of c6
      have hjl : j < σ.1 0 2 := by
        rcases Nat.lt_or_ge j (σ.1 0 2) with q | q
        · exact q
        · exact absurd c14 (Int32.not_lt.mpr (nI_le q hj))
      refine lv_iload_n hx hb dY2_log_25 rfl (lv_at hl 1 rfl) ?_
      refine wd_iald hx hb hK hP (12) 0 (by omega) mW_12 rfl (j) (by omega) (by omega) rfl dY2_log_26 ?_
      exact rt_i hQ hx hb hr hlocks () hP hS (by unfold f_log; rw [if_neg (fun q => q.elim c6 (fun z => (Int32.not_le.mpr c14) z)), nI_clamp hj]) dY2_log_27
    · refine lv_iconst (v := (-1)) hx hb dY2_log_17 (by decide) ?_
      refine lv_goto (tgt := 27) hx hb dY2_log_18 (by decide) ?_
      exact rt_i hQ hx hb hr hlocks () hP hS (by unfold f_log; rw [if_pos (Or.inr (Int32.not_lt.mp c14))]) dY2_log_27
abbrev rm_m_safe : Room := { frames := 1, cells := 0, slots := 0, locals := 21 }
set_option maxHeartbeats 4000000 in
set_option maxRecDepth 100000 in
theorem m_safe (l : Launch) {D : va_G} {cI cZ cJ : ClassId} {ad : Nat → Nat} {σ : St} {ρ : Nat → Nat} {cd : Int32} {n : Nat} (hI : adI ad 13) (hv : ct_Inv σ) (hn : σ.1 0 0 = n) (x : Int32) : Met l yY2_safe wsY2_safe rm_m_safe (va_Pc [.ref (ad 0), .int (x)] (pC D wCl (tyM cI cZ cJ) ad (mW cI cZ cJ ad σ ρ cd) 13)) (qI (S := Unit) D wCl ad 13 (fun r _ => r = f_safe σ x) (fun _ => mW cI cZ cJ ad σ ρ (nI 0))) 0 0 (wA ad 13) := by
  refine Met.go (cc := cY2_safe) (maxL := 2) (ret := (some .int)) (by decide) rfl (Nat.le_of_ble_eq_true rfl) ?_
  intro p e s m below meth c ls args Q ⟨hx, hb, hml, hown, hts⟩ hr hlocks hnm ⟨hP, hK⟩ hl hQ
  have hl : lv_has ls 2 [(0, .ref (ad 0)), (1, .int (x))] := hl
  have hS : va_S (wA ad 13) s.heap s.heap [] := va_S.rf
  have hn30 : n ≤ 30 := by have := hv.1.1; omega
  refine lv_aload_n hx hb dY2_safe_0 rfl (lv_at hl 0 rfl) ?_
  refine lv_iload_n hx hb dY2_safe_1 rfl (lv_at hl 1 rfl) ?_
  refine wd_calli (va_runV (As := [.int (x)]) (rest := []) ⟨hx, hb, hml, hown, hts⟩ (m_none l hI hv hn x) (cwV 1 hts gY2_safe_Y2_none rfl rfl rfl (by decide +kernel) ⟨Nat.le_of_ble_eq_true rfl, Nat.le_of_ble_eq_true rfl⟩) (wd_pre (q := (RX2, TY2, 17)) (ci := ciM) hK hP (by omega) rfl mW_0) rfl rfl hl.1 rfl (lv_room (Nat.le_of_ble_eq_true rfl)) dY2_safe_2 ⟨Nat.zero_le _, Nat.zero_le _⟩) hS (fun k h => wA_in h) (fun r1 ur1 H locs er1 hP hz hk hS => ?_)
  by_cases hk_i2 : ct_kn n x = 0
  · have hki_i2 : ct_kn n x = 0 := hk_i2
    rw [if_pos hki_i2] at er1
    subst er1
    refine wi_if_eq (tgt := 10) hx hb (by omega) dY2_safe_5 (by decide) (fun z => absurd z (by decide)) (fun z => ?_)
    refine lv_iconst (v := (-1)) hx hb dY2_safe_8 (by decide) ?_
    exact rt_i hQ hx hb hr hlocks () hP hS (by unfold f_safe; rw [hn, hki_i2, if_pos rfl]) dY2_safe_9
  · obtain ⟨i2, hi1_i2, hi2_i2, rfl⟩ : ∃ z, 1 ≤ z ∧ z ≤ n ∧ x = nI z := ⟨_, ct_kn_some (by omega) hk_i2⟩
    have hki_i2 : ct_kn n (nI i2) = i2 := ct_kn_nI (by omega) hi1_i2 hi2_i2
    have hki0_i2 : i2 ≠ 0 := by omega
    obtain ⟨_, _, _, _, _, _, _, _, _⟩ := hv.2.1 i2 hi1_i2 (by omega)
    rw [hki_i2, if_neg hki0_i2] at er1
    subst er1
    refine wi_if_eq (tgt := 10) hx hb (by omega) dY2_safe_5 (by decide) (fun z => ?_) (fun z => absurd z (by decide))
    refine lv_aload_n hx hb dY2_safe_10 rfl (lv_at hl 0 rfl) ?_
    refine wd_get (C := RX2) (T := TY2) (n := 17) (ci := ciM) (v := .ref (ad 5)) hx hb hts (by decide +kernel) hown hK hP (0) (by omega) mW_0 rfl 6 (by decide) (hts (.fieldLink RX2 23 "CarThreadsModel" "safe" "[Z") (by decide +kernel)) (fun _ h9 => h9) (by first | rfl | simp [cw_nd, cw_ob, mw_ob, ct_sg, ct_sl, tu]) dY2_safe_11 ?_
    refine lv_iload_n hx hb dY2_safe_14 rfl (lv_at hl 1 rfl) ?_
    refine wd_zald hx hb hK hP (5) 1 (by omega) mW_5 rfl (i2) (by omega) (by omega) rfl dY2_safe_15 ?_
    refine wi_if_eq (tgt := 23) hx hb (by omega) dY2_safe_16 (by decide) (fun c16 => ?_) (fun c16 => ?_)
    · refine lv_iconst (v := nI 0) hx hb dY2_safe_23 (by decide) ?_
      exact rt_i hQ hx hb hr hlocks () hP hS (by unfold f_safe; rw [hn, hki_i2, if_neg hki0_i2]; congr 1; omega) dY2_safe_24
    · refine lv_iconst (v := nI 1) hx hb dY2_safe_19 (by decide) ?_
      refine lv_goto (tgt := 24) hx hb dY2_safe_20 (by decide) ?_
      exact rt_i hQ hx hb hr hlocks () hP hS (by unfold f_safe; rw [hn, hki_i2, if_neg hki0_i2]; congr 1; omega) dY2_safe_24
abbrev rm_m_finished : Room := { frames := 1, cells := 0, slots := 0, locals := 21 }
set_option maxHeartbeats 4000000 in
set_option maxRecDepth 100000 in
theorem m_finished (l : Launch) {D : va_G} {cI cZ cJ : ClassId} {ad : Nat → Nat} {σ : St} {ρ : Nat → Nat} {cd : Int32} {n : Nat} (hI : adI ad 13) (hv : ct_Inv σ) (hn : σ.1 0 0 = n) (x : Int32) : Met l yY2_finished wsY2_finished rm_m_finished (va_Pc [.ref (ad 0), .int (x)] (pC D wCl (tyM cI cZ cJ) ad (mW cI cZ cJ ad σ ρ cd) 13)) (qI (S := Unit) D wCl ad 13 (fun r _ => r = f_fin σ x) (fun _ => mW cI cZ cJ ad σ ρ (nI 0))) 0 0 (wA ad 13) := by
  refine Met.go (cc := cY2_finished) (maxL := 2) (ret := (some .int)) (by decide) rfl (Nat.le_of_ble_eq_true rfl) ?_
  intro p e s m below meth c ls args Q ⟨hx, hb, hml, hown, hts⟩ hr hlocks hnm ⟨hP, hK⟩ hl hQ
  have hl : lv_has ls 2 [(0, .ref (ad 0)), (1, .int (x))] := hl
  have hS : va_S (wA ad 13) s.heap s.heap [] := va_S.rf
  have hn30 : n ≤ 30 := by have := hv.1.1; omega
  refine lv_aload_n hx hb dY2_finished_0 rfl (lv_at hl 0 rfl) ?_
  refine lv_iload_n hx hb dY2_finished_1 rfl (lv_at hl 1 rfl) ?_
  refine wd_calli (va_runV (As := [.int (x)]) (rest := []) ⟨hx, hb, hml, hown, hts⟩ (m_none l hI hv hn x) (cwV 1 hts gY2_finished_Y2_none rfl rfl rfl (by decide +kernel) ⟨Nat.le_of_ble_eq_true rfl, Nat.le_of_ble_eq_true rfl⟩) (wd_pre (q := (RX2, TY2, 17)) (ci := ciM) hK hP (by omega) rfl mW_0) rfl rfl hl.1 rfl (lv_room (Nat.le_of_ble_eq_true rfl)) dY2_finished_2 ⟨Nat.zero_le _, Nat.zero_le _⟩) hS (fun k h => wA_in h) (fun r1 ur1 H locs er1 hP hz hk hS => ?_)
  by_cases hk_i2 : ct_kn n x = 0
  · have hki_i2 : ct_kn n x = 0 := hk_i2
    rw [if_pos hki_i2] at er1
    subst er1
    refine wi_if_eq (tgt := 12) hx hb (by omega) dY2_finished_5 (by decide) (fun z => absurd z (by decide)) (fun z => ?_)
    refine lv_iconst (v := (-1)) hx hb dY2_finished_8 (by decide) ?_
    refine lv_goto (tgt := 18) hx hb dY2_finished_9 (by decide) ?_
    exact rt_i hQ hx hb hr hlocks () hP hS (by unfold f_fin; rw [hn, hki_i2, if_pos rfl]) dY2_finished_18
  · obtain ⟨i2, hi1_i2, hi2_i2, rfl⟩ : ∃ z, 1 ≤ z ∧ z ≤ n ∧ x = nI z := ⟨_, ct_kn_some (by omega) hk_i2⟩
    have hki_i2 : ct_kn n (nI i2) = i2 := ct_kn_nI (by omega) hi1_i2 hi2_i2
    have hki0_i2 : i2 ≠ 0 := by omega
    obtain ⟨_, _, _, _, _, _, _, _, _⟩ := hv.2.1 i2 hi1_i2 (by omega)
    rw [hki_i2, if_neg hki0_i2] at er1
    subst er1
    refine wi_if_eq (tgt := 12) hx hb (by omega) dY2_finished_5 (by decide) (fun z => ?_) (fun z => absurd z (by decide))
    refine lv_aload_n hx hb dY2_finished_12 rfl (lv_at hl 0 rfl) ?_
    refine wd_get (C := RX2) (T := TY2) (n := 17) (ci := ciM) (v := .ref (ad 7)) hx hb hts (by decide +kernel) hown hK hP (0) (by omega) mW_0 rfl 8 (by decide) (hts (.fieldLink RX2 29 "CarThreadsModel" "finished" "[I") (by decide +kernel)) (fun _ h9 => h9) (by first | rfl | simp [cw_nd, cw_ob, mw_ob, ct_sg, ct_sl, tu]) dY2_finished_13 ?_
    refine lv_iload_n hx hb dY2_finished_16 rfl (lv_at hl 1 rfl) ?_
    refine wd_iald hx hb hK hP (7) 0 (by omega) mW_7 rfl (i2) (by omega) (by omega) rfl dY2_finished_17 ?_
    exact rt_i hQ hx hb hr hlocks () hP hS (by unfold f_fin; rw [hn, hki_i2, if_neg hki0_i2]) dY2_finished_18
abbrev rm_m_cut : Room := { frames := 1, cells := 0, slots := 0, locals := 21 }
set_option maxHeartbeats 4000000 in
set_option maxRecDepth 100000 in
theorem m_cut (l : Launch) {D : va_G} {cI cZ cJ : ClassId} {ad : Nat → Nat} {σ : St} {ρ : Nat → Nat} {cd : Int32} {n : Nat} (hI : adI ad 13) (hv : ct_Inv σ) (hn : σ.1 0 0 = n) (x : Int32) (v : Int64) : Met l yY2_cut wsY2_cut rm_m_cut (va_Pc [.ref (ad 0), .int (x), .long (v)] (pC D wCl (tyM cI cZ cJ) ad (mW cI cZ cJ ad σ ρ cd) 13)) (qI (S := Unit) D wCl ad 13 (fun r _ => r = (f_cut σ x v).1) (fun _ => mW cI cZ cJ ad (f_cut σ x v).2 ρ (nI 0))) 0 0 (wA ad 13) := by
  refine Met.go (cc := cY2_cut) (maxL := 4) (ret := (some .int)) (by decide) rfl (Nat.le_of_ble_eq_true rfl) ?_
  intro p e s m below meth c ls args Q ⟨hx, hb, hml, hown, hts⟩ hr hlocks hnm ⟨hP, hK⟩ hl hQ
  have hl : lv_has ls 4 [(0, .ref (ad 0)), (1, .int (x)), (2, .long (v))] := hl
  have hS : va_S (wA ad 13) s.heap s.heap [] := va_S.rf
  have hn30 : n ≤ 30 := by have := hv.1.1; omega
  refine lv_aload_n hx hb dY2_cut_0 rfl (lv_at hl 0 rfl) ?_
  refine lv_iload_n hx hb dY2_cut_1 rfl (lv_at hl 1 rfl) ?_
  refine wd_calli (va_runV (As := [.int (x)]) (rest := []) ⟨hx, hb, hml, hown, hts⟩ (m_none l hI hv hn x) (cwV 1 hts gY2_cut_Y2_none rfl rfl rfl (by decide +kernel) ⟨Nat.le_of_ble_eq_true rfl, Nat.le_of_ble_eq_true rfl⟩) (wd_pre (q := (RX2, TY2, 17)) (ci := ciM) hK hP (by omega) rfl mW_0) rfl rfl hl.1 rfl (lv_room (Nat.le_of_ble_eq_true rfl)) dY2_cut_2 ⟨Nat.zero_le _, Nat.zero_le _⟩) hS (fun k h => wA_in h) (fun r1 ur1 H locs er1 hP hz hk hS => ?_)
  by_cases hk_i2 : ct_kn n x = 0
  · have hki_i2 : ct_kn n x = 0 := hk_i2
    rw [if_pos hki_i2] at er1
    subst er1
    refine wi_if_eq (tgt := 10) hx hb (by omega) dY2_cut_5 (by decide) (fun z => absurd z (by decide)) (fun z => ?_)
    refine lv_iconst (v := (-1)) hx hb dY2_cut_8 (by decide) ?_
    have hF : f_cut σ x v = ((-1), σ) := by unfold f_cut; rw [hn, hki_i2, if_pos rfl]
    exact rt_i hQ hx hb hr hlocks () (by rw [hF]; exact hP) hS (by rw [hF] <;> rfl) dY2_cut_9
  · obtain ⟨i2, hi1_i2, hi2_i2, rfl⟩ : ∃ z, 1 ≤ z ∧ z ≤ n ∧ x = nI z := ⟨_, ct_kn_some (by omega) hk_i2⟩
    have hki_i2 : ct_kn n (nI i2) = i2 := ct_kn_nI (by omega) hi1_i2 hi2_i2
    have hki0_i2 : i2 ≠ 0 := by omega
    obtain ⟨_, _, _, _, _, _, _, _, _⟩ := hv.2.1 i2 hi1_i2 (by omega)
    rw [hki_i2, if_neg hki0_i2] at er1
    subst er1
    refine wi_if_eq (tgt := 10) hx hb (by omega) dY2_cut_5 (by decide) (fun z => ?_) (fun z => absurd z (by decide))
    refine lv_lload_n hx hb dY2_cut_10 rfl (lv_at hl 2 rfl) ?_
    refine lv_aload_n hx hb dY2_cut_11 rfl (lv_at hl 0 rfl) ?_
    refine wd_get (C := RX2) (T := TY2) (n := 17) (ci := ciM) (v := .long (σ.2.2 0)) hx hb hts (by decide +kernel) hown hK hP (0) (by omega) mW_0 rfl 14 (by decide) (hts (.fieldLink RX2 64 "CarThreadsModel" "now" "J") (by decide +kernel)) (fun _ h9 => h9) (by first | rfl | simp [cw_nd, cw_ob, mw_ob, ct_sg, ct_sl, tu]) dY2_cut_12 ?_
    refine W.lcmp hx hb dY2_cut_15 ?_
    refine lv_if_ge (tgt := 22) hx hb dY2_cut_16 (by decide) (fun c16 => ?_) (fun c16 => ?_)
    · refine lv_aload_n hx hb dY2_cut_22 rfl (lv_at hl 0 rfl) ?_
      refine wd_get (C := RX2) (T := TY2) (n := 17) (ci := ciM) (v := .ref (ad 4)) hx hb hts (by decide +kernel) hown hK hP (0) (by omega) mW_0 rfl 5 (by decide) (hts (.fieldLink RX2 19 "CarThreadsModel" "ended" "[Z") (by decide +kernel)) (fun _ h9 => h9) (by first | rfl | simp [cw_nd, cw_ob, mw_ob, ct_sg, ct_sl, tu]) dY2_cut_23 ?_
      refine lv_iload_n hx hb dY2_cut_26 rfl (lv_at hl 1 rfl) ?_
      refine wd_zald hx hb hK hP (4) 1 (by omega) mW_4 rfl (i2) (by omega) (by omega) rfl dY2_cut_27 ?_
      refine wi_if_eq (tgt := 34) hx hb (by omega) dY2_cut_28 (by decide) (fun c28 => ?_) (fun c28 => ?_)
      · refine lv_aload_n hx hb dY2_cut_34 rfl (lv_at hl 0 rfl) ?_
        refine wd_get (C := RX2) (T := TY2) (n := 17) (ci := ciM) (v := .ref (ad 8)) hx hb hts (by decide +kernel) hown hK hP (0) (by omega) mW_0 rfl 9 (by decide) (hts (.fieldLink RX2 32 "CarThreadsModel" "cutAt" "[J") (by decide +kernel)) (fun _ h9 => h9) (by first | rfl | simp [cw_nd, cw_ob, mw_ob, ct_sg, ct_sl, tu]) dY2_cut_35 ?_
        refine lv_iload_n hx hb dY2_cut_38 rfl (lv_at hl 1 rfl) ?_
        refine lv_lload_n hx hb dY2_cut_39 rfl (lv_at hl 2 rfl) ?_
        refine wd_last hx hb hK hP hI (fun k h => wA_in h) hS (8) 2 (by omega) mW_8 rfl (i2) (by omega) (by omega) rfl dY2_cut_40 (fun H locs hP hS => ?_)
        have hP : va_P D wCl (wl ad (mW cI cZ cJ ad (ct_sl σ i2 v) ρ (nI 0)) 13) H := um_8 (by omega) hP
        refine lv_iconst (v := nI 1) hx hb dY2_cut_41 (by decide) ?_
        have hF : f_cut σ (nI i2) v = (1, (ct_sl σ i2 v)) := by unfold f_cut; rw [hn, hki_i2, if_neg hki0_i2, if_neg (Int64.not_lt.mpr ((lg_cmp_ge _ _).mp c16)), if_neg (by omega)]
        exact rt_i hQ hx hb hr hlocks () (by rw [hF]; exact hP) hS (by rw [hF] <;> rfl) dY2_cut_42
      · refine lv_bipush (v := (-3)) hx hb dY2_cut_31 (by decide) ?_
        have hF : f_cut σ (nI i2) v = ((-3), σ) := by unfold f_cut; rw [hn, hki_i2, if_neg hki0_i2, if_neg (Int64.not_lt.mpr ((lg_cmp_ge _ _).mp c16)), if_pos (by omega)]
        exact rt_i hQ hx hb hr hlocks () (by rw [hF]; exact hP) hS (by rw [hF] <;> rfl) dY2_cut_33
    · refine lv_bipush (v := (-2)) hx hb dY2_cut_19 (by decide) ?_
      have hF : f_cut σ (nI i2) v = ((-2), σ) := by unfold f_cut; rw [hn, hki_i2, if_neg hki0_i2, if_pos (Int64.not_le.mp (fun q => c16 ((lg_cmp_ge _ _).mpr q)))]
      exact rt_i hQ hx hb hr hlocks () (by rw [hF]; exact hP) hS (by rw [hF] <;> rfl) dY2_cut_21
abbrev rm_m_interrupt : Room := { frames := 1, cells := 0, slots := 0, locals := 21 }
set_option maxHeartbeats 4000000 in
set_option maxRecDepth 100000 in
theorem m_interrupt (l : Launch) {D : va_G} {cI cZ cJ : ClassId} {ad : Nat → Nat} {σ : St} {ρ : Nat → Nat} {cd : Int32} {n : Nat} (hI : adI ad 13) (hv : ct_Inv σ) (hn : σ.1 0 0 = n) (x : Int32) : Met l yY2_interrupt wsY2_interrupt rm_m_interrupt (va_Pc [.ref (ad 0), .int (x)] (pC D wCl (tyM cI cZ cJ) ad (mW cI cZ cJ ad σ ρ cd) 13)) (qI (S := Unit) D wCl ad 13 (fun r _ => r = (f_int σ x).1) (fun _ => mW cI cZ cJ ad (f_int σ x).2 ρ (nI 0))) 0 0 (wA ad 13) := by
  refine Met.go (cc := cY2_interrupt) (maxL := 2) (ret := (some .boolean)) (by decide) rfl (Nat.le_of_ble_eq_true rfl) ?_
  intro p e s m below meth c ls args Q ⟨hx, hb, hml, hown, hts⟩ hr hlocks hnm ⟨hP, hK⟩ hl hQ
  have hl : lv_has ls 2 [(0, .ref (ad 0)), (1, .int (x))] := hl
  have hS : va_S (wA ad 13) s.heap s.heap [] := va_S.rf
  have hn30 : n ≤ 30 := by have := hv.1.1; omega
  refine lv_aload_n hx hb dY2_interrupt_0 rfl (lv_at hl 0 rfl) ?_
  refine lv_iload_n hx hb dY2_interrupt_1 rfl (lv_at hl 1 rfl) ?_
  refine wd_calli (va_runV (As := [.int (x)]) (rest := []) ⟨hx, hb, hml, hown, hts⟩ (m_none l hI hv hn x) (cwV 1 hts gY2_interrupt_Y2_none rfl rfl rfl (by decide +kernel) ⟨Nat.le_of_ble_eq_true rfl, Nat.le_of_ble_eq_true rfl⟩) (wd_pre (q := (RX2, TY2, 17)) (ci := ciM) hK hP (by omega) rfl mW_0) rfl rfl hl.1 rfl (lv_room (Nat.le_of_ble_eq_true rfl)) dY2_interrupt_2 ⟨Nat.zero_le _, Nat.zero_le _⟩) hS (fun k h => wA_in h) (fun r1 ur1 H locs er1 hP hz hk hS => ?_)
  by_cases hk_i2 : ct_kn n x = 0
  · have hki_i2 : ct_kn n x = 0 := hk_i2
    rw [if_pos hki_i2] at er1
    subst er1
    refine wi_if_ne (tgt := 17) hx hb (by omega) dY2_interrupt_5 (by decide) (fun z => ?_) (fun z => absurd z (by decide))
    refine lv_iconst (v := nI 0) hx hb dY2_interrupt_17 (by decide) ?_
    have hF : f_int σ x = (0, σ) := by unfold f_int; rw [hn, hki_i2, if_pos (Or.inl rfl)]
    exact rt_z hQ hx hb hr hlocks () (by rw [hF]; exact hP) hS rfl (by rw [hF] <;> rfl) dY2_interrupt_18
  · obtain ⟨i2, hi1_i2, hi2_i2, rfl⟩ : ∃ z, 1 ≤ z ∧ z ≤ n ∧ x = nI z := ⟨_, ct_kn_some (by omega) hk_i2⟩
    have hki_i2 : ct_kn n (nI i2) = i2 := ct_kn_nI (by omega) hi1_i2 hi2_i2
    have hki0_i2 : i2 ≠ 0 := by omega
    obtain ⟨_, _, _, _, _, _, _, _, _⟩ := hv.2.1 i2 hi1_i2 (by omega)
    rw [hki_i2, if_neg hki0_i2] at er1
    subst er1
    refine wi_if_ne (tgt := 17) hx hb (by omega) dY2_interrupt_5 (by decide) (fun z => absurd z (by decide)) (fun z => ?_)
    refine lv_aload_n hx hb dY2_interrupt_8 rfl (lv_at hl 0 rfl) ?_
    refine wd_get (C := RX2) (T := TY2) (n := 17) (ci := ciM) (v := .ref (ad 4)) hx hb hts (by decide +kernel) hown hK hP (0) (by omega) mW_0 rfl 5 (by decide) (hts (.fieldLink RX2 19 "CarThreadsModel" "ended" "[Z") (by decide +kernel)) (fun _ h9 => h9) (by first | rfl | simp [cw_nd, cw_ob, mw_ob, ct_sg, ct_sl, tu]) dY2_interrupt_9 ?_
    refine lv_iload_n hx hb dY2_interrupt_12 rfl (lv_at hl 1 rfl) ?_
    refine wd_zald hx hb hK hP (4) 1 (by omega) mW_4 rfl (i2) (by omega) (by omega) rfl dY2_interrupt_13 ?_
    refine wi_if_eq (tgt := 19) hx hb (by omega) dY2_interrupt_14 (by decide) (fun c14 => ?_) (fun c14 => ?_)
    · refine lv_aload_n hx hb dY2_interrupt_19 rfl (lv_at hl 0 rfl) ?_
      refine wd_get (C := RX2) (T := TY2) (n := 17) (ci := ciM) (v := .ref (ad 6)) hx hb hts (by decide +kernel) hown hK hP (0) (by omega) mW_0 rfl 7 (by decide) (hts (.fieldLink RX2 26 "CarThreadsModel" "interrupted" "[Z") (by decide +kernel)) (fun _ h9 => h9) (by first | rfl | simp [cw_nd, cw_ob, mw_ob, ct_sg, ct_sl, tu]) dY2_interrupt_20 ?_
      refine lv_iload_n hx hb dY2_interrupt_23 rfl (lv_at hl 1 rfl) ?_
      refine lv_iconst (v := nI 1) hx hb dY2_interrupt_24 (by decide) ?_
      refine wd_zast hx hb hK hP hI (fun k h => wA_in h) hS (6) 1 (by omega) mW_6 rfl (i2) (by omega) (by omega) (wi_nar2 (by omega)) rfl dY2_interrupt_25 (fun H locs hP hS => ?_)
      have hP : va_P D wCl (wl ad (mW cI cZ cJ ad (ct_sg σ 6 i2 1) ρ (nI 0)) 13) H := um_at (by omega) (by omega) rfl hP
      refine lv_iconst (v := nI 1) hx hb dY2_interrupt_26 (by decide) ?_
      have hF : f_int σ (nI i2) = (1, (ct_sg σ 6 i2 1)) := by unfold f_int; rw [hn, hki_i2, if_neg (by omega)]
      exact rt_z hQ hx hb hr hlocks () (by rw [hF]; exact hP) hS rfl (by rw [hF] <;> rfl) dY2_interrupt_27
    · refine lv_iconst (v := nI 0) hx hb dY2_interrupt_17 (by decide) ?_
      have hF : f_int σ (nI i2) = (0, σ) := by unfold f_int; rw [hn, hki_i2, if_pos (by omega)]
      exact rt_z hQ hx hb hr hlocks () (by rw [hF]; exact hP) hS rfl (by rw [hF] <;> rfl) dY2_interrupt_18
end P53
