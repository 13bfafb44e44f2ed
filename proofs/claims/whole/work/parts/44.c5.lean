section P44
abbrev rm_c_micro : Room := { frames := 3, cells := 0, slots := 0, locals := 71 }
set_option maxHeartbeats 4000000 in
set_option maxRecDepth 100000 in
theorem c_micro (l : Launch) {D : va_G} {cN cI : ClassId} {ad : Nat → Nat} {σ : St} {τ : Nat → Nat → Nat} {tr : Nat → Int32} {n : Nat} (hI : adI ad (5 + 2 * n)) (hv : ct_Inv σ) (hn : σ.1 0 0 = n) (hτ : tK τ) : Met l yX1_microsecondHappens wsX1_microsecondHappens rm_c_micro (va_Pc [.ref (ad 0)] (pC D wCl (tyC cN cI) ad (cW cN cI ad σ τ tr) (5 + 2 * n))) (qI (S := Nat → Nat → Nat) D wCl ad (5 + 2 * n) (fun r θ => r = nI (bN (ct_any (ct_cut σ n) n)) ∧ tK θ) (fun θ => cW cN cI ad (if ct_any (ct_cut σ n) n = true then ct_micro (ct_cut σ n) else ct_cut σ n) θ tr)) 0 0 (wA ad (5 + 2 * n)) := by
  refine Met.go (cc := cX1_microsecondHappens) (maxL := 1) (ret := (some .boolean)) (by decide) rfl (Nat.le_of_ble_eq_true rfl) ?_
  intro p e s m below meth c ls args Q ⟨hx, hb, hml, hown, hts⟩ hr hlocks hnm ⟨hP, hK⟩ hl hQ
  have hl : lv_has ls 1 [(0, .ref (ad 0))] := hl
  have hS : va_S (wA ad (5 + 2 * n)) s.heap s.heap [] := va_S.rf
  have hn30 : n ≤ 30 := by have := hv.1.1; omega
  have hnX : (ct_cut σ n).1 0 0 = n := by rw [ct_cut_n]; exact hn
  have hvX : ct_Inv (ct_cut σ n) := ct_Inv_cut hv n (by omega)
  have hR := tK_R hτ (ct_cut σ n) n
  refine lv_aload_n hx hb dX1_microsecondHappens_0 rfl (lv_at hl 0 rfl) ?_
  refine wd_callv (va_runV (As := []) (rest := []) ⟨hx, hb, hml, hown, hts⟩ (c_cutNow l hI hv hn) (cwV 0 hts gX1_microsecondHappens_X1_endNodesCutNow rfl rfl rfl (by decide +kernel) ⟨Nat.le_of_ble_eq_true rfl, Nat.le_of_ble_eq_true rfl⟩) (wd_pre (q := (RX1, TX1, 9)) (ci := ciT) hK hP (by omega) rfl cW_0) rfl rfl hl.1 rfl (lv_room (Nat.le_of_ble_eq_true rfl)) dX1_microsecondHappens_1 ⟨Nat.zero_le _, Nat.zero_le _⟩) hS (fun k h => wA_in h) (fun uv1 H locs ev1 hP hz hk hS => ?_)
  refine lv_aload_n hx hb dX1_microsecondHappens_4 rfl (lv_at hl 0 rfl) ?_
  refine wd_calli (va_runV (As := []) (rest := []) ⟨hx, hb, hml, hown, hts⟩ (c_findReady l (σ := ct_cut σ n) hI hvX hnX) (cwV 0 hts gX1_microsecondHappens_X1_findReady rfl rfl rfl (by decide +kernel) ⟨Nat.le_of_ble_eq_true rfl, Nat.le_of_ble_eq_true rfl⟩) (wd_pre (q := (RX1, TX1, 9)) (ci := ciT) hK hP (by omega) rfl cW_0) rfl rfl hl.1 rfl (lv_room (Nat.le_of_ble_eq_true rfl)) dX1_microsecondHappens_5 ⟨Nat.zero_le _, Nat.zero_le _⟩) hS (fun k h => wA_in h) (fun r2 ur2 H locs er2 hP hz hk hS => ?_)
  by_cases hany : ct_any (ct_cut σ n) n = true
  · rw [hany] at er2
    obtain rfl : r2 = nI 1 := er2
    refine wi_if_ne (tgt := 13) hx hb (by omega) dX1_microsecondHappens_8 (by decide) (fun z => ?_) (fun z => absurd z (by decide))
    refine lv_aload_n hx hb dX1_microsecondHappens_13 rfl (lv_at hl 0 rfl) ?_
    have hr0 : ∀ i, 1 ≤ i → i ≤ n → tR τ (ct_cut σ n) n 0 i = bN (ct_go (ct_cut σ n) i) := fun i a b => tR_in a b
    refine wd_callv (va_runV (As := []) (rest := []) ⟨hx, hb, hml, hown, hts⟩ (c_stepInTurns l (σ := ct_cut σ n) (τ := tR τ (ct_cut σ n) n) hI hvX hnX hR.2.2 hr0 hR.1) (cwV 0 hts gX1_microsecondHappens_X1_stepInTurns rfl rfl rfl (by decide +kernel) ⟨Nat.le_of_ble_eq_true rfl, Nat.le_of_ble_eq_true rfl⟩) (wd_pre (q := (RX1, TX1, 9)) (ci := ciT) hK hP (by omega) rfl cW_0) rfl rfl hl.1 rfl (lv_room (Nat.le_of_ble_eq_true rfl)) dX1_microsecondHappens_14 ⟨Nat.zero_le _, Nat.zero_le _⟩) hS (fun k h => wA_in h) (fun uv3 H locs ev3 hP hz hk hS => ?_)
    refine lv_aload_n hx hb dX1_microsecondHappens_17 rfl (lv_at hl 0 rfl) ?_
    refine wd_callv (va_runV (As := []) (rest := []) ⟨hx, hb, hml, hown, hts⟩ (c_stepOthers l (σ := ct_cut σ n) (τ := tu (tR τ (ct_cut σ n) n) 2 0 0) hI hvX hnX uv3 ev3 (fun i a b => hr0 i a b) (fun i => hR.1 i)) (cwV 0 hts gX1_microsecondHappens_X1_stepOthers rfl rfl rfl (by decide +kernel) ⟨Nat.le_of_ble_eq_true rfl, Nat.le_of_ble_eq_true rfl⟩) (wd_pre (q := (RX1, TX1, 9)) (ci := ciT) hK hP (by omega) rfl cW_0) rfl rfl hl.1 rfl (lv_room (Nat.le_of_ble_eq_true rfl)) dX1_microsecondHappens_18 ⟨Nat.zero_le _, Nat.zero_le _⟩) hS (fun k h => wA_in h) (fun uv4 H locs ev4 hP hz hk hS => ?_)
    refine lv_aload_n hx hb dX1_microsecondHappens_21 rfl (lv_at hl 0 rfl) ?_
    have h1z : ∀ i, (tu (tR τ (ct_cut σ n) n) 2 0 0) 1 i = 0 := fun i => hR.2.1 i
    have h1y : ∀ i, tX (tu (tR τ (ct_cut σ n) n) 2 0 0) (ct_cut σ n) (ct_X (ct_cut σ n)) 1 i ≤ 1 := fun i => by
      show (if 1 = 0 ∧ _ then 0 else if 1 = 1 ∧ _ then 1 else _) ≤ 1
      rw [if_neg (by omega)]; split <;> first | omega | (rw [h1z]; omega)
    refine wd_callv (va_runV (As := []) (rest := []) ⟨hx, hb, hml, hown, hts⟩ (c_noteSteps l (σ := ct_mul (ct_cut σ n) (ct_X (ct_cut σ n))) (τ := (tX (tu (tR τ (ct_cut σ n) n) 2 0 0) (ct_cut σ n) (ct_X (ct_cut σ n)))) hI (ct_Inv_mul hvX (fun _ => ct_X_of)) hnX h1y) (cwV 0 hts gX1_microsecondHappens_X1_noteSteps rfl rfl rfl (by decide +kernel) ⟨Nat.le_of_ble_eq_true rfl, Nat.le_of_ble_eq_true rfl⟩) (wd_pre (q := (RX1, TX1, 9)) (ci := ciT) hK hP (by omega) rfl cW_0) rfl rfl hl.1 rfl (lv_room (Nat.le_of_ble_eq_true rfl)) dX1_microsecondHappens_22 ⟨Nat.zero_le _, Nat.zero_le _⟩) hS (fun k h => wA_in h) (fun uv5 H locs ev5 hP hz hk hS => ?_)
    have hLE := ct_log_eq (τ := tu (tR τ (ct_cut σ n) n) 2 0 0) (σ := ct_cut σ n) h1z
    rw [hnX] at hLE
    rw [hLE] at hP
    refine lv_aload_n hx hb dX1_microsecondHappens_25 rfl (lv_at hl 0 rfl) ?_
    refine lv_dup hx hb dX1_microsecondHappens_26 rfl ?_
    refine wd_get (C := RX1) (T := TX1) (n := 9) (ci := ciT) (v := .long ((ct_wl (ct_mul (ct_cut σ n) (ct_X (ct_cut σ n))) (ct_lg (ct_Y (ct_cut σ n) (ct_X (ct_cut σ n))) (ct_E (ct_cut σ n)) (ct_L (ct_cut σ n)) n)).2.2 0)) hx hb hts (by decide +kernel) hown hK hP (0) (by omega) cW_0 rfl 8 (by decide) (hts (.fieldLink RX1 63 "CarThreads" "nextMicro" "J") (by decide +kernel)) (fun _ h9 => h9) (by first | rfl | simp [cw_nd, cw_ob, mw_ob, ct_sg, ct_sl, tu]) dX1_microsecondHappens_27 ?_
    refine lv_lconst (v := 1) hx hb dX1_microsecondHappens_30 (by decide) ?_
    refine lv_ladd hx hb dX1_microsecondHappens_31 ?_
    refine wd_put (C := RX1) (T := TX1) (n := 9) (ci := ciT) (v := .long ((ct_wl (ct_mul (ct_cut σ n) (ct_X (ct_cut σ n))) (ct_lg (ct_Y (ct_cut σ n) (ct_X (ct_cut σ n))) (ct_E (ct_cut σ n)) (ct_L (ct_cut σ n)) n)).2.2 0 + 1)) (ty := .long) hx hb hts (by decide +kernel) tyX1 tyX1_ok nmX1 hown hK hP hI (fun k h => wA_in h) hS (0) (by omega) cW_0 rfl 8 (by decide) (hts (.fieldLink RX1 63 "CarThreads" "nextMicro" "J") (by decide +kernel)) (fun _ h9 => h9) rfl (by decide +kernel) rfl rfl (Nat.le_of_ble_eq_true rfl) dX1_microsecondHappens_32 (fun H locs hP hS => ?_)
    have hP : va_P D wCl (wl ad (cW cN cI ad (ct_sl (ct_wl (ct_mul (ct_cut σ n) (ct_X (ct_cut σ n))) (ct_lg (ct_Y (ct_cut σ n) (ct_X (ct_cut σ n))) (ct_E (ct_cut σ n)) (ct_L (ct_cut σ n)) n)) 0 ((ct_wl (ct_mul (ct_cut σ n) (ct_X (ct_cut σ n))) (ct_lg (ct_Y (ct_cut σ n) (ct_X (ct_cut σ n))) (ct_E (ct_cut σ n)) (ct_L (ct_cut σ n)) n)).2.2 0 + 1)) (tN (tX (tu (tR τ (ct_cut σ n) n) 2 0 0) (ct_cut σ n) (ct_X (ct_cut σ n))) n) tr) (5 + 2 * n)) H := up_ob hP (by simp [cw_ob, ct_sg, ct_sl, tu]) rfl rfl rfl (fun x hx1 _ => by simp [cw_nd, ct_sl]; omega) rfl rfl
    refine lv_iconst (v := nI 1) hx hb dX1_microsecondHappens_35 (by decide) ?_
    have hKN := tK_N (τ := tu (tR τ (ct_cut σ n) n) 2 0 0) ⟨hR.1, hR.2.1, by show (0 : Nat) ≤ 500; omega⟩ rfl (ct_cut σ n) n hnX
    exact rt_z hQ hx hb hr hlocks (tN (tX (tu (tR τ (ct_cut σ n) n) 2 0 0) (ct_cut σ n) (ct_X (ct_cut σ n))) n) (by rw [if_pos hany]; unfold ct_micro; rw [hnX]; exact hP) hS rfl ⟨by rw [hany]; rfl, hKN⟩ dX1_microsecondHappens_36
  · simp at hany
    rw [hany] at er2
    obtain rfl : r2 = nI 0 := er2
    refine wi_if_ne (tgt := 13) hx hb (by omega) dX1_microsecondHappens_8 (by decide) (fun z => absurd z (by decide)) (fun z => ?_)
    refine lv_iconst (v := nI 0) hx hb dX1_microsecondHappens_11 (by decide) ?_
    exact rt_z hQ hx hb hr hlocks (tR τ (ct_cut σ n) n) (by rw [if_neg (by simp [hany])]; exact hP) hS rfl ⟨by rw [hany]; rfl, hR⟩ dX1_microsecondHappens_12
abbrev rm_c_run : Room := { frames := 4, cells := 0, slots := 0, locals := 91 }
set_option maxHeartbeats 4000000 in
set_option maxRecDepth 100000 in
theorem c_run (l : Launch) {D : va_G} {cN cI : ClassId} {ad : Nat → Nat} {σ : St} {τ : Nat → Nat → Nat} {tr : Nat → Int32} {n : Nat} (hI : adI ad (5 + 2 * n)) (hv : ct_Inv σ) (hn : σ.1 0 0 = n) (hτ : tK τ) : Met l yX1_run wsX1_run rm_c_run (va_Pc [.ref (ad 0)] (pC D wCl (tyC cN cI) ad (cW cN cI ad σ τ tr) (5 + 2 * n))) (qI (S := Nat → Nat → Nat) D wCl ad (5 + 2 * n) (fun r θ => r = nI (ct_run 1000 σ).1 ∧ tK θ) (fun θ => cW cN cI ad (ct_run 1000 σ).2 θ tr)) 0 0 (wA ad (5 + 2 * n)) := by
  refine Met.go (cc := cX1_run) (maxL := 2) (ret := (some .int)) (by decide) rfl (Nat.le_of_ble_eq_true rfl) ?_
  intro p e s m below meth c ls args Q ⟨hx, hb, hml, hown, hts⟩ hr hlocks hnm ⟨hP, hK⟩ hl hQ
  have hl : lv_has ls 2 [(0, .ref (ad 0))] := hl
  have hS : va_S (wA ad (5 + 2 * n)) s.heap s.heap [] := va_S.rf
  have hn30 : n ≤ 30 := by have := hv.1.1; omega
  refine lv_iconst (v := nI 0) hx hb dX1_run_0 (by decide) ?_
  refine lv_istore_n (lv' := [(1, .int (nI (0))), (0, .ref (ad 0))]) hx hb dX1_run_1 rfl hl (by decide) rfl (fun ls hl => ?_)
  have loop2 : ∀ (f t : Nat) (μ : St) (θ : Nat → Nat → Nat) (H : Heap) (locs : List Loc) (ls : Array Slot), 1000 - t = f → t ≤ 1000 → ct_run 1000 σ = (t + (ct_run (1000 - t) μ).1, (ct_run (1000 - t) μ).2) → ct_Inv μ → μ.1 0 0 = n → tK θ → va_P D wCl (wl ad (cW cN cI ad μ θ tr) (5 + 2 * n)) H → va_S (wA ad (5 + 2 * n)) s.heap H locs → lv_has ls 2 [(1, .int (nI (t))), (0, .ref (ad 0))] → W p l e rm_c_run s m args below meth c H locs 0 0 Q (F0 m 2 ls []) := by
    intro f
    induction f with
    | zero =>
      intro t μ θ H locs ls hf hj hRn hvμ hnμ hθ hP hS hl
      rw [hf] at hRn
      refine lv_iload_n hx hb dX1_run_2 rfl (lv_at hl 0 rfl) ?_
      refine lv_sipush (v := nI 1000) hx hb dX1_run_3 (by decide) ?_
      refine wi_icmp_ge (tgt := 22) hx hb (by omega) (by omega) dX1_run_6 (by decide) (fun c6 => ?_) (fun z => absurd z (by omega))
      refine lv_aload_n hx hb dX1_run_22 rfl (lv_at hl 1 rfl) ?_
      refine lv_iconst (v := nI 0) hx hb dX1_run_23 (by decide) ?_
      refine wd_put (C := RX1) (T := TX1) (n := 9) (ci := ciT) (v := .int (nI (0))) (ty := .int) hx hb hts (by decide +kernel) tyX1 tyX1_ok nmX1 hown hK hP hI (fun k h => wA_in h) hS (0) (by omega) cW_0 rfl 4 (by decide) (hts (.fieldLink RX1 50 "CarThreads" "turnCount" "I") (by decide +kernel)) (fun _ h9 => h9) rfl (by decide +kernel) rfl rfl (Nat.le_of_ble_eq_true rfl) dX1_run_24 (fun H locs hP hS => ?_)
      have hP : va_P D wCl (wl ad (cW cN cI ad μ (tu θ 2 0 0) tr) (5 + 2 * n)) H := up_ob hP (by simp [cw_ob, ct_sg, ct_sl, tu]) rfl rfl rfl (fun x hx1 _ => by rfl) rfl rfl
      refine lv_iload_n hx hb dX1_run_27 rfl (lv_at hl 0 rfl) ?_
      exact rt_i hQ hx hb hr hlocks (tu θ 2 0 0) (by rw [hRn]; exact hP) hS ⟨by rw [hRn]; rfl, ⟨hθ.1, hθ.2.1, by show (0 : Nat) ≤ 500; omega⟩⟩ dX1_run_28
    | succ f ih =>
      intro t μ θ H locs ls hf hj hRn hvμ hnμ hθ hP hS hl
      rw [hf] at hRn
      refine lv_iload_n hx hb dX1_run_2 rfl (lv_at hl 0 rfl) ?_
      refine lv_sipush (v := nI 1000) hx hb dX1_run_3 (by decide) ?_
      refine wi_icmp_ge (tgt := 22) hx hb (by omega) (by omega) dX1_run_6 (by decide) (fun z => absurd z (by omega)) (fun c6 => ?_)
      refine lv_aload_n hx hb dX1_run_9 rfl (lv_at hl 1 rfl) ?_
      refine wd_calli (va_runV (As := []) (rest := []) ⟨hx, hb, hml, hown, hts⟩ (c_micro l (σ := μ) (τ := θ) hI hvμ hnμ hθ) (cwV 0 hts gX1_run_X1_microsecondHappens rfl rfl rfl (by decide +kernel) ⟨Nat.le_of_ble_eq_true rfl, Nat.le_of_ble_eq_true rfl⟩) (wd_pre (q := (RX1, TX1, 9)) (ci := ciT) hK hP (by omega) rfl cW_0) rfl rfl hl.1 rfl (lv_room (Nat.le_of_ble_eq_true rfl)) dX1_run_10 ⟨Nat.zero_le _, Nat.zero_le _⟩) hS (fun k h => wA_in h) (fun r1 ur1 H locs er1 hP hz hk hS => ?_)
      obtain ⟨er, hθ1⟩ := er1
      have hun : ct_run (f + 1) μ = if ct_any (ct_cut μ n) n = true then ((ct_run f (ct_micro (ct_cut μ n))).1 + 1, (ct_run f (ct_micro (ct_cut μ n))).2) else (0, ct_cut μ n) := by rw [← hnμ]; rfl
      by_cases hany : ct_any (ct_cut μ n) n = true
      · rw [hany] at er
        obtain rfl : r1 = nI 1 := er
        rw [if_pos hany] at hP hun
        rw [hun] at hRn
        refine wi_if_eq (tgt := 22) hx hb (by omega) dX1_run_13 (by decide) (fun z => absurd z (by decide)) (fun z => ?_)
        refine lv_iinc (v := nI (t + 1)) (lv' := [(1, .int (nI (t + 1))), (0, .ref (ad 0))]) hx hb dX1_run_16 hl (k := 0) rfl (wi_inc _) (by decide) rfl (fun ls hl => ?_)
        refine lv_goto (tgt := 2) hx hb dX1_run_19 (by decide) ?_
        have hRn2 : ct_run 1000 σ = (t + 1 + (ct_run (1000 - (t + 1)) (ct_micro (ct_cut μ n))).1, (ct_run (1000 - (t + 1)) (ct_micro (ct_cut μ n))).2) := by
          rw [show 1000 - (t + 1) = f by omega, hRn]; congr 1; omega
        exact ih (t + 1) (ct_micro (ct_cut μ n)) ur1 _ _ _ (by omega) (by omega) hRn2 (ct_Inv_micro (ct_Inv_cut hvμ n (by omega))) (by rw [ct_micro_n, ct_cut_n]; exact hnμ) hθ1 hP hS (lv_sub hl [0, 1] rfl)
      · simp at hany
        rw [hany] at er
        obtain rfl : r1 = nI 0 := er
        rw [if_neg (by simp [hany])] at hP hun
        rw [hun] at hRn
        refine wi_if_eq (tgt := 22) hx hb (by omega) dX1_run_13 (by decide) (fun z => ?_) (fun z => absurd z (by decide))
        refine lv_aload_n hx hb dX1_run_22 rfl (lv_at hl 1 rfl) ?_
        refine lv_iconst (v := nI 0) hx hb dX1_run_23 (by decide) ?_
        refine wd_put (C := RX1) (T := TX1) (n := 9) (ci := ciT) (v := .int (nI (0))) (ty := .int) hx hb hts (by decide +kernel) tyX1 tyX1_ok nmX1 hown hK hP hI (fun k h => wA_in h) hS (0) (by omega) cW_0 rfl 4 (by decide) (hts (.fieldLink RX1 50 "CarThreads" "turnCount" "I") (by decide +kernel)) (fun _ h9 => h9) rfl (by decide +kernel) rfl rfl (Nat.le_of_ble_eq_true rfl) dX1_run_24 (fun H locs hP hS => ?_)
        have hP : va_P D wCl (wl ad (cW cN cI ad (ct_cut μ n) (tu ur1 2 0 0) tr) (5 + 2 * n)) H := up_ob hP (by simp [cw_ob, ct_sg, ct_sl, tu]) rfl rfl rfl (fun x hx1 _ => by rfl) rfl rfl
        refine lv_iload_n hx hb dX1_run_27 rfl (lv_at hl 0 rfl) ?_
        exact rt_i hQ hx hb hr hlocks (tu ur1 2 0 0) (by rw [hRn]; exact hP) hS ⟨by rw [hRn]; rfl, ⟨hθ1.1, hθ1.2.1, by show (0 : Nat) ≤ 500; omega⟩⟩ dX1_run_28
  exact loop2 _ 0 σ τ _ _ _ rfl (by omega) (by simp) hv hn hτ hP hS (lv_sub hl [0, 1] rfl)
end P44
