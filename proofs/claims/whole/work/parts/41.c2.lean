section P41
abbrev rm_c_endNode : Room := { frames := 0, cells := 0, slots := 0, locals := 0 }
set_option maxHeartbeats 4000000 in
set_option maxRecDepth 100000 in
theorem c_endNode (l : Launch) {D : va_G} {cN cI : ClassId} {ad : Nat → Nat} {σ : St} {τ : Nat → Nat → Nat} {tr : Nat → Int32} {n : Nat} (hI : adI ad (5 + 2 * n)) (hv : ct_W σ) (hn : σ.1 0 0 = n) {i : Nat} (h1 : 1 ≤ i) (h2 : i ≤ n) : Met l yX1_endNode wsX1_endNode rm_c_endNode (va_Pc [.ref (ad 0), .ref (ad (3 + 2 * i))] (pC D wCl (tyC cN cI) ad (cW cN cI ad σ τ tr) (5 + 2 * n))) (qV (S := Unit) D wCl ad (5 + 2 * n) (fun _ => True) (fun _ => cW cN cI ad (if σ.1 4 i = 0 then ct_end σ i else σ) τ tr)) 0 0 (wA ad (5 + 2 * n)) := by
  refine Met.go (cc := cX1_endNode) (maxL := 3) (ret := none) (by decide) rfl (Nat.le_of_ble_eq_true rfl) ?_
  intro p e s m below meth c ls args Q ⟨hx, hb, hml, hown, hts⟩ hr hlocks hnm ⟨hP, hK⟩ hl hQ
  have hl : lv_has ls 3 [(0, .ref (ad 0)), (1, .ref (ad (3 + 2 * i)))] := hl
  have hS : va_S (wA ad (5 + 2 * n)) s.heap s.heap [] := va_S.rf
  have hn30 : n ≤ 30 := by have := hv.1; omega
  have hle4 := hv.2.1 i
  refine lv_aload_n hx hb dX1_endNode_0 rfl (lv_at hl 1 rfl) ?_
  refine wd_get (C := RX0) (T := TX0) (n := 12) (ci := ciN) (v := .int (nI (1 - σ.1 4 i))) hx hb hts (by decide +kernel) hown hK hP (3 + 2 * i) (by omega) (cW_nd (by omega)) rfl 5 (by decide) (hts (.fieldLink RX1 36 "CarThreads$Node" "alive" "Z") (by decide +kernel)) (fun _ h9 => h9) (by first | rfl | simp [cw_nd, cw_ob, mw_ob, ct_sg, ct_sl, tu]) dX1_endNode_1 ?_
  refine wi_if_ne (tgt := 8) hx hb (by omega) dX1_endNode_4 (by decide) (fun c4 => ?_) (fun c4 => ?_)
  · refine lv_aload_n hx hb dX1_endNode_8 rfl (lv_at hl 1 rfl) ?_
    refine lv_iconst (v := nI 0) hx hb dX1_endNode_9 (by decide) ?_
    refine wd_put (C := RX0) (T := TX0) (n := 12) (ci := ciN) (v := .int (nI (0))) (ty := .boolean) hx hb hts (by decide +kernel) tyX0 tyX0_ok nmX0 hown hK hP hI (fun k h => wA_in h) hS (3 + 2 * i) (by omega) (cW_nd (by omega)) rfl 5 (by decide) (hts (.fieldLink RX1 36 "CarThreads$Node" "alive" "Z") (by decide +kernel)) (fun _ h9 => h9) rfl (by decide +kernel) (wi_nar (by omega)) (wi_fit (by omega)) (Nat.le_of_ble_eq_true rfl) dX1_endNode_10 (fun H locs hP hS => ?_)
    have hP : va_P D wCl (wl ad (cW cN cI ad (ct_sg σ 4 i 1) τ tr) (5 + 2 * n)) H := up_nd hP (by omega) (by simp [cw_nd, ct_sg, ct_sl, tu]) (fun x hx _ => by simp [cw_nd, ct_sg, ct_sl, tu, hx]) (by rfl) rfl rfl rfl rfl rfl
    refine lv_iconst (v := nI 0) hx hb dX1_endNode_13 (by decide) ?_
    refine lv_istore_n (lv' := [(2, .int (nI (0))), (0, .ref (ad 0)), (1, .ref (ad (3 + 2 * i)))]) hx hb dX1_endNode_14 rfl hl (by decide) rfl (fun ls hl => ?_)
    have loop15 : ∀ (f t : Nat) (H : Heap) (locs : List Loc) (ls : Array Slot), 16 - t = f → t ≤ 16 → va_P D wCl (wl ad (cW cN cI ad (ct_fr (ct_sg σ 4 i 1) i t) τ tr) (5 + 2 * n)) H → va_S (wA ad (5 + 2 * n)) s.heap H locs → lv_has ls 3 [(2, .int (nI (t))), (0, .ref (ad 0)), (1, .ref (ad (3 + 2 * i)))] → W p l e rm_c_endNode s m args below meth c H locs 0 0 Q (F0 m 15 ls []) := by
      intro f
      induction f with
      | zero =>
        intro t H locs ls hf hj hP hS hl
        have ht16 : t = 16 := by omega
        refine lv_iload_n hx hb dX1_endNode_15 rfl (lv_at hl 0 rfl) ?_
        refine lv_bipush (v := nI 16) hx hb dX1_endNode_16 (by decide) ?_
        refine wi_icmp_ge (tgt := 44) hx hb (by omega) (by omega) dX1_endNode_18 (by decide) (fun c18 => ?_) (fun z => absurd z (by omega))
        refine lv_aload_n hx hb dX1_endNode_44 rfl (lv_at hl 2 rfl) ?_
        refine lv_dup hx hb dX1_endNode_45 rfl ?_
        refine wd_get (C := RX0) (T := TX0) (n := 12) (ci := ciN) (v := .int (nI ((ct_fr (ct_sg σ 4 i 1) i t).1 7 i))) hx hb hts (by decide +kernel) hown hK hP (3 + 2 * i) (by omega) (cW_nd (by omega)) rfl 10 (by decide) (hts (.fieldLink RX1 80 "CarThreads$Node" "lastPartsDone" "I") (by decide +kernel)) (fun _ h9 => h9) (by first | rfl | simp [cw_nd, cw_ob, mw_ob, ct_sg, ct_sl, tu]) dX1_endNode_46 ?_
        refine lv_iconst (v := nI 1) hx hb dX1_endNode_49 (by decide) ?_
        refine wi_add hx hb dX1_endNode_50 ?_
        refine wd_put (C := RX0) (T := TX0) (n := 12) (ci := ciN) (v := .int (nI (((ct_fr (ct_sg σ 4 i 1) i t).1 7 i) + 1))) (ty := .int) hx hb hts (by decide +kernel) tyX0 tyX0_ok nmX0 hown hK hP hI (fun k h => wA_in h) hS (3 + 2 * i) (by omega) (cW_nd (by omega)) rfl 10 (by decide) (hts (.fieldLink RX1 80 "CarThreads$Node" "lastPartsDone" "I") (by decide +kernel)) (fun _ h9 => h9) rfl (by decide +kernel) rfl rfl (Nat.le_of_ble_eq_true rfl) dX1_endNode_51 (fun H locs hP hS => ?_)
        have hP : va_P D wCl (wl ad (cW cN cI ad (ct_sg (ct_fr (ct_sg σ 4 i 1) i t) 7 i (((ct_fr (ct_sg σ 4 i 1) i t).1 7 i) + 1)) τ tr) (5 + 2 * n)) H := up_nd hP (by omega) (by simp [cw_nd, ct_sg, ct_sl, tu]) (fun x hx _ => by simp [cw_nd, ct_sg, ct_sl, tu, hx]) (by rfl) rfl rfl rfl rfl rfl
        exact rt_v hQ hx hb hr hlocks () (by rw [if_pos (by omega), ← ct_fr_end hv.2.2.2 h1]; rw [ht16] at hP; exact hP) hS trivial dX1_endNode_54
      | succ f ih =>
        intro t H locs ls hf hj hP hS hl
        refine lv_iload_n hx hb dX1_endNode_15 rfl (lv_at hl 0 rfl) ?_
        refine lv_bipush (v := nI 16) hx hb dX1_endNode_16 (by decide) ?_
        refine wi_icmp_ge (tgt := 44) hx hb (by omega) (by omega) dX1_endNode_18 (by decide) (fun z => absurd z (by omega)) (fun c18 => ?_)
        refine lv_aload_n hx hb dX1_endNode_21 rfl (lv_at hl 1 rfl) ?_
        refine wd_get (C := RX1) (T := TX1) (n := 9) (ci := ciT) (v := .ref (ad 2)) hx hb hts (by decide +kernel) hown hK hP (0) (by omega) cW_0 rfl 2 (by decide) (hts (.fieldLink RX1 15 "CarThreads" "holders" "[LCarThreads$Node;") (by decide +kernel)) (fun _ h9 => h9) (by first | rfl | simp [cw_nd, cw_ob, mw_ob, ct_sg, ct_sl, tu]) dX1_endNode_22 ?_
        refine lv_iload_n hx hb dX1_endNode_25 rfl (lv_at hl 0 rfl) ?_
        refine wd_aald hx hb hK hP (2) 0 (by omega) cW_2 rfl (t) (by omega) (by omega) rfl dX1_endNode_26 ?_
        refine lv_aload_n hx hb dX1_endNode_27 rfl (lv_at hl 2 rfl) ?_
        refine lv_acmp_ne (rx := cw_rf ad ((ct_fr (ct_sg σ 4 i 1) i t).1 9 (t + 1))) (ry := some (ad (3 + 2 * i))) (tgt := 38) hx hb dX1_endNode_28 (by decide) (fun c28 => ?_) (fun c28 => ?_)
        · refine lv_iinc (v := nI (t + 1)) (lv' := [(2, .int (nI (t + 1))), (0, .ref (ad 0)), (1, .ref (ad (3 + 2 * i)))]) hx hb dX1_endNode_38 hl (k := 0) rfl (wi_inc _) (by decide) rfl (fun ls hl => ?_)
          refine lv_goto (tgt := 15) hx hb dX1_endNode_41 (by decide) ?_
          have e1 : ¬ (ct_sg σ 4 i 1).1 9 (t + 1) = i := fun q => c28 ((cw_rf_eq hI (by rw [ct_fr_at, ← hn]; exact hv.2.2.1 _) h1 h2).mpr (by rw [ct_fr_at]; exact q))
          exact ih (t + 1) _ _ _ (by omega) (by omega) (by rw [ct_fr_skip e1]; exact hP) hS (lv_sub hl [0, 1, 2] rfl)
        · refine lv_aload_n hx hb dX1_endNode_31 rfl (lv_at hl 1 rfl) ?_
          refine wd_get (C := RX1) (T := TX1) (n := 9) (ci := ciT) (v := .ref (ad 2)) hx hb hts (by decide +kernel) hown hK hP (0) (by omega) cW_0 rfl 2 (by decide) (hts (.fieldLink RX1 15 "CarThreads" "holders" "[LCarThreads$Node;") (by decide +kernel)) (fun _ h9 => h9) (by first | rfl | simp [cw_nd, cw_ob, mw_ob, ct_sg, ct_sl, tu]) dX1_endNode_32 ?_
          refine lv_iload_n hx hb dX1_endNode_35 rfl (lv_at hl 0 rfl) ?_
          refine lv_null hx hb dX1_endNode_36 ?_
          refine wd_aastN hx hb hK hP hI (fun k h => wA_in h) hS (2) 0 (by omega) cW_2 rfl (t) (by omega) (by omega) rfl dX1_endNode_37 (fun H locs hP hS => ?_)
          have e1 : (ct_sg σ 4 i 1).1 9 (t + 1) = i := by rw [← ct_fr_at]; exact (cw_rf_eq hI (by rw [ct_fr_at, ← hn]; exact hv.2.2.1 _) h1 h2).mp c28
          have hP : va_P D wCl (wl ad (cW cN cI ad (ct_fr (ct_sg σ 4 i 1) i (t + 1)) τ tr) (5 + 2 * n)) H := up_2 hP (fr_row e1) (fun a ha => by funext x; simp [ct_fr, ha]) rfl
          refine lv_iinc (v := nI (t + 1)) (lv' := [(2, .int (nI (t + 1))), (0, .ref (ad 0)), (1, .ref (ad (3 + 2 * i)))]) hx hb dX1_endNode_38 hl (k := 0) rfl (wi_inc _) (by decide) rfl (fun ls hl => ?_)
          refine lv_goto (tgt := 15) hx hb dX1_endNode_41 (by decide) ?_
          exact ih (t + 1) _ _ _ (by omega) (by omega) hP hS (lv_sub hl [0, 1, 2] rfl)
    exact loop15 _ 0 _ _ _ rfl (by omega) (by rw [ct_fr_0]; exact hP) hS (lv_sub hl [0, 1, 2] rfl)
  · exact rt_v hQ hx hb hr hlocks () (by rw [if_neg (by omega)]; exact hP) hS trivial dX1_endNode_7
abbrev rm_c_note : Room := { frames := 0, cells := 0, slots := 0, locals := 0 }
set_option maxHeartbeats 4000000 in
set_option maxRecDepth 100000 in
theorem c_note (l : Launch) {D : va_G} {cN cI : ClassId} {ad : Nat → Nat} {σ : St} {τ : Nat → Nat → Nat} {tr : Nat → Int32} {n : Nat} (hI : adI ad (5 + 2 * n)) (hv : ct_Inv σ) (hn : σ.1 0 0 = n) (x : Nat) : Met l yX1_note wsX1_note rm_c_note (va_Pc [.ref (ad 0), .int (nI (x))] (pC D wCl (tyC cN cI) ad (cW cN cI ad σ τ tr) (5 + 2 * n))) (qV (S := Unit) D wCl ad (5 + 2 * n) (fun _ => True) (fun _ => cW cN cI ad (ct_note σ x) τ tr)) 0 0 (wA ad (5 + 2 * n)) := by
  refine Met.go (cc := cX1_note) (maxL := 2) (ret := none) (by decide) rfl (Nat.le_of_ble_eq_true rfl) ?_
  intro p e s m below meth c ls args Q ⟨hx, hb, hml, hown, hts⟩ hr hlocks hnm ⟨hP, hK⟩ hl hQ
  have hl : lv_has ls 2 [(0, .ref (ad 0)), (1, .int (nI (x)))] := hl
  have hS : va_S (wA ad (5 + 2 * n)) s.heap s.heap [] := va_S.rf
  have hn30 : n ≤ 30 := by have := hv.1.1; omega
  have hlc := hv.1.2.2
  refine lv_aload_n hx hb dX1_note_0 rfl (lv_at hl 0 rfl) ?_
  refine wd_get (C := RX1) (T := TX1) (n := 9) (ci := ciT) (v := .int (nI (σ.1 0 2))) hx hb hts (by decide +kernel) hown hK hP (0) (by omega) cW_0 rfl 6 (by decide) (hts (.fieldLink RX1 57 "CarThreads" "logCount" "I") (by decide +kernel)) (fun _ h9 => h9) (by first | rfl | simp [cw_nd, cw_ob, mw_ob, ct_sg, ct_sl, tu]) dX1_note_1 ?_
  refine lv_sipush (v := nI 2000) hx hb dX1_note_4 (by decide) ?_
  refine wi_icmp_ge (tgt := 30) hx hb (by omega) (by omega) dX1_note_7 (by decide) (fun c7 => ?_) (fun c7 => ?_)
  · exact rt_v hQ hx hb hr hlocks () (by rw [ct_note_ge (by omega)]; exact hP) hS trivial dX1_note_30
  · refine lv_aload_n hx hb dX1_note_10 rfl (lv_at hl 0 rfl) ?_
    refine wd_get (C := RX1) (T := TX1) (n := 9) (ci := ciT) (v := .ref (ad 4)) hx hb hts (by decide +kernel) hown hK hP (0) (by omega) cW_0 rfl 5 (by decide) (hts (.fieldLink RX1 22 "CarThreads" "logRow" "[I") (by decide +kernel)) (fun _ h9 => h9) (by first | rfl | simp [cw_nd, cw_ob, mw_ob, ct_sg, ct_sl, tu]) dX1_note_11 ?_
    refine lv_aload_n hx hb dX1_note_14 rfl (lv_at hl 0 rfl) ?_
    refine wd_get (C := RX1) (T := TX1) (n := 9) (ci := ciT) (v := .int (nI (σ.1 0 2))) hx hb hts (by decide +kernel) hown hK hP (0) (by omega) cW_0 rfl 6 (by decide) (hts (.fieldLink RX1 57 "CarThreads" "logCount" "I") (by decide +kernel)) (fun _ h9 => h9) (by first | rfl | simp [cw_nd, cw_ob, mw_ob, ct_sg, ct_sl, tu]) dX1_note_15 ?_
    refine lv_iload_n hx hb dX1_note_18 rfl (lv_at hl 1 rfl) ?_
    refine wd_iast hx hb hK hP hI (fun k h => wA_in h) hS (4) 1 (by omega) cW_4 rfl (σ.1 0 2) (by omega) (by omega) rfl dX1_note_19 (fun H locs hP hS => ?_)
    have hP : va_P D wCl (wl ad (cW cN cI ad (ct_sg σ 10 (σ.1 0 2) x) τ tr) (5 + 2 * n)) H := up_4 hP upr_note (fun a ha => by funext x; simp [ct_sg, ha]) rfl
    refine lv_aload_n hx hb dX1_note_20 rfl (lv_at hl 0 rfl) ?_
    refine lv_dup hx hb dX1_note_21 rfl ?_
    refine wd_get (C := RX1) (T := TX1) (n := 9) (ci := ciT) (v := .int (nI (σ.1 0 2))) hx hb hts (by decide +kernel) hown hK hP (0) (by omega) cW_0 rfl 6 (by decide) (hts (.fieldLink RX1 57 "CarThreads" "logCount" "I") (by decide +kernel)) (fun _ h9 => h9) (by first | rfl | simp [cw_nd, cw_ob, mw_ob, ct_sg, ct_sl, tu]) dX1_note_22 ?_
    refine lv_iconst (v := nI 1) hx hb dX1_note_25 (by decide) ?_
    refine wi_add hx hb dX1_note_26 ?_
    refine wd_put (C := RX1) (T := TX1) (n := 9) (ci := ciT) (v := .int (nI ((σ.1 0 2) + 1))) (ty := .int) hx hb hts (by decide +kernel) tyX1 tyX1_ok nmX1 hown hK hP hI (fun k h => wA_in h) hS (0) (by omega) cW_0 rfl 6 (by decide) (hts (.fieldLink RX1 57 "CarThreads" "logCount" "I") (by decide +kernel)) (fun _ h9 => h9) rfl (by decide +kernel) rfl rfl (Nat.le_of_ble_eq_true rfl) dX1_note_27 (fun H locs hP hS => ?_)
    have hP : va_P D wCl (wl ad (cW cN cI ad (ct_sg (ct_sg σ 10 (σ.1 0 2) x) 0 2 ((σ.1 0 2) + 1)) τ tr) (5 + 2 * n)) H := up_ob hP (by simp [cw_ob, ct_sg, ct_sl, tu]) rfl rfl rfl (fun x hx1 _ => by rfl) rfl rfl
    exact rt_v hQ hx hb hr hlocks () (by rw [← ct_note_lt (by omega)]; exact hP) hS trivial dX1_note_30
abbrev rm_c_least : Room := { frames := 1, cells := 0, slots := 0, locals := 20 }
set_option maxHeartbeats 4000000 in
set_option maxRecDepth 100000 in
theorem c_least (l : Launch) {D : va_G} {cN cI : ClassId} {ad : Nat → Nat} {σ : St} {τ : Nat → Nat → Nat} {tr : Nat → Int32} {n : Nat} (hI : adI ad (5 + 2 * n)) (hv : ct_Inv σ) (hn : σ.1 0 0 = n)  : Met l yX1_leastDoneByAlive wsX1_leastDoneByAlive rm_c_least (va_Pc [.ref (ad 0)] (pC D wCl (tyC cN cI) ad (cW cN cI ad σ τ tr) (5 + 2 * n))) (vp_Si (fun r => r = nI (ct_least σ n))) 0 0 (fun _ => False) := by
  refine Met.go (cc := cX1_leastDoneByAlive) (maxL := 6) (ret := (some .int)) (by decide) rfl (Nat.le_of_ble_eq_true rfl) ?_
  intro p e s m below meth c ls args Q ⟨hx, hb, hml, hown, hts⟩ hr hlocks hnm ⟨hP, hK⟩ hl hQ
  have hl : lv_has ls 6 [(0, .ref (ad 0))] := hl
  have hn30 : n ≤ 30 := by have := hv.1.1; omega
  refine lv_sipush (v := nI 200) hx hb dX1_leastDoneByAlive_0 (by decide) ?_
  refine lv_istore_n (lv' := [(1, .int (nI (200))), (0, .ref (ad 0))]) hx hb dX1_leastDoneByAlive_3 rfl hl (by decide) rfl (fun ls hl => ?_)
  refine lv_aload_n hx hb dX1_leastDoneByAlive_4 rfl (lv_at hl 1 rfl) ?_
  refine wd_get (C := RX1) (T := TX1) (n := 9) (ci := ciT) (v := .ref (ad 1)) hx hb hts (by decide +kernel) hown hK hP (0) (by omega) cW_0 rfl 0 (by decide) (hts (.fieldLink RX1 11 "CarThreads" "nodes" "[LCarThreads$Node;") (by decide +kernel)) (fun _ h9 => h9) (by first | rfl | simp [cw_nd, cw_ob, mw_ob, ct_sg, ct_sl, tu]) dX1_leastDoneByAlive_5 ?_
  refine lv_astore_n (lv' := [(2, .ref (ad 1)), (1, .int (nI (200))), (0, .ref (ad 0))]) hx hb dX1_leastDoneByAlive_8 rfl hl (by decide) rfl (fun ls hl => ?_)
  refine lv_aload_n hx hb dX1_leastDoneByAlive_9 rfl (lv_at hl 0 rfl) ?_
  refine wd_alen (v := nI 30) hx hb hK hP (1) 0 (by omega) cW_1 rfl rfl dX1_leastDoneByAlive_10 ?_
  refine lv_istore_n (lv' := [(3, .int (nI (30))), (2, .ref (ad 1)), (1, .int (nI (200))), (0, .ref (ad 0))]) hx hb dX1_leastDoneByAlive_11 rfl hl (by decide) rfl (fun ls hl => ?_)
  refine lv_iconst (v := nI 0) hx hb dX1_leastDoneByAlive_12 (by decide) ?_
  refine lv_istore (lv' := [(4, .int (nI (0))), (3, .int (nI (30))), (2, .ref (ad 1)), (1, .int (nI (200))), (0, .ref (ad 0))]) hx hb dX1_leastDoneByAlive_13 hl (by decide) rfl (fun ls hl => ?_)
  have loop15 : ∀ (f t : Nat) (kq : Nat) (ls : Array Slot), 30 - t = f → t ≤ 30 → ((t < n ∧ kq = t) ∨ (n ≤ t ∧ kq = n)) → lv_has ls 6 [(4, .int (nI (t))), (3, .int (nI (30))), (2, .ref (ad 1)), (1, .int (nI (ct_least σ kq))), (0, .ref (ad 0))] → W p l e rm_c_least s m args below meth c s.heap [] 0 0 Q (F0 m 15 ls []) := by
    intro f
    induction f with
    | zero =>
      intro t kq ls hf hj hkq hl
      obtain rfl : n = kq := by omega
      refine lv_iload hx hb dX1_leastDoneByAlive_15 (lv_at hl 0 rfl) ?_
      refine lv_iload_n hx hb dX1_leastDoneByAlive_17 rfl (lv_at hl 1 rfl) ?_
      refine wi_icmp_ge (tgt := 56) hx hb (by omega) (by omega) dX1_leastDoneByAlive_18 (by decide) (fun c18 => ?_) (fun z => absurd z (by omega))
      refine lv_iload_n hx hb dX1_leastDoneByAlive_56 rfl (lv_at hl 3 rfl) ?_
      exact ro_i hQ hx hb hr hlocks rfl dX1_leastDoneByAlive_57
    | succ f ih =>
      intro t kq ls hf hj hkq hl
      refine lv_iload hx hb dX1_leastDoneByAlive_15 (lv_at hl 0 rfl) ?_
      refine lv_iload_n hx hb dX1_leastDoneByAlive_17 rfl (lv_at hl 1 rfl) ?_
      refine wi_icmp_ge (tgt := 56) hx hb (by omega) (by omega) dX1_leastDoneByAlive_18 (by decide) (fun z => absurd z (by omega)) (fun c18 => ?_)
      refine lv_aload_n hx hb dX1_leastDoneByAlive_21 rfl (lv_at hl 2 rfl) ?_
      refine lv_iload hx hb dX1_leastDoneByAlive_22 (lv_at hl 0 rfl) ?_
      refine wd_aald hx hb hK hP (1) 0 (by omega) cW_1 rfl (t) (by omega) (by omega) rfl dX1_leastDoneByAlive_24 ?_
      by_cases hlt : t < n
      · obtain rfl : t = kq := by omega
        obtain ⟨_, _, _, _, _, _, _, _, _⟩ := hv.2.1 (t + 1) (by omega) (by omega)
        have hle := ct_least_le σ t
        rw [hn, cw_ns_in hlt]
        refine lv_astore (lv' := [(5, .ref (ad (3 + 2 * (t + 1)))), (4, .int (nI (t))), (3, .int (nI (30))), (2, .ref (ad 1)), (1, .int (nI (ct_least σ t))), (0, .ref (ad 0))]) hx hb dX1_leastDoneByAlive_25 hl (by decide) rfl (fun ls hl => ?_)
        refine lv_aload hx hb dX1_leastDoneByAlive_27 (lv_at hl 0 rfl) ?_
        refine lv_ifnull hx hb dX1_leastDoneByAlive_29 ?_
        refine lv_aload hx hb dX1_leastDoneByAlive_32 (lv_at hl 0 rfl) ?_
        refine wd_get (C := RX0) (T := TX0) (n := 12) (ci := ciN) (v := .int (nI (1 - σ.1 4 (t + 1)))) hx hb hts (by decide +kernel) hown hK hP (3 + 2 * (t + 1)) (by omega) (cW_nd (by omega)) rfl 5 (by decide) (hts (.fieldLink RX1 36 "CarThreads$Node" "alive" "Z") (by decide +kernel)) (fun _ h9 => h9) (by first | rfl | simp [cw_nd, cw_ob, mw_ob, ct_sg, ct_sl, tu]) dX1_leastDoneByAlive_34 ?_
        refine wi_if_eq (tgt := 50) hx hb (by omega) dX1_leastDoneByAlive_37 (by decide) (fun c37 => ?_) (fun c37 => ?_)
        · refine lv_iinc (v := nI (t + 1)) (lv' := [(4, .int (nI (t + 1))), (5, .ref (ad (3 + 2 * (t + 1)))), (3, .int (nI (30))), (2, .ref (ad 1)), (1, .int (nI (ct_least σ t))), (0, .ref (ad 0))]) hx hb dX1_leastDoneByAlive_50 hl (k := 1) rfl (wi_inc _) (by decide) rfl (fun ls hl => ?_)
          refine lv_goto (tgt := 15) hx hb dX1_leastDoneByAlive_53 (by decide) ?_
          have e1 : ct_least σ (t + 1) = ct_least σ t := by
            show (if σ.1 4 (t + 1) = 0 then _ else _) = _
            rw [if_neg (by omega)]
          exact ih (t + 1) (t + 1) _ (by omega) (by omega) (by omega) (by rw [e1]; exact lv_sub hl [0, 2, 3, 4, 5] rfl)
        · refine lv_iload_n hx hb dX1_leastDoneByAlive_40 rfl (lv_at hl 4 rfl) ?_
          refine lv_aload hx hb dX1_leastDoneByAlive_41 (lv_at hl 0 rfl) ?_
          refine wd_get (C := RX0) (T := TX0) (n := 12) (ci := ciN) (v := .int (nI (σ.1 3 (t + 1)))) hx hb hts (by decide +kernel) hown hK hP (3 + 2 * (t + 1)) (by omega) (cW_nd (by omega)) rfl 4 (by decide) (hts (.fieldLink RX1 116 "CarThreads$Node" "done" "I") (by decide +kernel)) (fun _ h9 => h9) (by first | rfl | simp [cw_nd, cw_ob, mw_ob, ct_sg, ct_sl, tu]) dX1_leastDoneByAlive_43 ?_
          refine va_mmin hx hb (by rw [hml]; exact hl.1.symm) hown (hts (.methodLink RX1 119 Lib.Math.min.name) (by decide +kernel)) (hts (.static Lib.Math.min.name) (by decide +kernel)) (hts (.initialized "java/lang/Math") (by decide +kernel)) (hts (.code Lib.Math.min.name Lib.Math.min.code 2 (some .int)) (by decide +kernel)) (Nat.le_of_ble_eq_true rfl) (Nat.le_of_ble_eq_true rfl) (Nat.zero_le _) (Nat.zero_le _) dX1_leastDoneByAlive_46 ?_
          rw [mm_nat (by omega) (by omega)]
          refine lv_istore_n (lv' := [(1, .int (nI (min (ct_least σ t) (σ.1 3 (t + 1))))), (5, .ref (ad (3 + 2 * (t + 1)))), (4, .int (nI (t))), (3, .int (nI (30))), (2, .ref (ad 1)), (0, .ref (ad 0))]) hx hb dX1_leastDoneByAlive_49 rfl hl (by decide) rfl (fun ls hl => ?_)
          refine lv_iinc (v := nI (t + 1)) (lv' := [(4, .int (nI (t + 1))), (1, .int (nI (min (ct_least σ t) (σ.1 3 (t + 1))))), (5, .ref (ad (3 + 2 * (t + 1)))), (3, .int (nI (30))), (2, .ref (ad 1)), (0, .ref (ad 0))]) hx hb dX1_leastDoneByAlive_50 hl (k := 2) rfl (wi_inc _) (by decide) rfl (fun ls hl => ?_)
          refine lv_goto (tgt := 15) hx hb dX1_leastDoneByAlive_53 (by decide) ?_
          have e1 : ct_least σ (t + 1) = min (ct_least σ t) (σ.1 3 (t + 1)) := by
            show (if σ.1 4 (t + 1) = 0 then _ else _) = _
            rw [if_pos (by omega)]
          exact ih (t + 1) (t + 1) _ (by omega) (by omega) (by omega) (by rw [e1]; exact lv_sub hl [0, 3, 4, 1, 5] rfl)
      · obtain rfl : n = kq := by omega
        rw [hn, cw_ns_out hlt]
        refine lv_astoreN (lv' := [(5, .null), (4, .int (nI (t))), (3, .int (nI (30))), (2, .ref (ad 1)), (1, .int (nI (ct_least σ n))), (0, .ref (ad 0))]) hx hb dX1_leastDoneByAlive_25 hl (by decide) rfl (fun ls hl => ?_)
        refine lv_aloadN hx hb dX1_leastDoneByAlive_27 (lv_at hl 0 rfl) ?_
        refine lv_ifnullN (tgt := 50) hx hb dX1_leastDoneByAlive_29 (by decide) ?_
        refine lv_iinc (v := nI (t + 1)) (lv' := [(4, .int (nI (t + 1))), (5, .null), (3, .int (nI (30))), (2, .ref (ad 1)), (1, .int (nI (ct_least σ n))), (0, .ref (ad 0))]) hx hb dX1_leastDoneByAlive_50 hl (k := 1) rfl (wi_inc _) (by decide) rfl (fun ls hl => ?_)
        refine lv_goto (tgt := 15) hx hb dX1_leastDoneByAlive_53 (by decide) ?_
        exact ih (t + 1) n _ (by omega) (by omega) (by omega) (lv_sub hl [0, 2, 3, 4, 5] rfl)
  exact loop15 _ 0 0 _ rfl (by omega) (by omega) (lv_sub hl [0, 1, 2, 3, 4] rfl)
abbrev rm_c_wab : Room := { frames := 0, cells := 0, slots := 0, locals := 0 }
set_option maxHeartbeats 4000000 in
set_option maxRecDepth 100000 in
theorem c_wab (l : Launch) {D : va_G} {cN cI : ClassId} {ad : Nat → Nat} {σ : St} {τ : Nat → Nat → Nat} {tr : Nat → Int32} {n : Nat} (hI : adI ad (5 + 2 * n)) (hv : ct_Inv σ) (hn : σ.1 0 0 = n) {i : Nat} (h1 : 1 ≤ i) (h2 : i ≤ n) (x : Nat) (hx9 : x ≤ 200) : Met l yX1_waitsAtBarrier wsX1_waitsAtBarrier rm_c_wab (va_Pc [.ref (ad 0), .ref (ad (3 + 2 * i)), .int (nI (x))] (pC D wCl (tyC cN cI) ad (cW cN cI ad σ τ tr) (5 + 2 * n))) (vp_Si (fun r => r = if σ.1 0 1 = 0 ∨ σ.1 3 i % σ.1 0 1 ≠ 0 ∨ σ.1 3 i ≤ x then nI 0 else nI 1)) 0 0 (fun _ => False) := by
  refine Met.go (cc := cX1_waitsAtBarrier) (maxL := 3) (ret := (some .boolean)) (by decide) rfl (Nat.le_of_ble_eq_true rfl) ?_
  intro p e s m below meth c ls args Q ⟨hx, hb, hml, hown, hts⟩ hr hlocks hnm ⟨hP, hK⟩ hl hQ
  have hl : lv_has ls 3 [(0, .ref (ad 0)), (1, .ref (ad (3 + 2 * i))), (2, .int (nI (x)))] := hl
  have hn30 : n ≤ 30 := by have := hv.1.1; omega
  obtain ⟨_, _, _, _, _, _, _, _, _⟩ := hv.2.1 i h1 (by omega)
  have hbr := hv.1.2.1
  refine lv_aload_n hx hb dX1_waitsAtBarrier_0 rfl (lv_at hl 0 rfl) ?_
  refine wd_get (C := RX1) (T := TX1) (n := 9) (ci := ciT) (v := .int (nI (σ.1 0 1))) hx hb hts (by decide +kernel) hown hK hP (0) (by omega) cW_0 rfl 7 (by decide) (hts (.fieldLink RX1 77 "CarThreads" "barrierSize" "I") (by decide +kernel)) (fun _ h9 => h9) (by first | rfl | simp [cw_nd, cw_ob, mw_ob, ct_sg, ct_sl, tu]) dX1_waitsAtBarrier_1 ?_
  refine wi_if_le (tgt := 31) hx hb (by omega) dX1_waitsAtBarrier_4 (by decide) (fun c4 => ?_) (fun c4 => ?_)
  · refine lv_iconst (v := nI 0) hx hb dX1_waitsAtBarrier_31 (by decide) ?_
    exact ro_z hQ hx hb hr hlocks rfl (by rw [if_pos]; omega) dX1_waitsAtBarrier_32
  · refine lv_aload_n hx hb dX1_waitsAtBarrier_7 rfl (lv_at hl 1 rfl) ?_
    refine wd_get (C := RX0) (T := TX0) (n := 12) (ci := ciN) (v := .int (nI (σ.1 3 i))) hx hb hts (by decide +kernel) hown hK hP (3 + 2 * i) (by omega) (cW_nd (by omega)) rfl 4 (by decide) (hts (.fieldLink RX1 116 "CarThreads$Node" "done" "I") (by decide +kernel)) (fun _ h9 => h9) (by first | rfl | simp [cw_nd, cw_ob, mw_ob, ct_sg, ct_sl, tu]) dX1_waitsAtBarrier_8 ?_
    refine lv_aload_n hx hb dX1_waitsAtBarrier_11 rfl (lv_at hl 0 rfl) ?_
    refine wd_get (C := RX1) (T := TX1) (n := 9) (ci := ciT) (v := .int (nI (σ.1 0 1))) hx hb hts (by decide +kernel) hown hK hP (0) (by omega) cW_0 rfl 7 (by decide) (hts (.fieldLink RX1 77 "CarThreads" "barrierSize" "I") (by decide +kernel)) (fun _ h9 => h9) (by first | rfl | simp [cw_nd, cw_ob, mw_ob, ct_sg, ct_sl, tu]) dX1_waitsAtBarrier_12 ?_
    refine wi_rem hx hb (by omega) (by omega) (by omega) dX1_waitsAtBarrier_15 ?_
    have hmod : σ.1 3 i % σ.1 0 1 < 2 ^ 31 := by have := Nat.mod_le (σ.1 3 i) (σ.1 0 1); omega
    refine wi_if_ne (tgt := 31) hx hb (by omega) dX1_waitsAtBarrier_16 (by decide) (fun c16 => ?_) (fun c16 => ?_)
    · refine lv_iconst (v := nI 0) hx hb dX1_waitsAtBarrier_31 (by decide) ?_
      exact ro_z hQ hx hb hr hlocks rfl (by rw [if_pos]; omega) dX1_waitsAtBarrier_32
    · refine lv_iload_n hx hb dX1_waitsAtBarrier_19 rfl (lv_at hl 2 rfl) ?_
      refine lv_aload_n hx hb dX1_waitsAtBarrier_20 rfl (lv_at hl 1 rfl) ?_
      refine wd_get (C := RX0) (T := TX0) (n := 12) (ci := ciN) (v := .int (nI (σ.1 3 i))) hx hb hts (by decide +kernel) hown hK hP (3 + 2 * i) (by omega) (cW_nd (by omega)) rfl 4 (by decide) (hts (.fieldLink RX1 116 "CarThreads$Node" "done" "I") (by decide +kernel)) (fun _ h9 => h9) (by first | rfl | simp [cw_nd, cw_ob, mw_ob, ct_sg, ct_sl, tu]) dX1_waitsAtBarrier_21 ?_
      refine wi_icmp_ge (tgt := 31) hx hb (by omega) (by omega) dX1_waitsAtBarrier_24 (by decide) (fun c24 => ?_) (fun c24 => ?_)
      · refine lv_iconst (v := nI 0) hx hb dX1_waitsAtBarrier_31 (by decide) ?_
        exact ro_z hQ hx hb hr hlocks rfl (by rw [if_pos]; omega) dX1_waitsAtBarrier_32
      · refine lv_iconst (v := nI 1) hx hb dX1_waitsAtBarrier_27 (by decide) ?_
        refine lv_goto (tgt := 32) hx hb dX1_waitsAtBarrier_28 (by decide) ?_
        exact ro_z hQ hx hb hr hlocks rfl (by rw [if_neg]; omega) dX1_waitsAtBarrier_32
end P41
