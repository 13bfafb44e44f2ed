section P42
abbrev rm_c_findReady : Room := { frames := 2, cells := 0, slots := 0, locals := 45 }
set_option maxHeartbeats 4000000 in
set_option maxRecDepth 100000 in
theorem c_findReady (l : Launch) {D : va_G} {cN cI : ClassId} {ad : Nat → Nat} {σ : St} {τ : Nat → Nat → Nat} {tr : Nat → Int32} {n : Nat} (hI : adI ad (5 + 2 * n)) (hv : ct_Inv σ) (hn : σ.1 0 0 = n)  : Met l yX1_findReady wsX1_findReady rm_c_findReady (va_Pc [.ref (ad 0)] (pC D wCl (tyC cN cI) ad (cW cN cI ad σ τ tr) (5 + 2 * n))) (qI (S := Unit) D wCl ad (5 + 2 * n) (fun r _ => r = nI (bN (ct_any σ n))) (fun _ => cW cN cI ad σ (tR τ σ n) tr)) 0 0 (wA ad (5 + 2 * n)) := by
  refine Met.go (cc := cX1_findReady) (maxL := 7) (ret := (some .boolean)) (by decide) rfl (Nat.le_of_ble_eq_true rfl) ?_
  intro p e s m below meth c ls args Q ⟨hx, hb, hml, hown, hts⟩ hr hlocks hnm ⟨hP, hK⟩ hl hQ
  have hl : lv_has ls 7 [(0, .ref (ad 0))] := hl
  have hS : va_S (wA ad (5 + 2 * n)) s.heap s.heap [] := va_S.rf
  have hn30 : n ≤ 30 := by have := hv.1.1; omega
  refine lv_aload_n hx hb dX1_findReady_0 rfl (lv_at hl 0 rfl) ?_
  refine vp_callSi (W.runV (As := []) (rest := []) ⟨hx, hb, hml, hown, hts⟩ (c_least l hI hv hn) (cwV 0 hts gX1_findReady_X1_leastDoneByAlive rfl rfl rfl (by decide +kernel) ⟨Nat.le_of_ble_eq_true rfl, Nat.le_of_ble_eq_true rfl⟩) (wd_pre (q := (RX1, TX1, 9)) (ci := ciT) hK hP (by omega) rfl cW_0) rfl rfl hl.1 rfl (lv_room (Nat.le_of_ble_eq_true rfl)) dX1_findReady_1 ⟨Nat.zero_le _, Nat.zero_le _⟩) (fun r1 er1 => ?_)
  subst er1
  refine lv_istore_n (lv' := [(1, .int (nI (ct_least σ n))), (0, .ref (ad 0))]) hx hb dX1_findReady_4 rfl hl (by decide) rfl (fun ls hl => ?_)
  refine lv_iconst (v := nI 0) hx hb dX1_findReady_5 (by decide) ?_
  refine lv_istore_n (lv' := [(2, .int (nI (0))), (1, .int (nI (ct_least σ n))), (0, .ref (ad 0))]) hx hb dX1_findReady_6 rfl hl (by decide) rfl (fun ls hl => ?_)
  refine lv_aload_n hx hb dX1_findReady_7 rfl (lv_at hl 2 rfl) ?_
  refine wd_get (C := RX1) (T := TX1) (n := 9) (ci := ciT) (v := .ref (ad 1)) hx hb hts (by decide +kernel) hown hK hP (0) (by omega) cW_0 rfl 0 (by decide) (hts (.fieldLink RX1 11 "CarThreads" "nodes" "[LCarThreads$Node;") (by decide +kernel)) (fun _ h9 => h9) (by first | rfl | simp [cw_nd, cw_ob, mw_ob, ct_sg, ct_sl, tu]) dX1_findReady_8 ?_
  refine lv_astore_n (lv' := [(3, .ref (ad 1)), (2, .int (nI (0))), (1, .int (nI (ct_least σ n))), (0, .ref (ad 0))]) hx hb dX1_findReady_11 rfl hl (by decide) rfl (fun ls hl => ?_)
  refine lv_aload_n hx hb dX1_findReady_12 rfl (lv_at hl 0 rfl) ?_
  refine wd_alen (v := nI 30) hx hb hK hP (1) 0 (by omega) cW_1 rfl rfl dX1_findReady_13 ?_
  refine lv_istore (lv' := [(4, .int (nI (30))), (3, .ref (ad 1)), (2, .int (nI (0))), (1, .int (nI (ct_least σ n))), (0, .ref (ad 0))]) hx hb dX1_findReady_14 hl (by decide) rfl (fun ls hl => ?_)
  refine lv_iconst (v := nI 0) hx hb dX1_findReady_16 (by decide) ?_
  refine lv_istore (lv' := [(5, .int (nI (0))), (4, .int (nI (30))), (3, .ref (ad 1)), (2, .int (nI (0))), (1, .int (nI (ct_least σ n))), (0, .ref (ad 0))]) hx hb dX1_findReady_17 hl (by decide) rfl (fun ls hl => ?_)
  have loop19 : ∀ (f t : Nat) (kq : Nat) (H : Heap) (locs : List Loc) (ls : Array Slot), 30 - t = f → t ≤ 30 → ((t < n ∧ kq = t) ∨ (n ≤ t ∧ kq = n)) → va_P D wCl (wl ad (cW cN cI ad σ (tR τ σ kq) tr) (5 + 2 * n)) H → va_S (wA ad (5 + 2 * n)) s.heap H locs → lv_has ls 7 [(5, .int (nI (t))), (4, .int (nI (30))), (3, .ref (ad 1)), (2, .int (nI (bN (ct_any σ kq)))), (1, .int (nI (ct_least σ n))), (0, .ref (ad 0))] → W p l e rm_c_findReady s m args below meth c H locs 0 0 Q (F0 m 19 ls []) := by
    intro f
    induction f with
    | zero =>
      intro t kq H locs ls hf hj hkq hP hS hl
      obtain rfl : n = kq := by omega
      refine lv_iload hx hb dX1_findReady_19 (lv_at hl 0 rfl) ?_
      refine lv_iload hx hb dX1_findReady_21 (lv_at hl 1 rfl) ?_
      refine wi_icmp_ge (tgt := 97) hx hb (by omega) (by omega) dX1_findReady_23 (by decide) (fun c23 => ?_) (fun z => absurd z (by omega))
      refine lv_iload_n hx hb dX1_findReady_97 rfl (lv_at hl 3 rfl) ?_
      exact rt_z hQ hx hb hr hlocks () hP hS (wi_nar (bN_le _)) rfl dX1_findReady_98
    | succ f ih =>
      intro t kq H locs ls hf hj hkq hP hS hl
      refine lv_iload hx hb dX1_findReady_19 (lv_at hl 0 rfl) ?_
      refine lv_iload hx hb dX1_findReady_21 (lv_at hl 1 rfl) ?_
      refine wi_icmp_ge (tgt := 97) hx hb (by omega) (by omega) dX1_findReady_23 (by decide) (fun z => absurd z (by omega)) (fun c23 => ?_)
      refine lv_aload_n hx hb dX1_findReady_26 rfl (lv_at hl 2 rfl) ?_
      refine lv_iload hx hb dX1_findReady_27 (lv_at hl 0 rfl) ?_
      refine wd_aald hx hb hK hP (1) 0 (by omega) cW_1 rfl (t) (by omega) (by omega) rfl dX1_findReady_29 ?_
      by_cases hlt : t < n
      · obtain rfl : t = kq := by omega
        obtain ⟨_, _, _, _, _, _, _, _, _⟩ := hv.2.1 (t + 1) (by omega) (by omega)
        have hle := ct_least_le σ n
        have hgi := ct_go_iff (σ := σ) (i := t + 1) (by omega)
        rw [hn] at hgi
        have hbn := bN_le (ct_any σ t)
        rw [hn, cw_ns_in hlt]
        refine lv_astore (lv' := [(6, .ref (ad (3 + 2 * (t + 1)))), (5, .int (nI (t))), (4, .int (nI (30))), (3, .ref (ad 1)), (2, .int (nI (bN (ct_any σ t)))), (1, .int (nI (ct_least σ n))), (0, .ref (ad 0))]) hx hb dX1_findReady_30 hl (by decide) rfl (fun ls hl => ?_)
        refine lv_aload hx hb dX1_findReady_32 (lv_at hl 0 rfl) ?_
        refine lv_ifnull hx hb dX1_findReady_34 ?_
        refine lv_aload hx hb dX1_findReady_37 (lv_at hl 0 rfl) ?_
        refine lv_aload hx hb dX1_findReady_39 (lv_at hl 0 rfl) ?_
        refine wd_get (C := RX0) (T := TX0) (n := 12) (ci := ciN) (v := .int (nI (1 - σ.1 4 (t + 1)))) hx hb hts (by decide +kernel) hown hK hP (3 + 2 * (t + 1)) (by omega) (cW_nd (by omega)) rfl 5 (by decide) (hts (.fieldLink RX1 36 "CarThreads$Node" "alive" "Z") (by decide +kernel)) (fun _ h9 => h9) (by first | rfl | simp [cw_nd, cw_ob, mw_ob, ct_sg, ct_sl, tu]) dX1_findReady_41 ?_
        refine wi_if_eq (tgt := 69) hx hb (by omega) dX1_findReady_44 (by decide) (fun c44 => ?_) (fun c44 => ?_)
        · refine lv_iconst (v := nI 0) hx hb dX1_findReady_69 (by decide) ?_
          refine wd_put (C := RX0) (T := TX0) (n := 12) (ci := ciN) (v := .int (nI (0))) (ty := .boolean) hx hb hts (by decide +kernel) tyX0 tyX0_ok nmX0 hown hK hP hI (fun k h => wA_in h) hS (3 + 2 * (t + 1)) (by omega) (cW_nd (by omega)) rfl 6 (by decide) (hts (.fieldLink RX1 113 "CarThreads$Node" "ready" "Z") (by decide +kernel)) (fun _ h9 => h9) rfl (by decide +kernel) (wi_nar (by omega)) (wi_fit (by omega)) (Nat.le_of_ble_eq_true rfl) dX1_findReady_70 (fun H locs hP hS => ?_)
          have hgo : bN (ct_go σ (t + 1)) = 0 := by
            have q : ¬ ct_go σ (t + 1) = true := fun z => by obtain ⟨z1, z2, z3⟩ := hgi.mp z; first | omega | (exact absurd z3 hwb) | (simp_all; done)
            simp at q; rw [q]; rfl
          have hP : va_P D wCl (wl ad (cW cN cI ad σ (tu (tR τ σ t) 0 (t + 1) 0) tr) (5 + 2 * n)) H := up_nd hP (by omega) (by simp [cw_nd, ct_sg, ct_sl, tu]) (fun x hx _ => by simp [cw_nd, ct_sg, ct_sl, tu, hx]) (by rfl) rfl rfl rfl rfl rfl
          rw [tR_s hgo] at hP
          refine lv_iload_n hx hb dX1_findReady_73 rfl (lv_at hl 4 rfl) ?_
          refine wi_if_ne (tgt := 85) hx hb (by omega) dX1_findReady_74 (by decide) (fun c74 => ?_) (fun c74 => ?_)
          · refine lv_iconst (v := nI 1) hx hb dX1_findReady_85 (by decide) ?_
            refine lv_goto (tgt := 90) hx hb dX1_findReady_86 (by decide) ?_
            refine lv_istore_n (lv' := [(2, .int (nI (1))), (6, .ref (ad (3 + 2 * (t + 1)))), (5, .int (nI (t))), (4, .int (nI (30))), (3, .ref (ad 1)), (1, .int (nI (ct_least σ n))), (0, .ref (ad 0))]) hx hb dX1_findReady_90 rfl hl (by decide) rfl (fun ls hl => ?_)
            refine lv_iinc (v := nI (t + 1)) (lv' := [(5, .int (nI (t + 1))), (2, .int (nI (1))), (6, .ref (ad (3 + 2 * (t + 1)))), (4, .int (nI (30))), (3, .ref (ad 1)), (1, .int (nI (ct_least σ n))), (0, .ref (ad 0))]) hx hb dX1_findReady_91 hl (k := 2) rfl (wi_inc _) (by decide) rfl (fun ls hl => ?_)
            refine lv_goto (tgt := 19) hx hb dX1_findReady_94 (by decide) ?_
            have e1 : bN (ct_any σ (t + 1)) = 1 := by
              have q : ct_any σ (t + 1) = (ct_any σ t || ct_go σ (t + 1)) := rfl
              rw [q]
              first | (rw [bN_1 (show ¬ bN (ct_go σ (t + 1)) = 0 by omega)]; simp [bN]; done) | (rw [bN_1 (show ¬ bN (ct_any σ t) = 0 by omega)]; simp [bN]; done) | (rw [bN_0 (show bN (ct_go σ (t + 1)) = 0 by omega), bN_0 (show bN (ct_any σ t) = 0 by omega)]; rfl)
            exact ih (t + 1) (t + 1) _ _ _ (by omega) (by omega) (by omega) hP hS (by rw [e1]; exact lv_sub hl [0, 3, 4, 1, 5, 6] rfl)
          · refine lv_aload hx hb dX1_findReady_77 (lv_at hl 0 rfl) ?_
            have hrd : tR τ σ (t + 1) 0 (t + 1) = 0 := by unfold tR; rw [if_pos ⟨rfl, by omega, by omega⟩]; exact hgo
            refine wd_get (C := RX0) (T := TX0) (n := 12) (ci := ciN) (v := .int (nI ((tR τ σ (t + 1)) 0 (t + 1)))) hx hb hts (by decide +kernel) hown hK hP (3 + 2 * (t + 1)) (by omega) (cW_nd (by omega)) rfl 6 (by decide) (hts (.fieldLink RX1 113 "CarThreads$Node" "ready" "Z") (by decide +kernel)) (fun _ h9 => h9) (by first | rfl | simp [cw_nd, cw_ob, mw_ob, ct_sg, ct_sl, tu]) dX1_findReady_79 ?_
            rw [hrd]
            refine wi_if_eq (tgt := 89) hx hb (by omega) dX1_findReady_82 (by decide) (fun z => ?_) (fun z => absurd z (by decide))
            refine lv_iconst (v := nI 0) hx hb dX1_findReady_89 (by decide) ?_
            refine lv_istore_n (lv' := [(2, .int (nI (0))), (6, .ref (ad (3 + 2 * (t + 1)))), (5, .int (nI (t))), (4, .int (nI (30))), (3, .ref (ad 1)), (1, .int (nI (ct_least σ n))), (0, .ref (ad 0))]) hx hb dX1_findReady_90 rfl hl (by decide) rfl (fun ls hl => ?_)
            refine lv_iinc (v := nI (t + 1)) (lv' := [(5, .int (nI (t + 1))), (2, .int (nI (0))), (6, .ref (ad (3 + 2 * (t + 1)))), (4, .int (nI (30))), (3, .ref (ad 1)), (1, .int (nI (ct_least σ n))), (0, .ref (ad 0))]) hx hb dX1_findReady_91 hl (k := 2) rfl (wi_inc _) (by decide) rfl (fun ls hl => ?_)
            refine lv_goto (tgt := 19) hx hb dX1_findReady_94 (by decide) ?_
            have e1 : bN (ct_any σ (t + 1)) = 0 := by
              have q : ct_any σ (t + 1) = (ct_any σ t || ct_go σ (t + 1)) := rfl
              rw [q]
              first | (rw [bN_1 (show ¬ bN (ct_go σ (t + 1)) = 0 by omega)]; simp [bN]; done) | (rw [bN_1 (show ¬ bN (ct_any σ t) = 0 by omega)]; simp [bN]; done) | (rw [bN_0 (show bN (ct_go σ (t + 1)) = 0 by omega), bN_0 (show bN (ct_any σ t) = 0 by omega)]; rfl)
            exact ih (t + 1) (t + 1) _ _ _ (by omega) (by omega) (by omega) hP hS (by rw [e1]; exact lv_sub hl [0, 3, 4, 1, 5, 6] rfl)
        · refine lv_aload hx hb dX1_findReady_47 (lv_at hl 0 rfl) ?_
          refine vp_callSi (W.runV (As := []) (rest := [.ref (ad (3 + 2 * (t + 1)))]) ⟨hx, hb, hml, hown, hts⟩ (c_wfa l hI hv hn (by omega) (by omega) (by omega)) (cwV 0 hts gX1_findReady_X0_waitsForAnother rfl rfl rfl (by decide +kernel) ⟨Nat.le_of_ble_eq_true rfl, Nat.le_of_ble_eq_true rfl⟩) (wd_pre (q := (RX0, TX0, 12)) (ci := ciN) hK hP (by omega) rfl (cW_nd (by omega))) rfl rfl hl.1 rfl (lv_room (Nat.le_of_ble_eq_true rfl)) dX1_findReady_49 ⟨Nat.zero_le _, Nat.zero_le _⟩) (fun r2 er2 => ?_)
          by_cases hwt : ct_wait σ (t + 1) = true
          · rw [if_pos hwt] at er2
            subst er2
            refine wi_if_ne (tgt := 69) hx hb (by omega) dX1_findReady_52 (by decide) (fun z => ?_) (fun z => absurd z (by decide))
            refine lv_iconst (v := nI 0) hx hb dX1_findReady_69 (by decide) ?_
            refine wd_put (C := RX0) (T := TX0) (n := 12) (ci := ciN) (v := .int (nI (0))) (ty := .boolean) hx hb hts (by decide +kernel) tyX0 tyX0_ok nmX0 hown hK hP hI (fun k h => wA_in h) hS (3 + 2 * (t + 1)) (by omega) (cW_nd (by omega)) rfl 6 (by decide) (hts (.fieldLink RX1 113 "CarThreads$Node" "ready" "Z") (by decide +kernel)) (fun _ h9 => h9) rfl (by decide +kernel) (wi_nar (by omega)) (wi_fit (by omega)) (Nat.le_of_ble_eq_true rfl) dX1_findReady_70 (fun H locs hP hS => ?_)
            have hgo : bN (ct_go σ (t + 1)) = 0 := by
              have q : ¬ ct_go σ (t + 1) = true := fun z => by obtain ⟨z1, z2, z3⟩ := hgi.mp z; first | omega | (exact absurd z3 hwb) | (simp_all; done)
              simp at q; rw [q]; rfl
            have hP : va_P D wCl (wl ad (cW cN cI ad σ (tu (tR τ σ t) 0 (t + 1) 0) tr) (5 + 2 * n)) H := up_nd hP (by omega) (by simp [cw_nd, ct_sg, ct_sl, tu]) (fun x hx _ => by simp [cw_nd, ct_sg, ct_sl, tu, hx]) (by rfl) rfl rfl rfl rfl rfl
            rw [tR_s hgo] at hP
            refine lv_iload_n hx hb dX1_findReady_73 rfl (lv_at hl 4 rfl) ?_
            refine wi_if_ne (tgt := 85) hx hb (by omega) dX1_findReady_74 (by decide) (fun c74 => ?_) (fun c74 => ?_)
            · refine lv_iconst (v := nI 1) hx hb dX1_findReady_85 (by decide) ?_
              refine lv_goto (tgt := 90) hx hb dX1_findReady_86 (by decide) ?_
              refine lv_istore_n (lv' := [(2, .int (nI (1))), (6, .ref (ad (3 + 2 * (t + 1)))), (5, .int (nI (t))), (4, .int (nI (30))), (3, .ref (ad 1)), (1, .int (nI (ct_least σ n))), (0, .ref (ad 0))]) hx hb dX1_findReady_90 rfl hl (by decide) rfl (fun ls hl => ?_)
              refine lv_iinc (v := nI (t + 1)) (lv' := [(5, .int (nI (t + 1))), (2, .int (nI (1))), (6, .ref (ad (3 + 2 * (t + 1)))), (4, .int (nI (30))), (3, .ref (ad 1)), (1, .int (nI (ct_least σ n))), (0, .ref (ad 0))]) hx hb dX1_findReady_91 hl (k := 2) rfl (wi_inc _) (by decide) rfl (fun ls hl => ?_)
              refine lv_goto (tgt := 19) hx hb dX1_findReady_94 (by decide) ?_
              have e1 : bN (ct_any σ (t + 1)) = 1 := by
                have q : ct_any σ (t + 1) = (ct_any σ t || ct_go σ (t + 1)) := rfl
                rw [q]
                first | (rw [bN_1 (show ¬ bN (ct_go σ (t + 1)) = 0 by omega)]; simp [bN]; done) | (rw [bN_1 (show ¬ bN (ct_any σ t) = 0 by omega)]; simp [bN]; done) | (rw [bN_0 (show bN (ct_go σ (t + 1)) = 0 by omega), bN_0 (show bN (ct_any σ t) = 0 by omega)]; rfl)
              exact ih (t + 1) (t + 1) _ _ _ (by omega) (by omega) (by omega) hP hS (by rw [e1]; exact lv_sub hl [0, 3, 4, 1, 5, 6] rfl)
            · refine lv_aload hx hb dX1_findReady_77 (lv_at hl 0 rfl) ?_
              have hrd : tR τ σ (t + 1) 0 (t + 1) = 0 := by unfold tR; rw [if_pos ⟨rfl, by omega, by omega⟩]; exact hgo
              refine wd_get (C := RX0) (T := TX0) (n := 12) (ci := ciN) (v := .int (nI ((tR τ σ (t + 1)) 0 (t + 1)))) hx hb hts (by decide +kernel) hown hK hP (3 + 2 * (t + 1)) (by omega) (cW_nd (by omega)) rfl 6 (by decide) (hts (.fieldLink RX1 113 "CarThreads$Node" "ready" "Z") (by decide +kernel)) (fun _ h9 => h9) (by first | rfl | simp [cw_nd, cw_ob, mw_ob, ct_sg, ct_sl, tu]) dX1_findReady_79 ?_
              rw [hrd]
              refine wi_if_eq (tgt := 89) hx hb (by omega) dX1_findReady_82 (by decide) (fun z => ?_) (fun z => absurd z (by decide))
              refine lv_iconst (v := nI 0) hx hb dX1_findReady_89 (by decide) ?_
              refine lv_istore_n (lv' := [(2, .int (nI (0))), (6, .ref (ad (3 + 2 * (t + 1)))), (5, .int (nI (t))), (4, .int (nI (30))), (3, .ref (ad 1)), (1, .int (nI (ct_least σ n))), (0, .ref (ad 0))]) hx hb dX1_findReady_90 rfl hl (by decide) rfl (fun ls hl => ?_)
              refine lv_iinc (v := nI (t + 1)) (lv' := [(5, .int (nI (t + 1))), (2, .int (nI (0))), (6, .ref (ad (3 + 2 * (t + 1)))), (4, .int (nI (30))), (3, .ref (ad 1)), (1, .int (nI (ct_least σ n))), (0, .ref (ad 0))]) hx hb dX1_findReady_91 hl (k := 2) rfl (wi_inc _) (by decide) rfl (fun ls hl => ?_)
              refine lv_goto (tgt := 19) hx hb dX1_findReady_94 (by decide) ?_
              have e1 : bN (ct_any σ (t + 1)) = 0 := by
                have q : ct_any σ (t + 1) = (ct_any σ t || ct_go σ (t + 1)) := rfl
                rw [q]
                first | (rw [bN_1 (show ¬ bN (ct_go σ (t + 1)) = 0 by omega)]; simp [bN]; done) | (rw [bN_1 (show ¬ bN (ct_any σ t) = 0 by omega)]; simp [bN]; done) | (rw [bN_0 (show bN (ct_go σ (t + 1)) = 0 by omega), bN_0 (show bN (ct_any σ t) = 0 by omega)]; rfl)
              exact ih (t + 1) (t + 1) _ _ _ (by omega) (by omega) (by omega) hP hS (by rw [e1]; exact lv_sub hl [0, 3, 4, 1, 5, 6] rfl)
          · rw [if_neg hwt] at er2
            subst er2
            refine wi_if_ne (tgt := 69) hx hb (by omega) dX1_findReady_52 (by decide) (fun z => absurd z (by decide)) (fun z => ?_)
            refine lv_aload_n hx hb dX1_findReady_55 rfl (lv_at hl 6 rfl) ?_
            refine lv_aload hx hb dX1_findReady_56 (lv_at hl 0 rfl) ?_
            refine lv_iload_n hx hb dX1_findReady_58 rfl (lv_at hl 5 rfl) ?_
            refine vp_callSi (W.runV (As := [.ref (ad (3 + 2 * (t + 1))), .int (nI (ct_least σ n))]) (rest := [.ref (ad (3 + 2 * (t + 1)))]) ⟨hx, hb, hml, hown, hts⟩ (c_wab l hI hv hn (by omega) (by omega) (ct_least σ n) (ct_least_le σ n)) (cwV 2 hts gX1_findReady_X1_waitsAtBarrier rfl rfl rfl (by decide +kernel) ⟨Nat.le_of_ble_eq_true rfl, Nat.le_of_ble_eq_true rfl⟩) (wd_pre (q := (RX1, TX1, 9)) (ci := ciT) hK hP (by omega) rfl cW_0) rfl rfl hl.1 rfl (lv_room (Nat.le_of_ble_eq_true rfl)) dX1_findReady_59 ⟨Nat.zero_le _, Nat.zero_le _⟩) (fun r3 er3 => ?_)
            by_cases hwb : σ.1 0 1 = 0 ∨ σ.1 3 (t + 1) % σ.1 0 1 ≠ 0 ∨ σ.1 3 (t + 1) ≤ ct_least σ n
            · rw [if_pos hwb] at er3
              subst er3
              refine wi_if_ne (tgt := 69) hx hb (by omega) dX1_findReady_62 (by decide) (fun z => absurd z (by decide)) (fun z => ?_)
              refine lv_iconst (v := nI 1) hx hb dX1_findReady_65 (by decide) ?_
              refine lv_goto (tgt := 70) hx hb dX1_findReady_66 (by decide) ?_
              refine wd_put (C := RX0) (T := TX0) (n := 12) (ci := ciN) (v := .int (nI (1))) (ty := .boolean) hx hb hts (by decide +kernel) tyX0 tyX0_ok nmX0 hown hK hP hI (fun k h => wA_in h) hS (3 + 2 * (t + 1)) (by omega) (cW_nd (by omega)) rfl 6 (by decide) (hts (.fieldLink RX1 113 "CarThreads$Node" "ready" "Z") (by decide +kernel)) (fun _ h9 => h9) rfl (by decide +kernel) (wi_nar (by omega)) (wi_fit (by omega)) (Nat.le_of_ble_eq_true rfl) dX1_findReady_70 (fun H locs hP hS => ?_)
              have hgo : bN (ct_go σ (t + 1)) = 1 := by rw [hgi.mpr ⟨by omega, by simpa using hwt, hwb⟩]; rfl
              have hP : va_P D wCl (wl ad (cW cN cI ad σ (tu (tR τ σ t) 0 (t + 1) 1) tr) (5 + 2 * n)) H := up_nd hP (by omega) (by simp [cw_nd, ct_sg, ct_sl, tu]) (fun x hx _ => by simp [cw_nd, ct_sg, ct_sl, tu, hx]) (by rfl) rfl rfl rfl rfl rfl
              rw [tR_s hgo] at hP
              refine lv_iload_n hx hb dX1_findReady_73 rfl (lv_at hl 4 rfl) ?_
              refine wi_if_ne (tgt := 85) hx hb (by omega) dX1_findReady_74 (by decide) (fun c74 => ?_) (fun c74 => ?_)
              · refine lv_iconst (v := nI 1) hx hb dX1_findReady_85 (by decide) ?_
                refine lv_goto (tgt := 90) hx hb dX1_findReady_86 (by decide) ?_
                refine lv_istore_n (lv' := [(2, .int (nI (1))), (6, .ref (ad (3 + 2 * (t + 1)))), (5, .int (nI (t))), (4, .int (nI (30))), (3, .ref (ad 1)), (1, .int (nI (ct_least σ n))), (0, .ref (ad 0))]) hx hb dX1_findReady_90 rfl hl (by decide) rfl (fun ls hl => ?_)
                refine lv_iinc (v := nI (t + 1)) (lv' := [(5, .int (nI (t + 1))), (2, .int (nI (1))), (6, .ref (ad (3 + 2 * (t + 1)))), (4, .int (nI (30))), (3, .ref (ad 1)), (1, .int (nI (ct_least σ n))), (0, .ref (ad 0))]) hx hb dX1_findReady_91 hl (k := 2) rfl (wi_inc _) (by decide) rfl (fun ls hl => ?_)
                refine lv_goto (tgt := 19) hx hb dX1_findReady_94 (by decide) ?_
                have e1 : bN (ct_any σ (t + 1)) = 1 := by
                  have q : ct_any σ (t + 1) = (ct_any σ t || ct_go σ (t + 1)) := rfl
                  rw [q]
                  first | (rw [bN_1 (show ¬ bN (ct_go σ (t + 1)) = 0 by omega)]; simp [bN]; done) | (rw [bN_1 (show ¬ bN (ct_any σ t) = 0 by omega)]; simp [bN]; done) | (rw [bN_0 (show bN (ct_go σ (t + 1)) = 0 by omega), bN_0 (show bN (ct_any σ t) = 0 by omega)]; rfl)
                exact ih (t + 1) (t + 1) _ _ _ (by omega) (by omega) (by omega) hP hS (by rw [e1]; exact lv_sub hl [0, 3, 4, 1, 5, 6] rfl)
              · refine lv_aload hx hb dX1_findReady_77 (lv_at hl 0 rfl) ?_
                have hrd : tR τ σ (t + 1) 0 (t + 1) = 1 := by unfold tR; rw [if_pos ⟨rfl, by omega, by omega⟩]; exact hgo
                refine wd_get (C := RX0) (T := TX0) (n := 12) (ci := ciN) (v := .int (nI ((tR τ σ (t + 1)) 0 (t + 1)))) hx hb hts (by decide +kernel) hown hK hP (3 + 2 * (t + 1)) (by omega) (cW_nd (by omega)) rfl 6 (by decide) (hts (.fieldLink RX1 113 "CarThreads$Node" "ready" "Z") (by decide +kernel)) (fun _ h9 => h9) (by first | rfl | simp [cw_nd, cw_ob, mw_ob, ct_sg, ct_sl, tu]) dX1_findReady_79 ?_
                rw [hrd]
                refine wi_if_eq (tgt := 89) hx hb (by omega) dX1_findReady_82 (by decide) (fun z => absurd z (by decide)) (fun z => ?_)
                refine lv_iconst (v := nI 1) hx hb dX1_findReady_85 (by decide) ?_
                refine lv_goto (tgt := 90) hx hb dX1_findReady_86 (by decide) ?_
                refine lv_istore_n (lv' := [(2, .int (nI (1))), (6, .ref (ad (3 + 2 * (t + 1)))), (5, .int (nI (t))), (4, .int (nI (30))), (3, .ref (ad 1)), (1, .int (nI (ct_least σ n))), (0, .ref (ad 0))]) hx hb dX1_findReady_90 rfl hl (by decide) rfl (fun ls hl => ?_)
                refine lv_iinc (v := nI (t + 1)) (lv' := [(5, .int (nI (t + 1))), (2, .int (nI (1))), (6, .ref (ad (3 + 2 * (t + 1)))), (4, .int (nI (30))), (3, .ref (ad 1)), (1, .int (nI (ct_least σ n))), (0, .ref (ad 0))]) hx hb dX1_findReady_91 hl (k := 2) rfl (wi_inc _) (by decide) rfl (fun ls hl => ?_)
                refine lv_goto (tgt := 19) hx hb dX1_findReady_94 (by decide) ?_
                have e1 : bN (ct_any σ (t + 1)) = 1 := by
                  have q : ct_any σ (t + 1) = (ct_any σ t || ct_go σ (t + 1)) := rfl
                  rw [q]
                  first | (rw [bN_1 (show ¬ bN (ct_go σ (t + 1)) = 0 by omega)]; simp [bN]; done) | (rw [bN_1 (show ¬ bN (ct_any σ t) = 0 by omega)]; simp [bN]; done) | (rw [bN_0 (show bN (ct_go σ (t + 1)) = 0 by omega), bN_0 (show bN (ct_any σ t) = 0 by omega)]; rfl)
                exact ih (t + 1) (t + 1) _ _ _ (by omega) (by omega) (by omega) hP hS (by rw [e1]; exact lv_sub hl [0, 3, 4, 1, 5, 6] rfl)
            · rw [if_neg hwb] at er3
              subst er3
              refine wi_if_ne (tgt := 69) hx hb (by omega) dX1_findReady_62 (by decide) (fun z => ?_) (fun z => absurd z (by decide))
              refine lv_iconst (v := nI 0) hx hb dX1_findReady_69 (by decide) ?_
              refine wd_put (C := RX0) (T := TX0) (n := 12) (ci := ciN) (v := .int (nI (0))) (ty := .boolean) hx hb hts (by decide +kernel) tyX0 tyX0_ok nmX0 hown hK hP hI (fun k h => wA_in h) hS (3 + 2 * (t + 1)) (by omega) (cW_nd (by omega)) rfl 6 (by decide) (hts (.fieldLink RX1 113 "CarThreads$Node" "ready" "Z") (by decide +kernel)) (fun _ h9 => h9) rfl (by decide +kernel) (wi_nar (by omega)) (wi_fit (by omega)) (Nat.le_of_ble_eq_true rfl) dX1_findReady_70 (fun H locs hP hS => ?_)
              have hgo : bN (ct_go σ (t + 1)) = 0 := by
                have q : ¬ ct_go σ (t + 1) = true := fun z => by obtain ⟨z1, z2, z3⟩ := hgi.mp z; first | omega | (exact absurd z3 hwb) | (simp_all; done)
                simp at q; rw [q]; rfl
              have hP : va_P D wCl (wl ad (cW cN cI ad σ (tu (tR τ σ t) 0 (t + 1) 0) tr) (5 + 2 * n)) H := up_nd hP (by omega) (by simp [cw_nd, ct_sg, ct_sl, tu]) (fun x hx _ => by simp [cw_nd, ct_sg, ct_sl, tu, hx]) (by rfl) rfl rfl rfl rfl rfl
              rw [tR_s hgo] at hP
              refine lv_iload_n hx hb dX1_findReady_73 rfl (lv_at hl 4 rfl) ?_
              refine wi_if_ne (tgt := 85) hx hb (by omega) dX1_findReady_74 (by decide) (fun c74 => ?_) (fun c74 => ?_)
              · refine lv_iconst (v := nI 1) hx hb dX1_findReady_85 (by decide) ?_
                refine lv_goto (tgt := 90) hx hb dX1_findReady_86 (by decide) ?_
                refine lv_istore_n (lv' := [(2, .int (nI (1))), (6, .ref (ad (3 + 2 * (t + 1)))), (5, .int (nI (t))), (4, .int (nI (30))), (3, .ref (ad 1)), (1, .int (nI (ct_least σ n))), (0, .ref (ad 0))]) hx hb dX1_findReady_90 rfl hl (by decide) rfl (fun ls hl => ?_)
                refine lv_iinc (v := nI (t + 1)) (lv' := [(5, .int (nI (t + 1))), (2, .int (nI (1))), (6, .ref (ad (3 + 2 * (t + 1)))), (4, .int (nI (30))), (3, .ref (ad 1)), (1, .int (nI (ct_least σ n))), (0, .ref (ad 0))]) hx hb dX1_findReady_91 hl (k := 2) rfl (wi_inc _) (by decide) rfl (fun ls hl => ?_)
                refine lv_goto (tgt := 19) hx hb dX1_findReady_94 (by decide) ?_
                have e1 : bN (ct_any σ (t + 1)) = 1 := by
                  have q : ct_any σ (t + 1) = (ct_any σ t || ct_go σ (t + 1)) := rfl
                  rw [q]
                  first | (rw [bN_1 (show ¬ bN (ct_go σ (t + 1)) = 0 by omega)]; simp [bN]; done) | (rw [bN_1 (show ¬ bN (ct_any σ t) = 0 by omega)]; simp [bN]; done) | (rw [bN_0 (show bN (ct_go σ (t + 1)) = 0 by omega), bN_0 (show bN (ct_any σ t) = 0 by omega)]; rfl)
                exact ih (t + 1) (t + 1) _ _ _ (by omega) (by omega) (by omega) hP hS (by rw [e1]; exact lv_sub hl [0, 3, 4, 1, 5, 6] rfl)
              · refine lv_aload hx hb dX1_findReady_77 (lv_at hl 0 rfl) ?_
                have hrd : tR τ σ (t + 1) 0 (t + 1) = 0 := by unfold tR; rw [if_pos ⟨rfl, by omega, by omega⟩]; exact hgo
                refine wd_get (C := RX0) (T := TX0) (n := 12) (ci := ciN) (v := .int (nI ((tR τ σ (t + 1)) 0 (t + 1)))) hx hb hts (by decide +kernel) hown hK hP (3 + 2 * (t + 1)) (by omega) (cW_nd (by omega)) rfl 6 (by decide) (hts (.fieldLink RX1 113 "CarThreads$Node" "ready" "Z") (by decide +kernel)) (fun _ h9 => h9) (by first | rfl | simp [cw_nd, cw_ob, mw_ob, ct_sg, ct_sl, tu]) dX1_findReady_79 ?_
                rw [hrd]
                refine wi_if_eq (tgt := 89) hx hb (by omega) dX1_findReady_82 (by decide) (fun z => ?_) (fun z => absurd z (by decide))
                refine lv_iconst (v := nI 0) hx hb dX1_findReady_89 (by decide) ?_
                refine lv_istore_n (lv' := [(2, .int (nI (0))), (6, .ref (ad (3 + 2 * (t + 1)))), (5, .int (nI (t))), (4, .int (nI (30))), (3, .ref (ad 1)), (1, .int (nI (ct_least σ n))), (0, .ref (ad 0))]) hx hb dX1_findReady_90 rfl hl (by decide) rfl (fun ls hl => ?_)
                refine lv_iinc (v := nI (t + 1)) (lv' := [(5, .int (nI (t + 1))), (2, .int (nI (0))), (6, .ref (ad (3 + 2 * (t + 1)))), (4, .int (nI (30))), (3, .ref (ad 1)), (1, .int (nI (ct_least σ n))), (0, .ref (ad 0))]) hx hb dX1_findReady_91 hl (k := 2) rfl (wi_inc _) (by decide) rfl (fun ls hl => ?_)
                refine lv_goto (tgt := 19) hx hb dX1_findReady_94 (by decide) ?_
                have e1 : bN (ct_any σ (t + 1)) = 0 := by
                  have q : ct_any σ (t + 1) = (ct_any σ t || ct_go σ (t + 1)) := rfl
                  rw [q]
                  first | (rw [bN_1 (show ¬ bN (ct_go σ (t + 1)) = 0 by omega)]; simp [bN]; done) | (rw [bN_1 (show ¬ bN (ct_any σ t) = 0 by omega)]; simp [bN]; done) | (rw [bN_0 (show bN (ct_go σ (t + 1)) = 0 by omega), bN_0 (show bN (ct_any σ t) = 0 by omega)]; rfl)
                exact ih (t + 1) (t + 1) _ _ _ (by omega) (by omega) (by omega) hP hS (by rw [e1]; exact lv_sub hl [0, 3, 4, 1, 5, 6] rfl)
      · obtain rfl : n = kq := by omega
        rw [hn, cw_ns_out hlt]
        refine lv_astoreN (lv' := [(6, .null), (5, .int (nI (t))), (4, .int (nI (30))), (3, .ref (ad 1)), (2, .int (nI (bN (ct_any σ n)))), (1, .int (nI (ct_least σ n))), (0, .ref (ad 0))]) hx hb dX1_findReady_30 hl (by decide) rfl (fun ls hl => ?_)
        refine lv_aloadN hx hb dX1_findReady_32 (lv_at hl 0 rfl) ?_
        refine lv_ifnullN (tgt := 91) hx hb dX1_findReady_34 (by decide) ?_
        refine lv_iinc (v := nI (t + 1)) (lv' := [(5, .int (nI (t + 1))), (6, .null), (4, .int (nI (30))), (3, .ref (ad 1)), (2, .int (nI (bN (ct_any σ n)))), (1, .int (nI (ct_least σ n))), (0, .ref (ad 0))]) hx hb dX1_findReady_91 hl (k := 1) rfl (wi_inc _) (by decide) rfl (fun ls hl => ?_)
        refine lv_goto (tgt := 19) hx hb dX1_findReady_94 (by decide) ?_
        exact ih (t + 1) n _ _ _ (by omega) (by omega) (by omega) hP hS (lv_sub hl [0, 2, 3, 4, 5, 6] rfl)
  exact loop19 _ 0 0 _ _ _ rfl (by omega) (by omega) (by rw [tR_0]; exact hP) hS (lv_sub hl [0, 1, 2, 3, 4, 5] rfl)
abbrev rm_c_stepOnce : Room := { frames := 1, cells := 0, slots := 0, locals := 22 }
set_option maxHeartbeats 4000000 in
set_option maxRecDepth 100000 in
theorem c_stepOnce (l : Launch) {D : va_G} {cN cI : ClassId} {ad : Nat → Nat} {σ : St} {τ : Nat → Nat → Nat} {tr : Nat → Int32} {n : Nat} (hI : adI ad (5 + 2 * n)) (hv : ct_Inv σ) (hn : σ.1 0 0 = n) {i : Nat} (h1 : 1 ≤ i) (h2 : i ≤ n) (ha : σ.1 4 i = 0) : Met l yX1_stepOnce wsX1_stepOnce rm_c_stepOnce (va_Pc [.ref (ad 0), .ref (ad (3 + 2 * i))] (pC D wCl (tyC cN cI) ad (cW cN cI ad σ τ tr) (5 + 2 * n))) (qV (S := Unit) D wCl ad (5 + 2 * n) (fun _ => True) (fun _ => cW cN cI ad (ct_step σ i) (tS τ σ i) tr)) 0 0 (wA ad (5 + 2 * n)) := by
  refine Met.go (cc := cX1_stepOnce) (maxL := 3) (ret := none) (by decide) rfl (Nat.le_of_ble_eq_true rfl) ?_
  intro p e s m below meth c ls args Q ⟨hx, hb, hml, hown, hts⟩ hr hlocks hnm ⟨hP, hK⟩ hl hQ
  have hl : lv_has ls 3 [(0, .ref (ad 0)), (1, .ref (ad (3 + 2 * i)))] := hl
  have hS : va_S (wA ad (5 + 2 * n)) s.heap s.heap [] := va_S.rf
  have hn30 : n ≤ 30 := by have := hv.1.1; omega
  obtain ⟨_, _, _, _, hb5, _, _, _, _⟩ := hv.2.1 i h1 (by omega)
  have hb5 := hb5 ha
  refine lv_aload_n hx hb dX1_stepOnce_0 rfl (lv_at hl 1 rfl) ?_
  refine lv_iconst (v := nI 0) hx hb dX1_stepOnce_1 (by decide) ?_
  refine wd_put (C := RX0) (T := TX0) (n := 12) (ci := ciN) (v := .int (nI (0))) (ty := .boolean) hx hb hts (by decide +kernel) tyX0 tyX0_ok nmX0 hown hK hP hI (fun k h => wA_in h) hS (3 + 2 * i) (by omega) (cW_nd (by omega)) rfl 6 (by decide) (hts (.fieldLink RX1 113 "CarThreads$Node" "ready" "Z") (by decide +kernel)) (fun _ h9 => h9) rfl (by decide +kernel) (wi_nar (by omega)) (wi_fit (by omega)) (Nat.le_of_ble_eq_true rfl) dX1_stepOnce_2 (fun H locs hP hS => ?_)
  have hP : va_P D wCl (wl ad (cW cN cI ad σ (tu τ 0 i 0) tr) (5 + 2 * n)) H := up_nd hP (by omega) (by simp [cw_nd, ct_sg, ct_sl, tu]) (fun x hx _ => by simp [cw_nd, ct_sg, ct_sl, tu, hx]) (by rfl) rfl rfl rfl rfl rfl
  refine lv_aload_n hx hb dX1_stepOnce_5 rfl (lv_at hl 1 rfl) ?_
  refine wd_get (C := RX0) (T := TX0) (n := 12) (ci := ciN) (v := .int (nI (σ.1 3 i))) hx hb hts (by decide +kernel) hown hK hP (3 + 2 * i) (by omega) (cW_nd (by omega)) rfl 4 (by decide) (hts (.fieldLink RX1 116 "CarThreads$Node" "done" "I") (by decide +kernel)) (fun _ h9 => h9) (by first | rfl | simp [cw_nd, cw_ob, mw_ob, ct_sg, ct_sl, tu]) dX1_stepOnce_6 ?_
  refine lv_iconst (v := nI 1) hx hb dX1_stepOnce_9 (by decide) ?_
  refine wi_add hx hb dX1_stepOnce_10 ?_
  refine lv_istore_n (lv' := [(2, .int (nI ((σ.1 3 i) + 1))), (0, .ref (ad 0)), (1, .ref (ad (3 + 2 * i)))]) hx hb dX1_stepOnce_11 rfl hl (by decide) rfl (fun ls hl => ?_)
  refine lv_iload_n hx hb dX1_stepOnce_12 rfl (lv_at hl 0 rfl) ?_
  refine lv_aload_n hx hb dX1_stepOnce_13 rfl (lv_at hl 2 rfl) ?_
  refine wd_get (C := RX0) (T := TX0) (n := 12) (ci := ciN) (v := .int (nI (σ.1 2 i))) hx hb hts (by decide +kernel) hown hK hP (3 + 2 * i) (by omega) (cW_nd (by omega)) rfl 2 (by decide) (hts (.fieldLink RX1 128 "CarThreads$Node" "failsAt" "I") (by decide +kernel)) (fun _ h9 => h9) (by first | rfl | simp [cw_nd, cw_ob, mw_ob, ct_sg, ct_sl, tu]) dX1_stepOnce_14 ?_
  refine wi_icmp_ne (tgt := 31) hx hb (by omega) (by omega) dX1_stepOnce_17 (by decide) (fun c17 => ?_) (fun c17 => ?_)
  · refine lv_aload_n hx hb dX1_stepOnce_31 rfl (lv_at hl 2 rfl) ?_
    refine lv_iload_n hx hb dX1_stepOnce_32 rfl (lv_at hl 0 rfl) ?_
    refine wd_put (C := RX0) (T := TX0) (n := 12) (ci := ciN) (v := .int (nI ((σ.1 3 i) + 1))) (ty := .int) hx hb hts (by decide +kernel) tyX0 tyX0_ok nmX0 hown hK hP hI (fun k h => wA_in h) hS (3 + 2 * i) (by omega) (cW_nd (by omega)) rfl 4 (by decide) (hts (.fieldLink RX1 116 "CarThreads$Node" "done" "I") (by decide +kernel)) (fun _ h9 => h9) rfl (by decide +kernel) rfl rfl (Nat.le_of_ble_eq_true rfl) dX1_stepOnce_33 (fun H locs hP hS => ?_)
    have hP : va_P D wCl (wl ad (cW cN cI ad (ct_sg σ 3 i ((σ.1 3 i) + 1)) (tu τ 0 i 0) tr) (5 + 2 * n)) H := up_nd hP (by omega) (by simp [cw_nd, ct_sg, ct_sl, tu]) (fun x hx _ => by simp [cw_nd, ct_sg, ct_sl, tu, hx]) (by rfl) rfl rfl rfl rfl rfl
    refine lv_aload_n hx hb dX1_stepOnce_36 rfl (lv_at hl 2 rfl) ?_
    refine lv_iconst (v := nI 1) hx hb dX1_stepOnce_37 (by decide) ?_
    refine wd_put (C := RX0) (T := TX0) (n := 12) (ci := ciN) (v := .int (nI (1))) (ty := .boolean) hx hb hts (by decide +kernel) tyX0 tyX0_ok nmX0 hown hK hP hI (fun k h => wA_in h) hS (3 + 2 * i) (by omega) (cW_nd (by omega)) rfl 7 (by decide) (hts (.fieldLink RX1 131 "CarThreads$Node" "toBeNoted" "Z") (by decide +kernel)) (fun _ h9 => h9) rfl (by decide +kernel) (wi_nar (by omega)) (wi_fit (by omega)) (Nat.le_of_ble_eq_true rfl) dX1_stepOnce_38 (fun H locs hP hS => ?_)
    have hP : va_P D wCl (wl ad (cW cN cI ad (ct_sg σ 3 i ((σ.1 3 i) + 1)) (tu (tu τ 0 i 0) 1 i 1) tr) (5 + 2 * n)) H := up_nd hP (by omega) (by simp [cw_nd, ct_sg, ct_sl, tu]) (fun x hx _ => by simp [cw_nd, ct_sg, ct_sl, tu, hx]) (by rfl) rfl rfl rfl rfl rfl
    refine lv_aload_n hx hb dX1_stepOnce_41 rfl (lv_at hl 2 rfl) ?_
    refine wd_get (C := RX0) (T := TX0) (n := 12) (ci := ciN) (v := .int (nI (σ.1 6 i))) hx hb hts (by decide +kernel) hown hK hP (3 + 2 * i) (by omega) (cW_nd (by omega)) rfl 8 (by decide) (hts (.fieldLink RX1 70 "CarThreads$Node" "interrupted" "Z") (by decide +kernel)) (fun _ h9 => h9) (by first | rfl | simp [cw_nd, cw_ob, mw_ob, ct_sg, ct_sl, tu]) dX1_stepOnce_42 ?_
    refine wi_if_ne (tgt := 59) hx hb (by omega) dX1_stepOnce_45 (by decide) (fun c45 => ?_) (fun c45 => ?_)
    · refine lv_aload_n hx hb dX1_stepOnce_59 rfl (lv_at hl 1 rfl) ?_
      refine lv_aload_n hx hb dX1_stepOnce_60 rfl (lv_at hl 2 rfl) ?_
      refine wd_callv (va_runV (As := [.ref (ad (3 + 2 * i))]) (rest := []) ⟨hx, hb, hml, hown, hts⟩ (c_endNode l (σ := (ct_sg σ 3 i ((σ.1 3 i) + 1))) (τ := (tu (tu τ 0 i 0) 1 i 1)) hI (hv.toW.sg (by decide) (by decide) (by decide)) hn h1 h2) (cwV 1 hts gX1_stepOnce_X1_endNode rfl rfl rfl (by decide +kernel) ⟨Nat.le_of_ble_eq_true rfl, Nat.le_of_ble_eq_true rfl⟩) (wd_pre (q := (RX1, TX1, 9)) (ci := ciT) hK hP (by omega) rfl cW_0) rfl rfl hl.1 rfl (lv_room (Nat.le_of_ble_eq_true rfl)) dX1_stepOnce_61 ⟨Nat.zero_le _, Nat.zero_le _⟩) hS (fun k h => wA_in h) (fun uv1 H locs ev1 hP hz hk hS => ?_)
      rw [if_pos (show ((ct_sg σ 3 i ((σ.1 3 i) + 1))).1 4 i = 0 from ha)] at hP
      have hf : ¬ ct_fails σ i = true := by simp [ct_fails]; omega
      have he : ct_ends σ i = true := by simp [ct_ends]; omega
      exact rt_v hQ hx hb hr hlocks () (by unfold ct_step tS; rw [if_neg hf, if_neg hf, if_pos he]; exact hP) hS trivial dX1_stepOnce_64
    · refine lv_aload_n hx hb dX1_stepOnce_48 rfl (lv_at hl 2 rfl) ?_
      refine wd_get (C := RX0) (T := TX0) (n := 12) (ci := ciN) (v := .int (nI ((σ.1 3 i) + 1))) hx hb hts (by decide +kernel) hown hK hP (3 + 2 * i) (by omega) (cW_nd (by omega)) rfl 4 (by decide) (hts (.fieldLink RX1 116 "CarThreads$Node" "done" "I") (by decide +kernel)) (fun _ h9 => h9) (by first | rfl | simp [cw_nd, cw_ob, mw_ob, ct_sg, ct_sl, tu]) dX1_stepOnce_49 ?_
      refine lv_aload_n hx hb dX1_stepOnce_52 rfl (lv_at hl 2 rfl) ?_
      refine wd_get (C := RX0) (T := TX0) (n := 12) (ci := ciN) (v := .int (nI (σ.1 1 i))) hx hb hts (by decide +kernel) hown hK hP (3 + 2 * i) (by omega) (cW_nd (by omega)) rfl 1 (by decide) (hts (.fieldLink RX1 134 "CarThreads$Node" "steps" "I") (by decide +kernel)) (fun _ h9 => h9) (by first | rfl | simp [cw_nd, cw_ob, mw_ob, ct_sg, ct_sl, tu]) dX1_stepOnce_53 ?_
      refine wi_icmp_ne (tgt := 64) hx hb (by omega) (by omega) dX1_stepOnce_56 (by decide) (fun c56 => ?_) (fun c56 => ?_)
      · have hf : ¬ ct_fails σ i = true := by simp [ct_fails]; omega
        have he : ¬ ct_ends σ i = true := by simp [ct_ends, ct_fails]; omega
        exact rt_v hQ hx hb hr hlocks () (by unfold ct_step tS; rw [if_neg hf, if_neg hf, if_neg he]; exact hP) hS trivial dX1_stepOnce_64
      · refine lv_aload_n hx hb dX1_stepOnce_59 rfl (lv_at hl 1 rfl) ?_
        refine lv_aload_n hx hb dX1_stepOnce_60 rfl (lv_at hl 2 rfl) ?_
        refine wd_callv (va_runV (As := [.ref (ad (3 + 2 * i))]) (rest := []) ⟨hx, hb, hml, hown, hts⟩ (c_endNode l (σ := (ct_sg σ 3 i ((σ.1 3 i) + 1))) (τ := (tu (tu τ 0 i 0) 1 i 1)) hI (hv.toW.sg (by decide) (by decide) (by decide)) hn h1 h2) (cwV 1 hts gX1_stepOnce_X1_endNode rfl rfl rfl (by decide +kernel) ⟨Nat.le_of_ble_eq_true rfl, Nat.le_of_ble_eq_true rfl⟩) (wd_pre (q := (RX1, TX1, 9)) (ci := ciT) hK hP (by omega) rfl cW_0) rfl rfl hl.1 rfl (lv_room (Nat.le_of_ble_eq_true rfl)) dX1_stepOnce_61 ⟨Nat.zero_le _, Nat.zero_le _⟩) hS (fun k h => wA_in h) (fun uv2 H locs ev2 hP hz hk hS => ?_)
        rw [if_pos (show ((ct_sg σ 3 i ((σ.1 3 i) + 1))).1 4 i = 0 from ha)] at hP
        have hf : ¬ ct_fails σ i = true := by simp [ct_fails]; omega
        have he : ct_ends σ i = true := by simp [ct_ends]; omega
        exact rt_v hQ hx hb hr hlocks () (by unfold ct_step tS; rw [if_neg hf, if_neg hf, if_pos he]; exact hP) hS trivial dX1_stepOnce_64
  · refine lv_aload_n hx hb dX1_stepOnce_20 rfl (lv_at hl 2 rfl) ?_
    refine lv_iconst (v := nI 1) hx hb dX1_stepOnce_21 (by decide) ?_
    refine wd_put (C := RX0) (T := TX0) (n := 12) (ci := ciN) (v := .int (nI (1))) (ty := .boolean) hx hb hts (by decide +kernel) tyX0 tyX0_ok nmX0 hown hK hP hI (fun k h => wA_in h) hS (3 + 2 * i) (by omega) (cW_nd (by omega)) rfl 9 (by decide) (hts (.fieldLink RX1 60 "CarThreads$Node" "tookSafeWay" "Z") (by decide +kernel)) (fun _ h9 => h9) rfl (by decide +kernel) (wi_nar (by omega)) (wi_fit (by omega)) (Nat.le_of_ble_eq_true rfl) dX1_stepOnce_22 (fun H locs hP hS => ?_)
    have hP : va_P D wCl (wl ad (cW cN cI ad (ct_sg σ 5 i 1) (tu τ 0 i 0) tr) (5 + 2 * n)) H := up_nd hP (by omega) (by simp [cw_nd, ct_sg, ct_sl, tu]) (fun x hx _ => by simp [cw_nd, ct_sg, ct_sl, tu, hx]) (by rfl) rfl rfl rfl rfl rfl
    refine lv_aload_n hx hb dX1_stepOnce_25 rfl (lv_at hl 1 rfl) ?_
    refine lv_aload_n hx hb dX1_stepOnce_26 rfl (lv_at hl 2 rfl) ?_
    refine wd_callv (va_runV (As := [.ref (ad (3 + 2 * i))]) (rest := []) ⟨hx, hb, hml, hown, hts⟩ (c_endNode l (σ := (ct_sg σ 5 i 1)) (τ := (tu τ 0 i 0)) hI (hv.toW.sg (by decide) (by decide) (by decide)) hn h1 h2) (cwV 1 hts gX1_stepOnce_X1_endNode rfl rfl rfl (by decide +kernel) ⟨Nat.le_of_ble_eq_true rfl, Nat.le_of_ble_eq_true rfl⟩) (wd_pre (q := (RX1, TX1, 9)) (ci := ciT) hK hP (by omega) rfl cW_0) rfl rfl hl.1 rfl (lv_room (Nat.le_of_ble_eq_true rfl)) dX1_stepOnce_27 ⟨Nat.zero_le _, Nat.zero_le _⟩) hS (fun k h => wA_in h) (fun uv3 H locs ev3 hP hz hk hS => ?_)
    rw [if_pos (show ((ct_sg σ 5 i 1)).1 4 i = 0 from ha)] at hP
    have hf : ct_fails σ i = true := by simp [ct_fails]; omega
    exact rt_v hQ hx hb hr hlocks () (by unfold ct_step tS; rw [if_pos hf, if_pos hf]; exact hP) hS trivial dX1_stepOnce_30
end P42
