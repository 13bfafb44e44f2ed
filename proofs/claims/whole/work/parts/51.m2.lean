section P51
abbrev rm_m_mayGo : Room := { frames := 0, cells := 0, slots := 0, locals := 0 }
set_option maxHeartbeats 4000000 in
set_option maxRecDepth 100000 in
theorem m_mayGo (l : Launch) {D : va_G} {cI cZ cJ : ClassId} {ad : Nat → Nat} {σ : St} {ρ : Nat → Nat} {cd : Int32} {n : Nat} (hI : adI ad 13) (hv : ct_Inv σ) (hn : σ.1 0 0 = n) {i : Nat} (h1 : 1 ≤ i) (h2 : i ≤ n) : Met l yY2_mayGo wsY2_mayGo rm_m_mayGo (va_Pc [.ref (ad 0), .int (nI (i))] (pC D wCl (tyM cI cZ cJ) ad (mW cI cZ cJ ad σ ρ cd) 13)) (vp_Si (fun r => r = nI (bN (ct_go σ i)))) 0 0 (fun _ => False) := by
  refine Met.go (cc := cY2_mayGo) (maxL := 5) (ret := (some .boolean)) (by decide) rfl (Nat.le_of_ble_eq_true rfl) ?_
  intro p e s m below meth c ls args Q ⟨hx, hb, hml, hown, hts⟩ hr hlocks hnm ⟨hP, hK⟩ hl hQ
  have hl : lv_has ls 5 [(0, .ref (ad 0)), (1, .int (nI (i)))] := hl
  have hn30 : n ≤ 30 := by have := hv.1.1; omega
  obtain ⟨_, _, _, _, hb5, _, _, _, hb9⟩ := hv.2.1 i h1 (by omega)
  have hb9 := hb9 (σ.1 3 i + 1)
  have hbr := hv.1.2.1
  have hb30 := hv.1.1
  refine lv_aload_n hx hb dY2_mayGo_0 rfl (lv_at hl 0 rfl) ?_
  refine wd_get (C := RX2) (T := TY2) (n := 17) (ci := ciM) (v := .ref (ad 4)) hx hb hts (by decide +kernel) hown hK hP (0) (by omega) mW_0 rfl 5 (by decide) (hts (.fieldLink RX2 19 "CarThreadsModel" "ended" "[Z") (by decide +kernel)) (fun _ h9 => h9) (by first | rfl | simp [cw_nd, cw_ob, mw_ob, ct_sg, ct_sl, tu]) dY2_mayGo_1 ?_
  refine lv_iload_n hx hb dY2_mayGo_4 rfl (lv_at hl 1 rfl) ?_
  refine wd_zald hx hb hK hP (4) 1 (by omega) mW_4 rfl (i) (by omega) (by omega) rfl dY2_mayGo_5 ?_
  refine wi_if_eq (tgt := 11) hx hb (by omega) dY2_mayGo_6 (by decide) (fun c6 => ?_) (fun c6 => ?_)
  · refine lv_aload_n hx hb dY2_mayGo_11 rfl (lv_at hl 0 rfl) ?_
    refine wd_get (C := RX2) (T := TY2) (n := 17) (ci := ciM) (v := .ref (ad 10)) hx hb hts (by decide +kernel) hown hK hP (0) (by omega) mW_0 rfl 11 (by decide) (hts (.fieldLink RX2 39 "CarThreadsModel" "waits" "[I") (by decide +kernel)) (fun _ h9 => h9) (by first | rfl | simp [cw_nd, cw_ob, mw_ob, ct_sg, ct_sl, tu]) dY2_mayGo_12 ?_
    refine lv_sipush (v := nI 201) hx hb dY2_mayGo_15 (by decide) ?_
    refine lv_iload_n hx hb dY2_mayGo_18 rfl (lv_at hl 1 rfl) ?_
    refine wi_mul hx hb dY2_mayGo_19 ?_
    refine lv_aload_n hx hb dY2_mayGo_20 rfl (lv_at hl 0 rfl) ?_
    refine wd_get (C := RX2) (T := TY2) (n := 17) (ci := ciM) (v := .ref (ad 3)) hx hb hts (by decide +kernel) hown hK hP (0) (by omega) mW_0 rfl 4 (by decide) (hts (.fieldLink RX2 16 "CarThreadsModel" "done" "[I") (by decide +kernel)) (fun _ h9 => h9) (by first | rfl | simp [cw_nd, cw_ob, mw_ob, ct_sg, ct_sl, tu]) dY2_mayGo_21 ?_
    refine lv_iload_n hx hb dY2_mayGo_24 rfl (lv_at hl 1 rfl) ?_
    refine wd_iald hx hb hK hP (3) 0 (by omega) mW_3 rfl (i) (by omega) (by omega) rfl dY2_mayGo_25 ?_
    refine wi_add hx hb dY2_mayGo_26 ?_
    refine lv_iconst (v := nI 1) hx hb dY2_mayGo_27 (by decide) ?_
    refine wi_add hx hb dY2_mayGo_28 ?_
    have hb5 := hb5 (by omega)
    refine wd_iald hx hb hK hP (10) 0 (by omega) mW_10 rfl (((201 * i) + (σ.1 3 i)) + 1) (by omega) (by omega) rfl dY2_mayGo_29 ?_
    rw [show (((201 * i) + (σ.1 3 i)) + 1) / 201 = i by omega, show (((201 * i) + (σ.1 3 i)) + 1) % 201 = σ.1 3 i + 1 by omega]
    obtain ⟨w, hw⟩ : ∃ w, σ.2.1 i (σ.1 3 i + 1) = w := ⟨_, rfl⟩
    rw [hw] at hb9 ⊢
    refine lv_istore_n (lv' := [(2, .int (nI (w))), (0, .ref (ad 0)), (1, .int (nI (i)))]) hx hb dY2_mayGo_30 rfl hl (by decide) rfl (fun ls hl => ?_)
    refine lv_iload_n hx hb dY2_mayGo_31 rfl (lv_at hl 0 rfl) ?_
    refine wi_if_eq (tgt := 59) hx hb (by omega) dY2_mayGo_32 (by decide) (fun c32 => ?_) (fun c32 => ?_)
    · refine lv_iconst (v := nI 1) hx hb dY2_mayGo_59 (by decide) ?_
      refine lv_goto (tgt := 64) hx hb dY2_mayGo_60 (by decide) ?_
      refine lv_istore_n (lv' := [(3, .int (nI (1))), (2, .int (nI (w))), (0, .ref (ad 0)), (1, .int (nI (i)))]) hx hb dY2_mayGo_64 rfl hl (by decide) rfl (fun ls hl => ?_)
      refine lv_aload_n hx hb dY2_mayGo_65 rfl (lv_at hl 2 rfl) ?_
      refine wd_get (C := RX2) (T := TY2) (n := 17) (ci := ciM) (v := .int (nI (σ.1 0 1))) hx hb hts (by decide +kernel) hown hK hP (0) (by omega) mW_0 rfl 13 (by decide) (hts (.fieldLink RX2 61 "CarThreadsModel" "barrier" "I") (by decide +kernel)) (fun _ h9 => h9) (by first | rfl | simp [cw_nd, cw_ob, mw_ob, ct_sg, ct_sl, tu]) dY2_mayGo_66 ?_
      refine wi_if_le (tgt := 140) hx hb (by omega) dY2_mayGo_69 (by decide) (fun c69 => ?_) (fun c69 => ?_)
      · refine lv_iload_n hx hb dY2_mayGo_140 rfl (lv_at hl 0 rfl) ?_
        have hq : ct_wait σ i = false := by simp [ct_wait, hw] <;> omega
        have hbq : ct_bar σ i = false := by unfold ct_bar; simp; first | (intro q; omega) | (intro q1 q2; omega) | skip
        have hg : ct_go σ i = true := by unfold ct_go; rw [show (σ.1 4 i == 0) = true from by simp; omega, hq, hbq]; rfl
        exact ro_z hQ hx hb hr hlocks rfl (by rw [hg]; rfl) dY2_mayGo_141
      · refine lv_aload_n hx hb dY2_mayGo_72 rfl (lv_at hl 2 rfl) ?_
        refine wd_get (C := RX2) (T := TY2) (n := 17) (ci := ciM) (v := .ref (ad 3)) hx hb hts (by decide +kernel) hown hK hP (0) (by omega) mW_0 rfl 4 (by decide) (hts (.fieldLink RX2 16 "CarThreadsModel" "done" "[I") (by decide +kernel)) (fun _ h9 => h9) (by first | rfl | simp [cw_nd, cw_ob, mw_ob, ct_sg, ct_sl, tu]) dY2_mayGo_73 ?_
        refine lv_iload_n hx hb dY2_mayGo_76 rfl (lv_at hl 3 rfl) ?_
        refine wd_iald hx hb hK hP (3) 0 (by omega) mW_3 rfl (i) (by omega) (by omega) rfl dY2_mayGo_77 ?_
        refine lv_aload_n hx hb dY2_mayGo_78 rfl (lv_at hl 2 rfl) ?_
        refine wd_get (C := RX2) (T := TY2) (n := 17) (ci := ciM) (v := .int (nI (σ.1 0 1))) hx hb hts (by decide +kernel) hown hK hP (0) (by omega) mW_0 rfl 13 (by decide) (hts (.fieldLink RX2 61 "CarThreadsModel" "barrier" "I") (by decide +kernel)) (fun _ h9 => h9) (by first | rfl | simp [cw_nd, cw_ob, mw_ob, ct_sg, ct_sl, tu]) dY2_mayGo_79 ?_
        refine wi_rem hx hb (by omega) (by omega) (by omega) dY2_mayGo_82 ?_
        have hmod9 : σ.1 3 i % σ.1 0 1 < 2 ^ 31 := by have := Nat.mod_le (σ.1 3 i) (σ.1 0 1); omega
        refine wi_if_ne (tgt := 140) hx hb (by omega) dY2_mayGo_83 (by decide) (fun c83 => ?_) (fun c83 => ?_)
        · refine lv_iload_n hx hb dY2_mayGo_140 rfl (lv_at hl 0 rfl) ?_
          have hq : ct_wait σ i = false := by simp [ct_wait, hw] <;> omega
          have hbq : ct_bar σ i = false := by unfold ct_bar; simp; first | (intro q; omega) | (intro q1 q2; omega) | skip
          have hg : ct_go σ i = true := by unfold ct_go; rw [show (σ.1 4 i == 0) = true from by simp; omega, hq, hbq]; rfl
          exact ro_z hQ hx hb hr hlocks rfl (by rw [hg]; rfl) dY2_mayGo_141
        · refine lv_iconst (v := nI 1) hx hb dY2_mayGo_86 (by decide) ?_
          refine lv_istore (lv' := [(4, .int (nI (1))), (3, .int (nI (1))), (2, .int (nI (w))), (0, .ref (ad 0)), (1, .int (nI (i)))]) hx hb dY2_mayGo_87 hl (by decide) rfl (fun ls hl => ?_)
          have e0 : bN ((!(ct_wait σ i)) && ct_all σ (σ.1 3 i) 0) = 1 := by
            have q : ct_wait σ i = false := by simp [ct_wait, hw] <;> omega
            rw [q]; rfl
          have hmod : σ.1 3 i % σ.1 0 1 = 0 := by omega
          have loop89 : ∀ (f u : Nat) (ls : Array Slot), n - u = f → u ≤ n → lv_has ls 5 [(4, .int (nI (u + 1))), (3, .int (nI (bN ((!(ct_wait σ i)) && ct_all σ (σ.1 3 i) u)))), (0, .ref (ad 0)), (1, .int (nI (i)))] → W p l e rm_m_mayGo s m args below meth c s.heap [] 0 0 Q (F0 m 89 ls []) := by
            intro f
            induction f with
            | zero =>
              intro u ls hf hj hl
              refine lv_iload hx hb dY2_mayGo_89 (lv_at hl 0 rfl) ?_
              refine lv_aload_n hx hb dY2_mayGo_91 rfl (lv_at hl 2 rfl) ?_
              refine wd_get (C := RX2) (T := TY2) (n := 17) (ci := ciM) (v := .int (nI (σ.1 0 0))) hx hb hts (by decide +kernel) hown hK hP (0) (by omega) mW_0 rfl 1 (by decide) (hts (.fieldLink RX2 52 "CarThreadsModel" "nodes" "I") (by decide +kernel)) (fun _ h9 => h9) (by first | rfl | simp [cw_nd, cw_ob, mw_ob, ct_sg, ct_sl, tu]) dY2_mayGo_92 ?_
              refine wi_icmp_gt (tgt := 140) hx hb (by omega) (by omega) dY2_mayGo_95 (by decide) (fun c95 => ?_) (fun z => absurd z (by omega))
              refine lv_iload_n hx hb dY2_mayGo_140 rfl (lv_at hl 1 rfl) ?_
              have hg : ct_go σ i = ((!(ct_wait σ i)) && ct_all σ (σ.1 3 i) u) := by
                rw [show u = n by omega, ← hn]
                unfold ct_go ct_bar
                rw [show (σ.1 4 i == 0) = true from by simp; omega, show (σ.1 0 1 == 0) = false from by simp; omega, hmod]
                simp
              exact ro_z hQ hx hb hr hlocks (wi_nar (bN_le _)) (by rw [hg]) dY2_mayGo_141
            | succ f ih =>
              intro u ls hf hj hl
              have hlt : u < n := by omega
              obtain ⟨_, _, _, _, _, _, _, _, _⟩ := hv.2.1 (u + 1) (by omega) (by omega)
              have hbn := bN_le ((!(ct_wait σ i)) && ct_all σ (σ.1 3 i) u)
              refine lv_iload hx hb dY2_mayGo_89 (lv_at hl 0 rfl) ?_
              refine lv_aload_n hx hb dY2_mayGo_91 rfl (lv_at hl 2 rfl) ?_
              refine wd_get (C := RX2) (T := TY2) (n := 17) (ci := ciM) (v := .int (nI (σ.1 0 0))) hx hb hts (by decide +kernel) hown hK hP (0) (by omega) mW_0 rfl 1 (by decide) (hts (.fieldLink RX2 52 "CarThreadsModel" "nodes" "I") (by decide +kernel)) (fun _ h9 => h9) (by first | rfl | simp [cw_nd, cw_ob, mw_ob, ct_sg, ct_sl, tu]) dY2_mayGo_92 ?_
              refine wi_icmp_gt (tgt := 140) hx hb (by omega) (by omega) dY2_mayGo_95 (by decide) (fun z => absurd z (by omega)) (fun c95 => ?_)
              refine lv_iload_n hx hb dY2_mayGo_98 rfl (lv_at hl 1 rfl) ?_
              refine wi_if_eq (tgt := 132) hx hb (by omega) dY2_mayGo_99 (by decide) (fun c99 => ?_) (fun c99 => ?_)
              · refine lv_iconst (v := nI 0) hx hb dY2_mayGo_132 (by decide) ?_
                refine lv_istore_n (lv' := [(3, .int (nI (0))), (4, .int (nI (u + 1))), (0, .ref (ad 0)), (1, .int (nI (i)))]) hx hb dY2_mayGo_133 rfl hl (by decide) rfl (fun ls hl => ?_)
                refine lv_iinc (v := nI (u + 1 + 1)) (lv' := [(4, .int (nI (u + 1 + 1))), (3, .int (nI (0))), (0, .ref (ad 0)), (1, .int (nI (i)))]) hx hb dY2_mayGo_134 hl (k := 1) rfl (wi_inc _) (by decide) rfl (fun ls hl => ?_)
                refine lv_goto (tgt := 89) hx hb dY2_mayGo_137 (by decide) ?_
                have e1 : bN ((!(ct_wait σ i)) && ct_all σ (σ.1 3 i) (u + 1)) = 0 := by
                  have q : ct_all σ (σ.1 3 i) (u + 1) = (ct_all σ (σ.1 3 i) u && (!(σ.1 4 (u + 1) == 0) || decide (σ.1 3 i ≤ σ.1 3 (u + 1)))) := rfl
                  rw [q, ← Bool.and_assoc]
                  first | (rw [bN_0 (show bN ((!(ct_wait σ i)) && ct_all σ (σ.1 3 i) u) = 0 by omega)]; rfl) | (rw [bN_1 (show ¬ bN ((!(ct_wait σ i)) && ct_all σ (σ.1 3 i) u) = 0 by omega), show (!(σ.1 4 (u + 1) == 0) || decide (σ.1 3 i ≤ σ.1 3 (u + 1))) = true from by simp; omega]; rfl) | (rw [show (!(σ.1 4 (u + 1) == 0) || decide (σ.1 3 i ≤ σ.1 3 (u + 1))) = false from by simp; omega]; simp [bN])
                exact ih (u + 1) _ (by omega) (by omega) (by rw [e1]; exact lv_sub hl [0, 1, 2, 3] rfl)
              · refine lv_aload_n hx hb dY2_mayGo_102 rfl (lv_at hl 2 rfl) ?_
                refine wd_get (C := RX2) (T := TY2) (n := 17) (ci := ciM) (v := .ref (ad 4)) hx hb hts (by decide +kernel) hown hK hP (0) (by omega) mW_0 rfl 5 (by decide) (hts (.fieldLink RX2 19 "CarThreadsModel" "ended" "[Z") (by decide +kernel)) (fun _ h9 => h9) (by first | rfl | simp [cw_nd, cw_ob, mw_ob, ct_sg, ct_sl, tu]) dY2_mayGo_103 ?_
                refine lv_iload hx hb dY2_mayGo_106 (lv_at hl 0 rfl) ?_
                refine wd_zald hx hb hK hP (4) 1 (by omega) mW_4 rfl (u + 1) (by omega) (by omega) rfl dY2_mayGo_108 ?_
                refine wi_if_ne (tgt := 128) hx hb (by omega) dY2_mayGo_109 (by decide) (fun c109 => ?_) (fun c109 => ?_)
                · refine lv_iconst (v := nI 1) hx hb dY2_mayGo_128 (by decide) ?_
                  refine lv_goto (tgt := 133) hx hb dY2_mayGo_129 (by decide) ?_
                  refine lv_istore_n (lv' := [(3, .int (nI (1))), (4, .int (nI (u + 1))), (0, .ref (ad 0)), (1, .int (nI (i)))]) hx hb dY2_mayGo_133 rfl hl (by decide) rfl (fun ls hl => ?_)
                  refine lv_iinc (v := nI (u + 1 + 1)) (lv' := [(4, .int (nI (u + 1 + 1))), (3, .int (nI (1))), (0, .ref (ad 0)), (1, .int (nI (i)))]) hx hb dY2_mayGo_134 hl (k := 1) rfl (wi_inc _) (by decide) rfl (fun ls hl => ?_)
                  refine lv_goto (tgt := 89) hx hb dY2_mayGo_137 (by decide) ?_
                  have e1 : bN ((!(ct_wait σ i)) && ct_all σ (σ.1 3 i) (u + 1)) = 1 := by
                    have q : ct_all σ (σ.1 3 i) (u + 1) = (ct_all σ (σ.1 3 i) u && (!(σ.1 4 (u + 1) == 0) || decide (σ.1 3 i ≤ σ.1 3 (u + 1)))) := rfl
                    rw [q, ← Bool.and_assoc]
                    first | (rw [bN_0 (show bN ((!(ct_wait σ i)) && ct_all σ (σ.1 3 i) u) = 0 by omega)]; rfl) | (rw [bN_1 (show ¬ bN ((!(ct_wait σ i)) && ct_all σ (σ.1 3 i) u) = 0 by omega), show (!(σ.1 4 (u + 1) == 0) || decide (σ.1 3 i ≤ σ.1 3 (u + 1))) = true from by simp; omega]; rfl) | (rw [show (!(σ.1 4 (u + 1) == 0) || decide (σ.1 3 i ≤ σ.1 3 (u + 1))) = false from by simp; omega]; simp [bN])
                  exact ih (u + 1) _ (by omega) (by omega) (by rw [e1]; exact lv_sub hl [0, 1, 2, 3] rfl)
                · refine lv_aload_n hx hb dY2_mayGo_112 rfl (lv_at hl 2 rfl) ?_
                  refine wd_get (C := RX2) (T := TY2) (n := 17) (ci := ciM) (v := .ref (ad 3)) hx hb hts (by decide +kernel) hown hK hP (0) (by omega) mW_0 rfl 4 (by decide) (hts (.fieldLink RX2 16 "CarThreadsModel" "done" "[I") (by decide +kernel)) (fun _ h9 => h9) (by first | rfl | simp [cw_nd, cw_ob, mw_ob, ct_sg, ct_sl, tu]) dY2_mayGo_113 ?_
                  refine lv_iload hx hb dY2_mayGo_116 (lv_at hl 0 rfl) ?_
                  refine wd_iald hx hb hK hP (3) 0 (by omega) mW_3 rfl (u + 1) (by omega) (by omega) rfl dY2_mayGo_118 ?_
                  refine lv_aload_n hx hb dY2_mayGo_119 rfl (lv_at hl 2 rfl) ?_
                  refine wd_get (C := RX2) (T := TY2) (n := 17) (ci := ciM) (v := .ref (ad 3)) hx hb hts (by decide +kernel) hown hK hP (0) (by omega) mW_0 rfl 4 (by decide) (hts (.fieldLink RX2 16 "CarThreadsModel" "done" "[I") (by decide +kernel)) (fun _ h9 => h9) (by first | rfl | simp [cw_nd, cw_ob, mw_ob, ct_sg, ct_sl, tu]) dY2_mayGo_120 ?_
                  refine lv_iload_n hx hb dY2_mayGo_123 rfl (lv_at hl 3 rfl) ?_
                  refine wd_iald hx hb hK hP (3) 0 (by omega) mW_3 rfl (i) (by omega) (by omega) rfl dY2_mayGo_124 ?_
                  refine wi_icmp_lt (tgt := 132) hx hb (by omega) (by omega) dY2_mayGo_125 (by decide) (fun c125 => ?_) (fun c125 => ?_)
                  · refine lv_iconst (v := nI 0) hx hb dY2_mayGo_132 (by decide) ?_
                    refine lv_istore_n (lv' := [(3, .int (nI (0))), (4, .int (nI (u + 1))), (0, .ref (ad 0)), (1, .int (nI (i)))]) hx hb dY2_mayGo_133 rfl hl (by decide) rfl (fun ls hl => ?_)
                    refine lv_iinc (v := nI (u + 1 + 1)) (lv' := [(4, .int (nI (u + 1 + 1))), (3, .int (nI (0))), (0, .ref (ad 0)), (1, .int (nI (i)))]) hx hb dY2_mayGo_134 hl (k := 1) rfl (wi_inc _) (by decide) rfl (fun ls hl => ?_)
                    refine lv_goto (tgt := 89) hx hb dY2_mayGo_137 (by decide) ?_
                    have e1 : bN ((!(ct_wait σ i)) && ct_all σ (σ.1 3 i) (u + 1)) = 0 := by
                      have q : ct_all σ (σ.1 3 i) (u + 1) = (ct_all σ (σ.1 3 i) u && (!(σ.1 4 (u + 1) == 0) || decide (σ.1 3 i ≤ σ.1 3 (u + 1)))) := rfl
                      rw [q, ← Bool.and_assoc]
                      first | (rw [bN_0 (show bN ((!(ct_wait σ i)) && ct_all σ (σ.1 3 i) u) = 0 by omega)]; rfl) | (rw [bN_1 (show ¬ bN ((!(ct_wait σ i)) && ct_all σ (σ.1 3 i) u) = 0 by omega), show (!(σ.1 4 (u + 1) == 0) || decide (σ.1 3 i ≤ σ.1 3 (u + 1))) = true from by simp; omega]; rfl) | (rw [show (!(σ.1 4 (u + 1) == 0) || decide (σ.1 3 i ≤ σ.1 3 (u + 1))) = false from by simp; omega]; simp [bN])
                    exact ih (u + 1) _ (by omega) (by omega) (by rw [e1]; exact lv_sub hl [0, 1, 2, 3] rfl)
                  · refine lv_iconst (v := nI 1) hx hb dY2_mayGo_128 (by decide) ?_
                    refine lv_goto (tgt := 133) hx hb dY2_mayGo_129 (by decide) ?_
                    refine lv_istore_n (lv' := [(3, .int (nI (1))), (4, .int (nI (u + 1))), (0, .ref (ad 0)), (1, .int (nI (i)))]) hx hb dY2_mayGo_133 rfl hl (by decide) rfl (fun ls hl => ?_)
                    refine lv_iinc (v := nI (u + 1 + 1)) (lv' := [(4, .int (nI (u + 1 + 1))), (3, .int (nI (1))), (0, .ref (ad 0)), (1, .int (nI (i)))]) hx hb dY2_mayGo_134 hl (k := 1) rfl (wi_inc _) (by decide) rfl (fun ls hl => ?_)
                    refine lv_goto (tgt := 89) hx hb dY2_mayGo_137 (by decide) ?_
                    have e1 : bN ((!(ct_wait σ i)) && ct_all σ (σ.1 3 i) (u + 1)) = 1 := by
                      have q : ct_all σ (σ.1 3 i) (u + 1) = (ct_all σ (σ.1 3 i) u && (!(σ.1 4 (u + 1) == 0) || decide (σ.1 3 i ≤ σ.1 3 (u + 1)))) := rfl
                      rw [q, ← Bool.and_assoc]
                      first | (rw [bN_0 (show bN ((!(ct_wait σ i)) && ct_all σ (σ.1 3 i) u) = 0 by omega)]; rfl) | (rw [bN_1 (show ¬ bN ((!(ct_wait σ i)) && ct_all σ (σ.1 3 i) u) = 0 by omega), show (!(σ.1 4 (u + 1) == 0) || decide (σ.1 3 i ≤ σ.1 3 (u + 1))) = true from by simp; omega]; rfl) | (rw [show (!(σ.1 4 (u + 1) == 0) || decide (σ.1 3 i ≤ σ.1 3 (u + 1))) = false from by simp; omega]; simp [bN])
                    exact ih (u + 1) _ (by omega) (by omega) (by rw [e1]; exact lv_sub hl [0, 1, 2, 3] rfl)
          exact loop89 _ 0 _ rfl (by omega) (by rw [e0]; exact lv_sub hl [0, 1, 3, 4] rfl)
    · refine lv_aload_n hx hb dY2_mayGo_35 rfl (lv_at hl 1 rfl) ?_
      refine wd_get (C := RX2) (T := TY2) (n := 17) (ci := ciM) (v := .ref (ad 4)) hx hb hts (by decide +kernel) hown hK hP (0) (by omega) mW_0 rfl 5 (by decide) (hts (.fieldLink RX2 19 "CarThreadsModel" "ended" "[Z") (by decide +kernel)) (fun _ h9 => h9) (by first | rfl | simp [cw_nd, cw_ob, mw_ob, ct_sg, ct_sl, tu]) dY2_mayGo_36 ?_
      refine lv_iload_n hx hb dY2_mayGo_39 rfl (lv_at hl 0 rfl) ?_
      obtain ⟨_, _, _, _, _, _, _, _, _⟩ := hv.2.1 w (by omega) (by omega)
      refine wd_zald hx hb hK hP (4) 1 (by omega) mW_4 rfl (w) (by omega) (by omega) rfl dY2_mayGo_40 ?_
      refine wi_if_ne (tgt := 59) hx hb (by omega) dY2_mayGo_41 (by decide) (fun c41 => ?_) (fun c41 => ?_)
      · refine lv_iconst (v := nI 1) hx hb dY2_mayGo_59 (by decide) ?_
        refine lv_goto (tgt := 64) hx hb dY2_mayGo_60 (by decide) ?_
        refine lv_istore_n (lv' := [(3, .int (nI (1))), (2, .int (nI (w))), (0, .ref (ad 0)), (1, .int (nI (i)))]) hx hb dY2_mayGo_64 rfl hl (by decide) rfl (fun ls hl => ?_)
        refine lv_aload_n hx hb dY2_mayGo_65 rfl (lv_at hl 2 rfl) ?_
        refine wd_get (C := RX2) (T := TY2) (n := 17) (ci := ciM) (v := .int (nI (σ.1 0 1))) hx hb hts (by decide +kernel) hown hK hP (0) (by omega) mW_0 rfl 13 (by decide) (hts (.fieldLink RX2 61 "CarThreadsModel" "barrier" "I") (by decide +kernel)) (fun _ h9 => h9) (by first | rfl | simp [cw_nd, cw_ob, mw_ob, ct_sg, ct_sl, tu]) dY2_mayGo_66 ?_
        refine wi_if_le (tgt := 140) hx hb (by omega) dY2_mayGo_69 (by decide) (fun c69 => ?_) (fun c69 => ?_)
        · refine lv_iload_n hx hb dY2_mayGo_140 rfl (lv_at hl 0 rfl) ?_
          have hq : ct_wait σ i = false := by simp [ct_wait, hw] <;> omega
          have hbq : ct_bar σ i = false := by unfold ct_bar; simp; first | (intro q; omega) | (intro q1 q2; omega) | skip
          have hg : ct_go σ i = true := by unfold ct_go; rw [show (σ.1 4 i == 0) = true from by simp; omega, hq, hbq]; rfl
          exact ro_z hQ hx hb hr hlocks rfl (by rw [hg]; rfl) dY2_mayGo_141
        · refine lv_aload_n hx hb dY2_mayGo_72 rfl (lv_at hl 2 rfl) ?_
          refine wd_get (C := RX2) (T := TY2) (n := 17) (ci := ciM) (v := .ref (ad 3)) hx hb hts (by decide +kernel) hown hK hP (0) (by omega) mW_0 rfl 4 (by decide) (hts (.fieldLink RX2 16 "CarThreadsModel" "done" "[I") (by decide +kernel)) (fun _ h9 => h9) (by first | rfl | simp [cw_nd, cw_ob, mw_ob, ct_sg, ct_sl, tu]) dY2_mayGo_73 ?_
          refine lv_iload_n hx hb dY2_mayGo_76 rfl (lv_at hl 3 rfl) ?_
          refine wd_iald hx hb hK hP (3) 0 (by omega) mW_3 rfl (i) (by omega) (by omega) rfl dY2_mayGo_77 ?_
          refine lv_aload_n hx hb dY2_mayGo_78 rfl (lv_at hl 2 rfl) ?_
          refine wd_get (C := RX2) (T := TY2) (n := 17) (ci := ciM) (v := .int (nI (σ.1 0 1))) hx hb hts (by decide +kernel) hown hK hP (0) (by omega) mW_0 rfl 13 (by decide) (hts (.fieldLink RX2 61 "CarThreadsModel" "barrier" "I") (by decide +kernel)) (fun _ h9 => h9) (by first | rfl | simp [cw_nd, cw_ob, mw_ob, ct_sg, ct_sl, tu]) dY2_mayGo_79 ?_
          refine wi_rem hx hb (by omega) (by omega) (by omega) dY2_mayGo_82 ?_
          have hmod9 : σ.1 3 i % σ.1 0 1 < 2 ^ 31 := by have := Nat.mod_le (σ.1 3 i) (σ.1 0 1); omega
          refine wi_if_ne (tgt := 140) hx hb (by omega) dY2_mayGo_83 (by decide) (fun c83 => ?_) (fun c83 => ?_)
          · refine lv_iload_n hx hb dY2_mayGo_140 rfl (lv_at hl 0 rfl) ?_
            have hq : ct_wait σ i = false := by simp [ct_wait, hw] <;> omega
            have hbq : ct_bar σ i = false := by unfold ct_bar; simp; first | (intro q; omega) | (intro q1 q2; omega) | skip
            have hg : ct_go σ i = true := by unfold ct_go; rw [show (σ.1 4 i == 0) = true from by simp; omega, hq, hbq]; rfl
            exact ro_z hQ hx hb hr hlocks rfl (by rw [hg]; rfl) dY2_mayGo_141
          · refine lv_iconst (v := nI 1) hx hb dY2_mayGo_86 (by decide) ?_
            refine lv_istore (lv' := [(4, .int (nI (1))), (3, .int (nI (1))), (2, .int (nI (w))), (0, .ref (ad 0)), (1, .int (nI (i)))]) hx hb dY2_mayGo_87 hl (by decide) rfl (fun ls hl => ?_)
            have e0 : bN ((!(ct_wait σ i)) && ct_all σ (σ.1 3 i) 0) = 1 := by
              have q : ct_wait σ i = false := by simp [ct_wait, hw] <;> omega
              rw [q]; rfl
            have hmod : σ.1 3 i % σ.1 0 1 = 0 := by omega
            have loop89 : ∀ (f u : Nat) (ls : Array Slot), n - u = f → u ≤ n → lv_has ls 5 [(4, .int (nI (u + 1))), (3, .int (nI (bN ((!(ct_wait σ i)) && ct_all σ (σ.1 3 i) u)))), (0, .ref (ad 0)), (1, .int (nI (i)))] → W p l e rm_m_mayGo s m args below meth c s.heap [] 0 0 Q (F0 m 89 ls []) := by
              intro f
              induction f with
              | zero =>
                intro u ls hf hj hl
                refine lv_iload hx hb dY2_mayGo_89 (lv_at hl 0 rfl) ?_
                refine lv_aload_n hx hb dY2_mayGo_91 rfl (lv_at hl 2 rfl) ?_
                refine wd_get (C := RX2) (T := TY2) (n := 17) (ci := ciM) (v := .int (nI (σ.1 0 0))) hx hb hts (by decide +kernel) hown hK hP (0) (by omega) mW_0 rfl 1 (by decide) (hts (.fieldLink RX2 52 "CarThreadsModel" "nodes" "I") (by decide +kernel)) (fun _ h9 => h9) (by first | rfl | simp [cw_nd, cw_ob, mw_ob, ct_sg, ct_sl, tu]) dY2_mayGo_92 ?_
                refine wi_icmp_gt (tgt := 140) hx hb (by omega) (by omega) dY2_mayGo_95 (by decide) (fun c95 => ?_) (fun z => absurd z (by omega))
                refine lv_iload_n hx hb dY2_mayGo_140 rfl (lv_at hl 1 rfl) ?_
                have hg : ct_go σ i = ((!(ct_wait σ i)) && ct_all σ (σ.1 3 i) u) := by
                  rw [show u = n by omega, ← hn]
                  unfold ct_go ct_bar
                  rw [show (σ.1 4 i == 0) = true from by simp; omega, show (σ.1 0 1 == 0) = false from by simp; omega, hmod]
                  simp
                exact ro_z hQ hx hb hr hlocks (wi_nar (bN_le _)) (by rw [hg]) dY2_mayGo_141
              | succ f ih =>
                intro u ls hf hj hl
                have hlt : u < n := by omega
                obtain ⟨_, _, _, _, _, _, _, _, _⟩ := hv.2.1 (u + 1) (by omega) (by omega)
                have hbn := bN_le ((!(ct_wait σ i)) && ct_all σ (σ.1 3 i) u)
                refine lv_iload hx hb dY2_mayGo_89 (lv_at hl 0 rfl) ?_
                refine lv_aload_n hx hb dY2_mayGo_91 rfl (lv_at hl 2 rfl) ?_
                refine wd_get (C := RX2) (T := TY2) (n := 17) (ci := ciM) (v := .int (nI (σ.1 0 0))) hx hb hts (by decide +kernel) hown hK hP (0) (by omega) mW_0 rfl 1 (by decide) (hts (.fieldLink RX2 52 "CarThreadsModel" "nodes" "I") (by decide +kernel)) (fun _ h9 => h9) (by first | rfl | simp [cw_nd, cw_ob, mw_ob, ct_sg, ct_sl, tu]) dY2_mayGo_92 ?_
                refine wi_icmp_gt (tgt := 140) hx hb (by omega) (by omega) dY2_mayGo_95 (by decide) (fun z => absurd z (by omega)) (fun c95 => ?_)
                refine lv_iload_n hx hb dY2_mayGo_98 rfl (lv_at hl 1 rfl) ?_
                refine wi_if_eq (tgt := 132) hx hb (by omega) dY2_mayGo_99 (by decide) (fun c99 => ?_) (fun c99 => ?_)
                · refine lv_iconst (v := nI 0) hx hb dY2_mayGo_132 (by decide) ?_
                  refine lv_istore_n (lv' := [(3, .int (nI (0))), (4, .int (nI (u + 1))), (0, .ref (ad 0)), (1, .int (nI (i)))]) hx hb dY2_mayGo_133 rfl hl (by decide) rfl (fun ls hl => ?_)
                  refine lv_iinc (v := nI (u + 1 + 1)) (lv' := [(4, .int (nI (u + 1 + 1))), (3, .int (nI (0))), (0, .ref (ad 0)), (1, .int (nI (i)))]) hx hb dY2_mayGo_134 hl (k := 1) rfl (wi_inc _) (by decide) rfl (fun ls hl => ?_)
                  refine lv_goto (tgt := 89) hx hb dY2_mayGo_137 (by decide) ?_
                  have e1 : bN ((!(ct_wait σ i)) && ct_all σ (σ.1 3 i) (u + 1)) = 0 := by
                    have q : ct_all σ (σ.1 3 i) (u + 1) = (ct_all σ (σ.1 3 i) u && (!(σ.1 4 (u + 1) == 0) || decide (σ.1 3 i ≤ σ.1 3 (u + 1)))) := rfl
                    rw [q, ← Bool.and_assoc]
                    first | (rw [bN_0 (show bN ((!(ct_wait σ i)) && ct_all σ (σ.1 3 i) u) = 0 by omega)]; rfl) | (rw [bN_1 (show ¬ bN ((!(ct_wait σ i)) && ct_all σ (σ.1 3 i) u) = 0 by omega), show (!(σ.1 4 (u + 1) == 0) || decide (σ.1 3 i ≤ σ.1 3 (u + 1))) = true from by simp; omega]; rfl) | (rw [show (!(σ.1 4 (u + 1) == 0) || decide (σ.1 3 i ≤ σ.1 3 (u + 1))) = false from by simp; omega]; simp [bN])
                  exact ih (u + 1) _ (by omega) (by omega) (by rw [e1]; exact lv_sub hl [0, 1, 2, 3] rfl)
                · refine lv_aload_n hx hb dY2_mayGo_102 rfl (lv_at hl 2 rfl) ?_
                  refine wd_get (C := RX2) (T := TY2) (n := 17) (ci := ciM) (v := .ref (ad 4)) hx hb hts (by decide +kernel) hown hK hP (0) (by omega) mW_0 rfl 5 (by decide) (hts (.fieldLink RX2 19 "CarThreadsModel" "ended" "[Z") (by decide +kernel)) (fun _ h9 => h9) (by first | rfl | simp [cw_nd, cw_ob, mw_ob, ct_sg, ct_sl, tu]) dY2_mayGo_103 ?_
                  refine lv_iload hx hb dY2_mayGo_106 (lv_at hl 0 rfl) ?_
                  refine wd_zald hx hb hK hP (4) 1 (by omega) mW_4 rfl (u + 1) (by omega) (by omega) rfl dY2_mayGo_108 ?_
                  refine wi_if_ne (tgt := 128) hx hb (by omega) dY2_mayGo_109 (by decide) (fun c109 => ?_) (fun c109 => ?_)
                  · refine lv_iconst (v := nI 1) hx hb dY2_mayGo_128 (by decide) ?_
                    refine lv_goto (tgt := 133) hx hb dY2_mayGo_129 (by decide) ?_
                    refine lv_istore_n (lv' := [(3, .int (nI (1))), (4, .int (nI (u + 1))), (0, .ref (ad 0)), (1, .int (nI (i)))]) hx hb dY2_mayGo_133 rfl hl (by decide) rfl (fun ls hl => ?_)
                    refine lv_iinc (v := nI (u + 1 + 1)) (lv' := [(4, .int (nI (u + 1 + 1))), (3, .int (nI (1))), (0, .ref (ad 0)), (1, .int (nI (i)))]) hx hb dY2_mayGo_134 hl (k := 1) rfl (wi_inc _) (by decide) rfl (fun ls hl => ?_)
                    refine lv_goto (tgt := 89) hx hb dY2_mayGo_137 (by decide) ?_
                    have e1 : bN ((!(ct_wait σ i)) && ct_all σ (σ.1 3 i) (u + 1)) = 1 := by
                      have q : ct_all σ (σ.1 3 i) (u + 1) = (ct_all σ (σ.1 3 i) u && (!(σ.1 4 (u + 1) == 0) || decide (σ.1 3 i ≤ σ.1 3 (u + 1)))) := rfl
                      rw [q, ← Bool.and_assoc]
                      first | (rw [bN_0 (show bN ((!(ct_wait σ i)) && ct_all σ (σ.1 3 i) u) = 0 by omega)]; rfl) | (rw [bN_1 (show ¬ bN ((!(ct_wait σ i)) && ct_all σ (σ.1 3 i) u) = 0 by omega), show (!(σ.1 4 (u + 1) == 0) || decide (σ.1 3 i ≤ σ.1 3 (u + 1))) = true from by simp; omega]; rfl) | (rw [show (!(σ.1 4 (u + 1) == 0) || decide (σ.1 3 i ≤ σ.1 3 (u + 1))) = false from by simp; omega]; simp [bN])
                    exact ih (u + 1) _ (by omega) (by omega) (by rw [e1]; exact lv_sub hl [0, 1, 2, 3] rfl)
                  · refine lv_aload_n hx hb dY2_mayGo_112 rfl (lv_at hl 2 rfl) ?_
                    refine wd_get (C := RX2) (T := TY2) (n := 17) (ci := ciM) (v := .ref (ad 3)) hx hb hts (by decide +kernel) hown hK hP (0) (by omega) mW_0 rfl 4 (by decide) (hts (.fieldLink RX2 16 "CarThreadsModel" "done" "[I") (by decide +kernel)) (fun _ h9 => h9) (by first | rfl | simp [cw_nd, cw_ob, mw_ob, ct_sg, ct_sl, tu]) dY2_mayGo_113 ?_
                    refine lv_iload hx hb dY2_mayGo_116 (lv_at hl 0 rfl) ?_
                    refine wd_iald hx hb hK hP (3) 0 (by omega) mW_3 rfl (u + 1) (by omega) (by omega) rfl dY2_mayGo_118 ?_
                    refine lv_aload_n hx hb dY2_mayGo_119 rfl (lv_at hl 2 rfl) ?_
                    refine wd_get (C := RX2) (T := TY2) (n := 17) (ci := ciM) (v := .ref (ad 3)) hx hb hts (by decide +kernel) hown hK hP (0) (by omega) mW_0 rfl 4 (by decide) (hts (.fieldLink RX2 16 "CarThreadsModel" "done" "[I") (by decide +kernel)) (fun _ h9 => h9) (by first | rfl | simp [cw_nd, cw_ob, mw_ob, ct_sg, ct_sl, tu]) dY2_mayGo_120 ?_
                    refine lv_iload_n hx hb dY2_mayGo_123 rfl (lv_at hl 3 rfl) ?_
                    refine wd_iald hx hb hK hP (3) 0 (by omega) mW_3 rfl (i) (by omega) (by omega) rfl dY2_mayGo_124 ?_
                    refine wi_icmp_lt (tgt := 132) hx hb (by omega) (by omega) dY2_mayGo_125 (by decide) (fun c125 => ?_) (fun c125 => ?_)
                    · refine lv_iconst (v := nI 0) hx hb dY2_mayGo_132 (by decide) ?_
                      refine lv_istore_n (lv' := [(3, .int (nI (0))), (4, .int (nI (u + 1))), (0, .ref (ad 0)), (1, .int (nI (i)))]) hx hb dY2_mayGo_133 rfl hl (by decide) rfl (fun ls hl => ?_)
                      refine lv_iinc (v := nI (u + 1 + 1)) (lv' := [(4, .int (nI (u + 1 + 1))), (3, .int (nI (0))), (0, .ref (ad 0)), (1, .int (nI (i)))]) hx hb dY2_mayGo_134 hl (k := 1) rfl (wi_inc _) (by decide) rfl (fun ls hl => ?_)
                      refine lv_goto (tgt := 89) hx hb dY2_mayGo_137 (by decide) ?_
                      have e1 : bN ((!(ct_wait σ i)) && ct_all σ (σ.1 3 i) (u + 1)) = 0 := by
                        have q : ct_all σ (σ.1 3 i) (u + 1) = (ct_all σ (σ.1 3 i) u && (!(σ.1 4 (u + 1) == 0) || decide (σ.1 3 i ≤ σ.1 3 (u + 1)))) := rfl
                        rw [q, ← Bool.and_assoc]
                        first | (rw [bN_0 (show bN ((!(ct_wait σ i)) && ct_all σ (σ.1 3 i) u) = 0 by omega)]; rfl) | (rw [bN_1 (show ¬ bN ((!(ct_wait σ i)) && ct_all σ (σ.1 3 i) u) = 0 by omega), show (!(σ.1 4 (u + 1) == 0) || decide (σ.1 3 i ≤ σ.1 3 (u + 1))) = true from by simp; omega]; rfl) | (rw [show (!(σ.1 4 (u + 1) == 0) || decide (σ.1 3 i ≤ σ.1 3 (u + 1))) = false from by simp; omega]; simp [bN])
                      exact ih (u + 1) _ (by omega) (by omega) (by rw [e1]; exact lv_sub hl [0, 1, 2, 3] rfl)
                    · refine lv_iconst (v := nI 1) hx hb dY2_mayGo_128 (by decide) ?_
                      refine lv_goto (tgt := 133) hx hb dY2_mayGo_129 (by decide) ?_
                      refine lv_istore_n (lv' := [(3, .int (nI (1))), (4, .int (nI (u + 1))), (0, .ref (ad 0)), (1, .int (nI (i)))]) hx hb dY2_mayGo_133 rfl hl (by decide) rfl (fun ls hl => ?_)
                      refine lv_iinc (v := nI (u + 1 + 1)) (lv' := [(4, .int (nI (u + 1 + 1))), (3, .int (nI (1))), (0, .ref (ad 0)), (1, .int (nI (i)))]) hx hb dY2_mayGo_134 hl (k := 1) rfl (wi_inc _) (by decide) rfl (fun ls hl => ?_)
                      refine lv_goto (tgt := 89) hx hb dY2_mayGo_137 (by decide) ?_
                      have e1 : bN ((!(ct_wait σ i)) && ct_all σ (σ.1 3 i) (u + 1)) = 1 := by
                        have q : ct_all σ (σ.1 3 i) (u + 1) = (ct_all σ (σ.1 3 i) u && (!(σ.1 4 (u + 1) == 0) || decide (σ.1 3 i ≤ σ.1 3 (u + 1)))) := rfl
                        rw [q, ← Bool.and_assoc]
                        first | (rw [bN_0 (show bN ((!(ct_wait σ i)) && ct_all σ (σ.1 3 i) u) = 0 by omega)]; rfl) | (rw [bN_1 (show ¬ bN ((!(ct_wait σ i)) && ct_all σ (σ.1 3 i) u) = 0 by omega), show (!(σ.1 4 (u + 1) == 0) || decide (σ.1 3 i ≤ σ.1 3 (u + 1))) = true from by simp; omega]; rfl) | (rw [show (!(σ.1 4 (u + 1) == 0) || decide (σ.1 3 i ≤ σ.1 3 (u + 1))) = false from by simp; omega]; simp [bN])
                      exact ih (u + 1) _ (by omega) (by omega) (by rw [e1]; exact lv_sub hl [0, 1, 2, 3] rfl)
            exact loop89 _ 0 _ rfl (by omega) (by rw [e0]; exact lv_sub hl [0, 1, 3, 4] rfl)
      · refine lv_aload_n hx hb dY2_mayGo_44 rfl (lv_at hl 1 rfl) ?_
        refine wd_get (C := RX2) (T := TY2) (n := 17) (ci := ciM) (v := .ref (ad 3)) hx hb hts (by decide +kernel) hown hK hP (0) (by omega) mW_0 rfl 4 (by decide) (hts (.fieldLink RX2 16 "CarThreadsModel" "done" "[I") (by decide +kernel)) (fun _ h9 => h9) (by first | rfl | simp [cw_nd, cw_ob, mw_ob, ct_sg, ct_sl, tu]) dY2_mayGo_45 ?_
        refine lv_iload_n hx hb dY2_mayGo_48 rfl (lv_at hl 0 rfl) ?_
        refine wd_iald hx hb hK hP (3) 0 (by omega) mW_3 rfl (w) (by omega) (by omega) rfl dY2_mayGo_49 ?_
        refine lv_aload_n hx hb dY2_mayGo_50 rfl (lv_at hl 1 rfl) ?_
        refine wd_get (C := RX2) (T := TY2) (n := 17) (ci := ciM) (v := .ref (ad 3)) hx hb hts (by decide +kernel) hown hK hP (0) (by omega) mW_0 rfl 4 (by decide) (hts (.fieldLink RX2 16 "CarThreadsModel" "done" "[I") (by decide +kernel)) (fun _ h9 => h9) (by first | rfl | simp [cw_nd, cw_ob, mw_ob, ct_sg, ct_sl, tu]) dY2_mayGo_51 ?_
        refine lv_iload_n hx hb dY2_mayGo_54 rfl (lv_at hl 2 rfl) ?_
        refine wd_iald hx hb hK hP (3) 0 (by omega) mW_3 rfl (i) (by omega) (by omega) rfl dY2_mayGo_55 ?_
        refine wi_icmp_le (tgt := 63) hx hb (by omega) (by omega) dY2_mayGo_56 (by decide) (fun c56 => ?_) (fun c56 => ?_)
        · refine lv_iconst (v := nI 0) hx hb dY2_mayGo_63 (by decide) ?_
          refine lv_istore_n (lv' := [(3, .int (nI (0))), (2, .int (nI (w))), (0, .ref (ad 0)), (1, .int (nI (i)))]) hx hb dY2_mayGo_64 rfl hl (by decide) rfl (fun ls hl => ?_)
          refine lv_aload_n hx hb dY2_mayGo_65 rfl (lv_at hl 2 rfl) ?_
          refine wd_get (C := RX2) (T := TY2) (n := 17) (ci := ciM) (v := .int (nI (σ.1 0 1))) hx hb hts (by decide +kernel) hown hK hP (0) (by omega) mW_0 rfl 13 (by decide) (hts (.fieldLink RX2 61 "CarThreadsModel" "barrier" "I") (by decide +kernel)) (fun _ h9 => h9) (by first | rfl | simp [cw_nd, cw_ob, mw_ob, ct_sg, ct_sl, tu]) dY2_mayGo_66 ?_
          refine wi_if_le (tgt := 140) hx hb (by omega) dY2_mayGo_69 (by decide) (fun c69 => ?_) (fun c69 => ?_)
          · refine lv_iload_n hx hb dY2_mayGo_140 rfl (lv_at hl 0 rfl) ?_
            have hq : ct_wait σ i = true := by simp [ct_wait, hw]; omega
            have hbq : ct_bar σ i = false := by unfold ct_bar; simp; first | (intro q; omega) | (intro q1 q2; omega) | skip
            have hg : ct_go σ i = false := by unfold ct_go; rw [show (σ.1 4 i == 0) = true from by simp; omega, hq, hbq]; rfl
            exact ro_z hQ hx hb hr hlocks rfl (by rw [hg]; rfl) dY2_mayGo_141
          · refine lv_aload_n hx hb dY2_mayGo_72 rfl (lv_at hl 2 rfl) ?_
            refine wd_get (C := RX2) (T := TY2) (n := 17) (ci := ciM) (v := .ref (ad 3)) hx hb hts (by decide +kernel) hown hK hP (0) (by omega) mW_0 rfl 4 (by decide) (hts (.fieldLink RX2 16 "CarThreadsModel" "done" "[I") (by decide +kernel)) (fun _ h9 => h9) (by first | rfl | simp [cw_nd, cw_ob, mw_ob, ct_sg, ct_sl, tu]) dY2_mayGo_73 ?_
            refine lv_iload_n hx hb dY2_mayGo_76 rfl (lv_at hl 3 rfl) ?_
            refine wd_iald hx hb hK hP (3) 0 (by omega) mW_3 rfl (i) (by omega) (by omega) rfl dY2_mayGo_77 ?_
            refine lv_aload_n hx hb dY2_mayGo_78 rfl (lv_at hl 2 rfl) ?_
            refine wd_get (C := RX2) (T := TY2) (n := 17) (ci := ciM) (v := .int (nI (σ.1 0 1))) hx hb hts (by decide +kernel) hown hK hP (0) (by omega) mW_0 rfl 13 (by decide) (hts (.fieldLink RX2 61 "CarThreadsModel" "barrier" "I") (by decide +kernel)) (fun _ h9 => h9) (by first | rfl | simp [cw_nd, cw_ob, mw_ob, ct_sg, ct_sl, tu]) dY2_mayGo_79 ?_
            refine wi_rem hx hb (by omega) (by omega) (by omega) dY2_mayGo_82 ?_
            have hmod9 : σ.1 3 i % σ.1 0 1 < 2 ^ 31 := by have := Nat.mod_le (σ.1 3 i) (σ.1 0 1); omega
            refine wi_if_ne (tgt := 140) hx hb (by omega) dY2_mayGo_83 (by decide) (fun c83 => ?_) (fun c83 => ?_)
            · refine lv_iload_n hx hb dY2_mayGo_140 rfl (lv_at hl 0 rfl) ?_
              have hq : ct_wait σ i = true := by simp [ct_wait, hw]; omega
              have hbq : ct_bar σ i = false := by unfold ct_bar; simp; first | (intro q; omega) | (intro q1 q2; omega) | skip
              have hg : ct_go σ i = false := by unfold ct_go; rw [show (σ.1 4 i == 0) = true from by simp; omega, hq, hbq]; rfl
              exact ro_z hQ hx hb hr hlocks rfl (by rw [hg]; rfl) dY2_mayGo_141
            · refine lv_iconst (v := nI 1) hx hb dY2_mayGo_86 (by decide) ?_
              refine lv_istore (lv' := [(4, .int (nI (1))), (3, .int (nI (0))), (2, .int (nI (w))), (0, .ref (ad 0)), (1, .int (nI (i)))]) hx hb dY2_mayGo_87 hl (by decide) rfl (fun ls hl => ?_)
              have e0 : bN ((!(ct_wait σ i)) && ct_all σ (σ.1 3 i) 0) = 0 := by
                have q : ct_wait σ i = true := by simp [ct_wait, hw]; omega
                rw [q]; rfl
              have hmod : σ.1 3 i % σ.1 0 1 = 0 := by omega
              have loop89 : ∀ (f u : Nat) (ls : Array Slot), n - u = f → u ≤ n → lv_has ls 5 [(4, .int (nI (u + 1))), (3, .int (nI (bN ((!(ct_wait σ i)) && ct_all σ (σ.1 3 i) u)))), (0, .ref (ad 0)), (1, .int (nI (i)))] → W p l e rm_m_mayGo s m args below meth c s.heap [] 0 0 Q (F0 m 89 ls []) := by
                intro f
                induction f with
                | zero =>
                  intro u ls hf hj hl
                  refine lv_iload hx hb dY2_mayGo_89 (lv_at hl 0 rfl) ?_
                  refine lv_aload_n hx hb dY2_mayGo_91 rfl (lv_at hl 2 rfl) ?_
                  refine wd_get (C := RX2) (T := TY2) (n := 17) (ci := ciM) (v := .int (nI (σ.1 0 0))) hx hb hts (by decide +kernel) hown hK hP (0) (by omega) mW_0 rfl 1 (by decide) (hts (.fieldLink RX2 52 "CarThreadsModel" "nodes" "I") (by decide +kernel)) (fun _ h9 => h9) (by first | rfl | simp [cw_nd, cw_ob, mw_ob, ct_sg, ct_sl, tu]) dY2_mayGo_92 ?_
                  refine wi_icmp_gt (tgt := 140) hx hb (by omega) (by omega) dY2_mayGo_95 (by decide) (fun c95 => ?_) (fun z => absurd z (by omega))
                  refine lv_iload_n hx hb dY2_mayGo_140 rfl (lv_at hl 1 rfl) ?_
                  have hg : ct_go σ i = ((!(ct_wait σ i)) && ct_all σ (σ.1 3 i) u) := by
                    rw [show u = n by omega, ← hn]
                    unfold ct_go ct_bar
                    rw [show (σ.1 4 i == 0) = true from by simp; omega, show (σ.1 0 1 == 0) = false from by simp; omega, hmod]
                    simp
                  exact ro_z hQ hx hb hr hlocks (wi_nar (bN_le _)) (by rw [hg]) dY2_mayGo_141
                | succ f ih =>
                  intro u ls hf hj hl
                  have hlt : u < n := by omega
                  obtain ⟨_, _, _, _, _, _, _, _, _⟩ := hv.2.1 (u + 1) (by omega) (by omega)
                  have hbn := bN_le ((!(ct_wait σ i)) && ct_all σ (σ.1 3 i) u)
                  refine lv_iload hx hb dY2_mayGo_89 (lv_at hl 0 rfl) ?_
                  refine lv_aload_n hx hb dY2_mayGo_91 rfl (lv_at hl 2 rfl) ?_
                  refine wd_get (C := RX2) (T := TY2) (n := 17) (ci := ciM) (v := .int (nI (σ.1 0 0))) hx hb hts (by decide +kernel) hown hK hP (0) (by omega) mW_0 rfl 1 (by decide) (hts (.fieldLink RX2 52 "CarThreadsModel" "nodes" "I") (by decide +kernel)) (fun _ h9 => h9) (by first | rfl | simp [cw_nd, cw_ob, mw_ob, ct_sg, ct_sl, tu]) dY2_mayGo_92 ?_
                  refine wi_icmp_gt (tgt := 140) hx hb (by omega) (by omega) dY2_mayGo_95 (by decide) (fun z => absurd z (by omega)) (fun c95 => ?_)
                  refine lv_iload_n hx hb dY2_mayGo_98 rfl (lv_at hl 1 rfl) ?_
                  refine wi_if_eq (tgt := 132) hx hb (by omega) dY2_mayGo_99 (by decide) (fun c99 => ?_) (fun c99 => ?_)
                  · refine lv_iconst (v := nI 0) hx hb dY2_mayGo_132 (by decide) ?_
                    refine lv_istore_n (lv' := [(3, .int (nI (0))), (4, .int (nI (u + 1))), (0, .ref (ad 0)), (1, .int (nI (i)))]) hx hb dY2_mayGo_133 rfl hl (by decide) rfl (fun ls hl => ?_)
                    refine lv_iinc (v := nI (u + 1 + 1)) (lv' := [(4, .int (nI (u + 1 + 1))), (3, .int (nI (0))), (0, .ref (ad 0)), (1, .int (nI (i)))]) hx hb dY2_mayGo_134 hl (k := 1) rfl (wi_inc _) (by decide) rfl (fun ls hl => ?_)
                    refine lv_goto (tgt := 89) hx hb dY2_mayGo_137 (by decide) ?_
                    have e1 : bN ((!(ct_wait σ i)) && ct_all σ (σ.1 3 i) (u + 1)) = 0 := by
                      have q : ct_all σ (σ.1 3 i) (u + 1) = (ct_all σ (σ.1 3 i) u && (!(σ.1 4 (u + 1) == 0) || decide (σ.1 3 i ≤ σ.1 3 (u + 1)))) := rfl
                      rw [q, ← Bool.and_assoc]
                      first | (rw [bN_0 (show bN ((!(ct_wait σ i)) && ct_all σ (σ.1 3 i) u) = 0 by omega)]; rfl) | (rw [bN_1 (show ¬ bN ((!(ct_wait σ i)) && ct_all σ (σ.1 3 i) u) = 0 by omega), show (!(σ.1 4 (u + 1) == 0) || decide (σ.1 3 i ≤ σ.1 3 (u + 1))) = true from by simp; omega]; rfl) | (rw [show (!(σ.1 4 (u + 1) == 0) || decide (σ.1 3 i ≤ σ.1 3 (u + 1))) = false from by simp; omega]; simp [bN])
                    exact ih (u + 1) _ (by omega) (by omega) (by rw [e1]; exact lv_sub hl [0, 1, 2, 3] rfl)
                  · refine lv_aload_n hx hb dY2_mayGo_102 rfl (lv_at hl 2 rfl) ?_
                    refine wd_get (C := RX2) (T := TY2) (n := 17) (ci := ciM) (v := .ref (ad 4)) hx hb hts (by decide +kernel) hown hK hP (0) (by omega) mW_0 rfl 5 (by decide) (hts (.fieldLink RX2 19 "CarThreadsModel" "ended" "[Z") (by decide +kernel)) (fun _ h9 => h9) (by first | rfl | simp [cw_nd, cw_ob, mw_ob, ct_sg, ct_sl, tu]) dY2_mayGo_103 ?_
                    refine lv_iload hx hb dY2_mayGo_106 (lv_at hl 0 rfl) ?_
                    refine wd_zald hx hb hK hP (4) 1 (by omega) mW_4 rfl (u + 1) (by omega) (by omega) rfl dY2_mayGo_108 ?_
                    refine wi_if_ne (tgt := 128) hx hb (by omega) dY2_mayGo_109 (by decide) (fun c109 => ?_) (fun c109 => ?_)
                    · refine lv_iconst (v := nI 1) hx hb dY2_mayGo_128 (by decide) ?_
                      refine lv_goto (tgt := 133) hx hb dY2_mayGo_129 (by decide) ?_
                      refine lv_istore_n (lv' := [(3, .int (nI (1))), (4, .int (nI (u + 1))), (0, .ref (ad 0)), (1, .int (nI (i)))]) hx hb dY2_mayGo_133 rfl hl (by decide) rfl (fun ls hl => ?_)
                      refine lv_iinc (v := nI (u + 1 + 1)) (lv' := [(4, .int (nI (u + 1 + 1))), (3, .int (nI (1))), (0, .ref (ad 0)), (1, .int (nI (i)))]) hx hb dY2_mayGo_134 hl (k := 1) rfl (wi_inc _) (by decide) rfl (fun ls hl => ?_)
                      refine lv_goto (tgt := 89) hx hb dY2_mayGo_137 (by decide) ?_
                      have e1 : bN ((!(ct_wait σ i)) && ct_all σ (σ.1 3 i) (u + 1)) = 1 := by
                        have q : ct_all σ (σ.1 3 i) (u + 1) = (ct_all σ (σ.1 3 i) u && (!(σ.1 4 (u + 1) == 0) || decide (σ.1 3 i ≤ σ.1 3 (u + 1)))) := rfl
                        rw [q, ← Bool.and_assoc]
                        first | (rw [bN_0 (show bN ((!(ct_wait σ i)) && ct_all σ (σ.1 3 i) u) = 0 by omega)]; rfl) | (rw [bN_1 (show ¬ bN ((!(ct_wait σ i)) && ct_all σ (σ.1 3 i) u) = 0 by omega), show (!(σ.1 4 (u + 1) == 0) || decide (σ.1 3 i ≤ σ.1 3 (u + 1))) = true from by simp; omega]; rfl) | (rw [show (!(σ.1 4 (u + 1) == 0) || decide (σ.1 3 i ≤ σ.1 3 (u + 1))) = false from by simp; omega]; simp [bN])
                      exact ih (u + 1) _ (by omega) (by omega) (by rw [e1]; exact lv_sub hl [0, 1, 2, 3] rfl)
                    · refine lv_aload_n hx hb dY2_mayGo_112 rfl (lv_at hl 2 rfl) ?_
                      refine wd_get (C := RX2) (T := TY2) (n := 17) (ci := ciM) (v := .ref (ad 3)) hx hb hts (by decide +kernel) hown hK hP (0) (by omega) mW_0 rfl 4 (by decide) (hts (.fieldLink RX2 16 "CarThreadsModel" "done" "[I") (by decide +kernel)) (fun _ h9 => h9) (by first | rfl | simp [cw_nd, cw_ob, mw_ob, ct_sg, ct_sl, tu]) dY2_mayGo_113 ?_
                      refine lv_iload hx hb dY2_mayGo_116 (lv_at hl 0 rfl) ?_
                      refine wd_iald hx hb hK hP (3) 0 (by omega) mW_3 rfl (u + 1) (by omega) (by omega) rfl dY2_mayGo_118 ?_
                      refine lv_aload_n hx hb dY2_mayGo_119 rfl (lv_at hl 2 rfl) ?_
                      refine wd_get (C := RX2) (T := TY2) (n := 17) (ci := ciM) (v := .ref (ad 3)) hx hb hts (by decide +kernel) hown hK hP (0) (by omega) mW_0 rfl 4 (by decide) (hts (.fieldLink RX2 16 "CarThreadsModel" "done" "[I") (by decide +kernel)) (fun _ h9 => h9) (by first | rfl | simp [cw_nd, cw_ob, mw_ob, ct_sg, ct_sl, tu]) dY2_mayGo_120 ?_
                      refine lv_iload_n hx hb dY2_mayGo_123 rfl (lv_at hl 3 rfl) ?_
                      refine wd_iald hx hb hK hP (3) 0 (by omega) mW_3 rfl (i) (by omega) (by omega) rfl dY2_mayGo_124 ?_
                      refine wi_icmp_lt (tgt := 132) hx hb (by omega) (by omega) dY2_mayGo_125 (by decide) (fun c125 => ?_) (fun c125 => ?_)
                      · refine lv_iconst (v := nI 0) hx hb dY2_mayGo_132 (by decide) ?_
                        refine lv_istore_n (lv' := [(3, .int (nI (0))), (4, .int (nI (u + 1))), (0, .ref (ad 0)), (1, .int (nI (i)))]) hx hb dY2_mayGo_133 rfl hl (by decide) rfl (fun ls hl => ?_)
                        refine lv_iinc (v := nI (u + 1 + 1)) (lv' := [(4, .int (nI (u + 1 + 1))), (3, .int (nI (0))), (0, .ref (ad 0)), (1, .int (nI (i)))]) hx hb dY2_mayGo_134 hl (k := 1) rfl (wi_inc _) (by decide) rfl (fun ls hl => ?_)
                        refine lv_goto (tgt := 89) hx hb dY2_mayGo_137 (by decide) ?_
                        have e1 : bN ((!(ct_wait σ i)) && ct_all σ (σ.1 3 i) (u + 1)) = 0 := by
                          have q : ct_all σ (σ.1 3 i) (u + 1) = (ct_all σ (σ.1 3 i) u && (!(σ.1 4 (u + 1) == 0) || decide (σ.1 3 i ≤ σ.1 3 (u + 1)))) := rfl
                          rw [q, ← Bool.and_assoc]
                          first | (rw [bN_0 (show bN ((!(ct_wait σ i)) && ct_all σ (σ.1 3 i) u) = 0 by omega)]; rfl) | (rw [bN_1 (show ¬ bN ((!(ct_wait σ i)) && ct_all σ (σ.1 3 i) u) = 0 by omega), show (!(σ.1 4 (u + 1) == 0) || decide (σ.1 3 i ≤ σ.1 3 (u + 1))) = true from by simp; omega]; rfl) | (rw [show (!(σ.1 4 (u + 1) == 0) || decide (σ.1 3 i ≤ σ.1 3 (u + 1))) = false from by simp; omega]; simp [bN])
                        exact ih (u + 1) _ (by omega) (by omega) (by rw [e1]; exact lv_sub hl [0, 1, 2, 3] rfl)
                      · refine lv_iconst (v := nI 1) hx hb dY2_mayGo_128 (by decide) ?_
                        refine lv_goto (tgt := 133) hx hb dY2_mayGo_129 (by decide) ?_
                        refine lv_istore_n (lv' := [(3, .int (nI (1))), (4, .int (nI (u + 1))), (0, .ref (ad 0)), (1, .int (nI (i)))]) hx hb dY2_mayGo_133 rfl hl (by decide) rfl (fun ls hl => ?_)
                        refine lv_iinc (v := nI (u + 1 + 1)) (lv' := [(4, .int (nI (u + 1 + 1))), (3, .int (nI (1))), (0, .ref (ad 0)), (1, .int (nI (i)))]) hx hb dY2_mayGo_134 hl (k := 1) rfl (wi_inc _) (by decide) rfl (fun ls hl => ?_)
                        refine lv_goto (tgt := 89) hx hb dY2_mayGo_137 (by decide) ?_
                        have e1 : bN ((!(ct_wait σ i)) && ct_all σ (σ.1 3 i) (u + 1)) = 1 := by
                          have q : ct_all σ (σ.1 3 i) (u + 1) = (ct_all σ (σ.1 3 i) u && (!(σ.1 4 (u + 1) == 0) || decide (σ.1 3 i ≤ σ.1 3 (u + 1)))) := rfl
                          rw [q, ← Bool.and_assoc]
                          first | (rw [bN_0 (show bN ((!(ct_wait σ i)) && ct_all σ (σ.1 3 i) u) = 0 by omega)]; rfl) | (rw [bN_1 (show ¬ bN ((!(ct_wait σ i)) && ct_all σ (σ.1 3 i) u) = 0 by omega), show (!(σ.1 4 (u + 1) == 0) || decide (σ.1 3 i ≤ σ.1 3 (u + 1))) = true from by simp; omega]; rfl) | (rw [show (!(σ.1 4 (u + 1) == 0) || decide (σ.1 3 i ≤ σ.1 3 (u + 1))) = false from by simp; omega]; simp [bN])
                        exact ih (u + 1) _ (by omega) (by omega) (by rw [e1]; exact lv_sub hl [0, 1, 2, 3] rfl)
              exact loop89 _ 0 _ rfl (by omega) (by rw [e0]; exact lv_sub hl [0, 1, 3, 4] rfl)
        · refine lv_iconst (v := nI 1) hx hb dY2_mayGo_59 (by decide) ?_
          refine lv_goto (tgt := 64) hx hb dY2_mayGo_60 (by decide) ?_
          refine lv_istore_n (lv' := [(3, .int (nI (1))), (2, .int (nI (w))), (0, .ref (ad 0)), (1, .int (nI (i)))]) hx hb dY2_mayGo_64 rfl hl (by decide) rfl (fun ls hl => ?_)
          refine lv_aload_n hx hb dY2_mayGo_65 rfl (lv_at hl 2 rfl) ?_
          refine wd_get (C := RX2) (T := TY2) (n := 17) (ci := ciM) (v := .int (nI (σ.1 0 1))) hx hb hts (by decide +kernel) hown hK hP (0) (by omega) mW_0 rfl 13 (by decide) (hts (.fieldLink RX2 61 "CarThreadsModel" "barrier" "I") (by decide +kernel)) (fun _ h9 => h9) (by first | rfl | simp [cw_nd, cw_ob, mw_ob, ct_sg, ct_sl, tu]) dY2_mayGo_66 ?_
          refine wi_if_le (tgt := 140) hx hb (by omega) dY2_mayGo_69 (by decide) (fun c69 => ?_) (fun c69 => ?_)
          · refine lv_iload_n hx hb dY2_mayGo_140 rfl (lv_at hl 0 rfl) ?_
            have hq : ct_wait σ i = false := by simp [ct_wait, hw] <;> omega
            have hbq : ct_bar σ i = false := by unfold ct_bar; simp; first | (intro q; omega) | (intro q1 q2; omega) | skip
            have hg : ct_go σ i = true := by unfold ct_go; rw [show (σ.1 4 i == 0) = true from by simp; omega, hq, hbq]; rfl
            exact ro_z hQ hx hb hr hlocks rfl (by rw [hg]; rfl) dY2_mayGo_141
          · refine lv_aload_n hx hb dY2_mayGo_72 rfl (lv_at hl 2 rfl) ?_
            refine wd_get (C := RX2) (T := TY2) (n := 17) (ci := ciM) (v := .ref (ad 3)) hx hb hts (by decide +kernel) hown hK hP (0) (by omega) mW_0 rfl 4 (by decide) (hts (.fieldLink RX2 16 "CarThreadsModel" "done" "[I") (by decide +kernel)) (fun _ h9 => h9) (by first | rfl | simp [cw_nd, cw_ob, mw_ob, ct_sg, ct_sl, tu]) dY2_mayGo_73 ?_
            refine lv_iload_n hx hb dY2_mayGo_76 rfl (lv_at hl 3 rfl) ?_
            refine wd_iald hx hb hK hP (3) 0 (by omega) mW_3 rfl (i) (by omega) (by omega) rfl dY2_mayGo_77 ?_
            refine lv_aload_n hx hb dY2_mayGo_78 rfl (lv_at hl 2 rfl) ?_
            refine wd_get (C := RX2) (T := TY2) (n := 17) (ci := ciM) (v := .int (nI (σ.1 0 1))) hx hb hts (by decide +kernel) hown hK hP (0) (by omega) mW_0 rfl 13 (by decide) (hts (.fieldLink RX2 61 "CarThreadsModel" "barrier" "I") (by decide +kernel)) (fun _ h9 => h9) (by first | rfl | simp [cw_nd, cw_ob, mw_ob, ct_sg, ct_sl, tu]) dY2_mayGo_79 ?_
            refine wi_rem hx hb (by omega) (by omega) (by omega) dY2_mayGo_82 ?_
            have hmod9 : σ.1 3 i % σ.1 0 1 < 2 ^ 31 := by have := Nat.mod_le (σ.1 3 i) (σ.1 0 1); omega
            refine wi_if_ne (tgt := 140) hx hb (by omega) dY2_mayGo_83 (by decide) (fun c83 => ?_) (fun c83 => ?_)
            · refine lv_iload_n hx hb dY2_mayGo_140 rfl (lv_at hl 0 rfl) ?_
              have hq : ct_wait σ i = false := by simp [ct_wait, hw] <;> omega
              have hbq : ct_bar σ i = false := by unfold ct_bar; simp; first | (intro q; omega) | (intro q1 q2; omega) | skip
              have hg : ct_go σ i = true := by unfold ct_go; rw [show (σ.1 4 i == 0) = true from by simp; omega, hq, hbq]; rfl
              exact ro_z hQ hx hb hr hlocks rfl (by rw [hg]; rfl) dY2_mayGo_141
            · refine lv_iconst (v := nI 1) hx hb dY2_mayGo_86 (by decide) ?_
              refine lv_istore (lv' := [(4, .int (nI (1))), (3, .int (nI (1))), (2, .int (nI (w))), (0, .ref (ad 0)), (1, .int (nI (i)))]) hx hb dY2_mayGo_87 hl (by decide) rfl (fun ls hl => ?_)
              have e0 : bN ((!(ct_wait σ i)) && ct_all σ (σ.1 3 i) 0) = 1 := by
                have q : ct_wait σ i = false := by simp [ct_wait, hw] <;> omega
                rw [q]; rfl
              have hmod : σ.1 3 i % σ.1 0 1 = 0 := by omega
              have loop89 : ∀ (f u : Nat) (ls : Array Slot), n - u = f → u ≤ n → lv_has ls 5 [(4, .int (nI (u + 1))), (3, .int (nI (bN ((!(ct_wait σ i)) && ct_all σ (σ.1 3 i) u)))), (0, .ref (ad 0)), (1, .int (nI (i)))] → W p l e rm_m_mayGo s m args below meth c s.heap [] 0 0 Q (F0 m 89 ls []) := by
                intro f
                induction f with
                | zero =>
                  intro u ls hf hj hl
                  refine lv_iload hx hb dY2_mayGo_89 (lv_at hl 0 rfl) ?_
                  refine lv_aload_n hx hb dY2_mayGo_91 rfl (lv_at hl 2 rfl) ?_
                  refine wd_get (C := RX2) (T := TY2) (n := 17) (ci := ciM) (v := .int (nI (σ.1 0 0))) hx hb hts (by decide +kernel) hown hK hP (0) (by omega) mW_0 rfl 1 (by decide) (hts (.fieldLink RX2 52 "CarThreadsModel" "nodes" "I") (by decide +kernel)) (fun _ h9 => h9) (by first | rfl | simp [cw_nd, cw_ob, mw_ob, ct_sg, ct_sl, tu]) dY2_mayGo_92 ?_
                  refine wi_icmp_gt (tgt := 140) hx hb (by omega) (by omega) dY2_mayGo_95 (by decide) (fun c95 => ?_) (fun z => absurd z (by omega))
                  refine lv_iload_n hx hb dY2_mayGo_140 rfl (lv_at hl 1 rfl) ?_
                  have hg : ct_go σ i = ((!(ct_wait σ i)) && ct_all σ (σ.1 3 i) u) := by
                    rw [show u = n by omega, ← hn]
                    unfold ct_go ct_bar
                    rw [show (σ.1 4 i == 0) = true from by simp; omega, show (σ.1 0 1 == 0) = false from by simp; omega, hmod]
                    simp
                  exact ro_z hQ hx hb hr hlocks (wi_nar (bN_le _)) (by rw [hg]) dY2_mayGo_141
                | succ f ih =>
                  intro u ls hf hj hl
                  have hlt : u < n := by omega
                  obtain ⟨_, _, _, _, _, _, _, _, _⟩ := hv.2.1 (u + 1) (by omega) (by omega)
                  have hbn := bN_le ((!(ct_wait σ i)) && ct_all σ (σ.1 3 i) u)
                  refine lv_iload hx hb dY2_mayGo_89 (lv_at hl 0 rfl) ?_
                  refine lv_aload_n hx hb dY2_mayGo_91 rfl (lv_at hl 2 rfl) ?_
                  refine wd_get (C := RX2) (T := TY2) (n := 17) (ci := ciM) (v := .int (nI (σ.1 0 0))) hx hb hts (by decide +kernel) hown hK hP (0) (by omega) mW_0 rfl 1 (by decide) (hts (.fieldLink RX2 52 "CarThreadsModel" "nodes" "I") (by decide +kernel)) (fun _ h9 => h9) (by first | rfl | simp [cw_nd, cw_ob, mw_ob, ct_sg, ct_sl, tu]) dY2_mayGo_92 ?_
                  refine wi_icmp_gt (tgt := 140) hx hb (by omega) (by omega) dY2_mayGo_95 (by decide) (fun z => absurd z (by omega)) (fun c95 => ?_)
                  refine lv_iload_n hx hb dY2_mayGo_98 rfl (lv_at hl 1 rfl) ?_
                  refine wi_if_eq (tgt := 132) hx hb (by omega) dY2_mayGo_99 (by decide) (fun c99 => ?_) (fun c99 => ?_)
                  · refine lv_iconst (v := nI 0) hx hb dY2_mayGo_132 (by decide) ?_
                    refine lv_istore_n (lv' := [(3, .int (nI (0))), (4, .int (nI (u + 1))), (0, .ref (ad 0)), (1, .int (nI (i)))]) hx hb dY2_mayGo_133 rfl hl (by decide) rfl (fun ls hl => ?_)
                    refine lv_iinc (v := nI (u + 1 + 1)) (lv' := [(4, .int (nI (u + 1 + 1))), (3, .int (nI (0))), (0, .ref (ad 0)), (1, .int (nI (i)))]) hx hb dY2_mayGo_134 hl (k := 1) rfl (wi_inc _) (by decide) rfl (fun ls hl => ?_)
                    refine lv_goto (tgt := 89) hx hb dY2_mayGo_137 (by decide) ?_
                    have e1 : bN ((!(ct_wait σ i)) && ct_all σ (σ.1 3 i) (u + 1)) = 0 := by
                      have q : ct_all σ (σ.1 3 i) (u + 1) = (ct_all σ (σ.1 3 i) u && (!(σ.1 4 (u + 1) == 0) || decide (σ.1 3 i ≤ σ.1 3 (u + 1)))) := rfl
                      rw [q, ← Bool.and_assoc]
                      first | (rw [bN_0 (show bN ((!(ct_wait σ i)) && ct_all σ (σ.1 3 i) u) = 0 by omega)]; rfl) | (rw [bN_1 (show ¬ bN ((!(ct_wait σ i)) && ct_all σ (σ.1 3 i) u) = 0 by omega), show (!(σ.1 4 (u + 1) == 0) || decide (σ.1 3 i ≤ σ.1 3 (u + 1))) = true from by simp; omega]; rfl) | (rw [show (!(σ.1 4 (u + 1) == 0) || decide (σ.1 3 i ≤ σ.1 3 (u + 1))) = false from by simp; omega]; simp [bN])
                    exact ih (u + 1) _ (by omega) (by omega) (by rw [e1]; exact lv_sub hl [0, 1, 2, 3] rfl)
                  · refine lv_aload_n hx hb dY2_mayGo_102 rfl (lv_at hl 2 rfl) ?_
                    refine wd_get (C := RX2) (T := TY2) (n := 17) (ci := ciM) (v := .ref (ad 4)) hx hb hts (by decide +kernel) hown hK hP (0) (by omega) mW_0 rfl 5 (by decide) (hts (.fieldLink RX2 19 "CarThreadsModel" "ended" "[Z") (by decide +kernel)) (fun _ h9 => h9) (by first | rfl | simp [cw_nd, cw_ob, mw_ob, ct_sg, ct_sl, tu]) dY2_mayGo_103 ?_
                    refine lv_iload hx hb dY2_mayGo_106 (lv_at hl 0 rfl) ?_
                    refine wd_zald hx hb hK hP (4) 1 (by omega) mW_4 rfl (u + 1) (by omega) (by omega) rfl dY2_mayGo_108 ?_
                    refine wi_if_ne (tgt := 128) hx hb (by omega) dY2_mayGo_109 (by decide) (fun c109 => ?_) (fun c109 => ?_)
                    · refine lv_iconst (v := nI 1) hx hb dY2_mayGo_128 (by decide) ?_
                      refine lv_goto (tgt := 133) hx hb dY2_mayGo_129 (by decide) ?_
                      refine lv_istore_n (lv' := [(3, .int (nI (1))), (4, .int (nI (u + 1))), (0, .ref (ad 0)), (1, .int (nI (i)))]) hx hb dY2_mayGo_133 rfl hl (by decide) rfl (fun ls hl => ?_)
                      refine lv_iinc (v := nI (u + 1 + 1)) (lv' := [(4, .int (nI (u + 1 + 1))), (3, .int (nI (1))), (0, .ref (ad 0)), (1, .int (nI (i)))]) hx hb dY2_mayGo_134 hl (k := 1) rfl (wi_inc _) (by decide) rfl (fun ls hl => ?_)
                      refine lv_goto (tgt := 89) hx hb dY2_mayGo_137 (by decide) ?_
                      have e1 : bN ((!(ct_wait σ i)) && ct_all σ (σ.1 3 i) (u + 1)) = 1 := by
                        have q : ct_all σ (σ.1 3 i) (u + 1) = (ct_all σ (σ.1 3 i) u && (!(σ.1 4 (u + 1) == 0) || decide (σ.1 3 i ≤ σ.1 3 (u + 1)))) := rfl
                        rw [q, ← Bool.and_assoc]
                        first | (rw [bN_0 (show bN ((!(ct_wait σ i)) && ct_all σ (σ.1 3 i) u) = 0 by omega)]; rfl) | (rw [bN_1 (show ¬ bN ((!(ct_wait σ i)) && ct_all σ (σ.1 3 i) u) = 0 by omega), show (!(σ.1 4 (u + 1) == 0) || decide (σ.1 3 i ≤ σ.1 3 (u + 1))) = true from by simp; omega]; rfl) | (rw [show (!(σ.1 4 (u + 1) == 0) || decide (σ.1 3 i ≤ σ.1 3 (u + 1))) = false from by simp; omega]; simp [bN])
                      exact ih (u + 1) _ (by omega) (by omega) (by rw [e1]; exact lv_sub hl [0, 1, 2, 3] rfl)
                    · refine lv_aload_n hx hb dY2_mayGo_112 rfl (lv_at hl 2 rfl) ?_
                      refine wd_get (C := RX2) (T := TY2) (n := 17) (ci := ciM) (v := .ref (ad 3)) hx hb hts (by decide +kernel) hown hK hP (0) (by omega) mW_0 rfl 4 (by decide) (hts (.fieldLink RX2 16 "CarThreadsModel" "done" "[I") (by decide +kernel)) (fun _ h9 => h9) (by first | rfl | simp [cw_nd, cw_ob, mw_ob, ct_sg, ct_sl, tu]) dY2_mayGo_113 ?_
                      refine lv_iload hx hb dY2_mayGo_116 (lv_at hl 0 rfl) ?_
                      refine wd_iald hx hb hK hP (3) 0 (by omega) mW_3 rfl (u + 1) (by omega) (by omega) rfl dY2_mayGo_118 ?_
                      refine lv_aload_n hx hb dY2_mayGo_119 rfl (lv_at hl 2 rfl) ?_
                      refine wd_get (C := RX2) (T := TY2) (n := 17) (ci := ciM) (v := .ref (ad 3)) hx hb hts (by decide +kernel) hown hK hP (0) (by omega) mW_0 rfl 4 (by decide) (hts (.fieldLink RX2 16 "CarThreadsModel" "done" "[I") (by decide +kernel)) (fun _ h9 => h9) (by first | rfl | simp [cw_nd, cw_ob, mw_ob, ct_sg, ct_sl, tu]) dY2_mayGo_120 ?_
                      refine lv_iload_n hx hb dY2_mayGo_123 rfl (lv_at hl 3 rfl) ?_
                      refine wd_iald hx hb hK hP (3) 0 (by omega) mW_3 rfl (i) (by omega) (by omega) rfl dY2_mayGo_124 ?_
                      refine wi_icmp_lt (tgt := 132) hx hb (by omega) (by omega) dY2_mayGo_125 (by decide) (fun c125 => ?_) (fun c125 => ?_)
                      · refine lv_iconst (v := nI 0) hx hb dY2_mayGo_132 (by decide) ?_
                        refine lv_istore_n (lv' := [(3, .int (nI (0))), (4, .int (nI (u + 1))), (0, .ref (ad 0)), (1, .int (nI (i)))]) hx hb dY2_mayGo_133 rfl hl (by decide) rfl (fun ls hl => ?_)
                        refine lv_iinc (v := nI (u + 1 + 1)) (lv' := [(4, .int (nI (u + 1 + 1))), (3, .int (nI (0))), (0, .ref (ad 0)), (1, .int (nI (i)))]) hx hb dY2_mayGo_134 hl (k := 1) rfl (wi_inc _) (by decide) rfl (fun ls hl => ?_)
                        refine lv_goto (tgt := 89) hx hb dY2_mayGo_137 (by decide) ?_
                        have e1 : bN ((!(ct_wait σ i)) && ct_all σ (σ.1 3 i) (u + 1)) = 0 := by
                          have q : ct_all σ (σ.1 3 i) (u + 1) = (ct_all σ (σ.1 3 i) u && (!(σ.1 4 (u + 1) == 0) || decide (σ.1 3 i ≤ σ.1 3 (u + 1)))) := rfl
                          rw [q, ← Bool.and_assoc]
                          first | (rw [bN_0 (show bN ((!(ct_wait σ i)) && ct_all σ (σ.1 3 i) u) = 0 by omega)]; rfl) | (rw [bN_1 (show ¬ bN ((!(ct_wait σ i)) && ct_all σ (σ.1 3 i) u) = 0 by omega), show (!(σ.1 4 (u + 1) == 0) || decide (σ.1 3 i ≤ σ.1 3 (u + 1))) = true from by simp; omega]; rfl) | (rw [show (!(σ.1 4 (u + 1) == 0) || decide (σ.1 3 i ≤ σ.1 3 (u + 1))) = false from by simp; omega]; simp [bN])
                        exact ih (u + 1) _ (by omega) (by omega) (by rw [e1]; exact lv_sub hl [0, 1, 2, 3] rfl)
                      · refine lv_iconst (v := nI 1) hx hb dY2_mayGo_128 (by decide) ?_
                        refine lv_goto (tgt := 133) hx hb dY2_mayGo_129 (by decide) ?_
                        refine lv_istore_n (lv' := [(3, .int (nI (1))), (4, .int (nI (u + 1))), (0, .ref (ad 0)), (1, .int (nI (i)))]) hx hb dY2_mayGo_133 rfl hl (by decide) rfl (fun ls hl => ?_)
                        refine lv_iinc (v := nI (u + 1 + 1)) (lv' := [(4, .int (nI (u + 1 + 1))), (3, .int (nI (1))), (0, .ref (ad 0)), (1, .int (nI (i)))]) hx hb dY2_mayGo_134 hl (k := 1) rfl (wi_inc _) (by decide) rfl (fun ls hl => ?_)
                        refine lv_goto (tgt := 89) hx hb dY2_mayGo_137 (by decide) ?_
                        have e1 : bN ((!(ct_wait σ i)) && ct_all σ (σ.1 3 i) (u + 1)) = 1 := by
                          have q : ct_all σ (σ.1 3 i) (u + 1) = (ct_all σ (σ.1 3 i) u && (!(σ.1 4 (u + 1) == 0) || decide (σ.1 3 i ≤ σ.1 3 (u + 1)))) := rfl
                          rw [q, ← Bool.and_assoc]
                          first | (rw [bN_0 (show bN ((!(ct_wait σ i)) && ct_all σ (σ.1 3 i) u) = 0 by omega)]; rfl) | (rw [bN_1 (show ¬ bN ((!(ct_wait σ i)) && ct_all σ (σ.1 3 i) u) = 0 by omega), show (!(σ.1 4 (u + 1) == 0) || decide (σ.1 3 i ≤ σ.1 3 (u + 1))) = true from by simp; omega]; rfl) | (rw [show (!(σ.1 4 (u + 1) == 0) || decide (σ.1 3 i ≤ σ.1 3 (u + 1))) = false from by simp; omega]; simp [bN])
                        exact ih (u + 1) _ (by omega) (by omega) (by rw [e1]; exact lv_sub hl [0, 1, 2, 3] rfl)
              exact loop89 _ 0 _ rfl (by omega) (by rw [e0]; exact lv_sub hl [0, 1, 3, 4] rfl)
  · refine lv_iconst (v := nI 0) hx hb dY2_mayGo_9 (by decide) ?_
    have hg : ct_go σ i = false := by unfold ct_go; rw [show (σ.1 4 i == 0) = false from by simp; omega]; rfl
    exact ro_z hQ hx hb hr hlocks rfl (by rw [hg]; rfl) dY2_mayGo_10
end P51
