section P40
abbrev rm_c_hytd : Room := { frames := 0, cells := 0, slots := 0, locals := 0 }
set_option maxHeartbeats 4000000 in
set_option maxRecDepth 100000 in
theorem c_hytd (l : Launch) {D : va_G} {cN cI : ClassId} {ad : Nat → Nat} {σ : St} {τ : Nat → Nat → Nat} {tr : Nat → Int32} {n : Nat} (hI : adI ad (5 + 2 * n)) (hv : ct_Inv σ) (hn : σ.1 0 0 = n) {i : Nat} (h1 : 1 ≤ i) (h2 : i ≤ n) (x : Int32) : Met l yX0_hasYetToDo wsX0_hasYetToDo rm_c_hytd (va_Pc [.ref (ad (3 + 2 * i)), .int (x)] (pC D wCl (tyC cN cI) ad (cW cN cI ad σ τ tr) (5 + 2 * n))) (vp_Si (fun r => r = if x ≤ nI (σ.1 3 i) ∨ nI (σ.1 1 i) < x then nI 0 else nI 1)) 0 0 (fun _ => False) := by
  refine Met.go (cc := cX0_hasYetToDo) (maxL := 2) (ret := (some .boolean)) (by decide) rfl (Nat.le_of_ble_eq_true rfl) ?_
  intro p e s m below meth c ls args Q ⟨hx, hb, hml, hown, hts⟩ hr hlocks hnm ⟨hP, hK⟩ hl hQ
  have hl : lv_has ls 2 [(0, .ref (ad (3 + 2 * i))), (1, .int (x))] := hl
  have hn30 : n ≤ 30 := by have := hv.1.1; omega
  refine lv_iload_n hx hb dX0_hasYetToDo_0 rfl (lv_at hl 1 rfl) ?_
  refine lv_aload_n hx hb dX0_hasYetToDo_1 rfl (lv_at hl 0 rfl) ?_
  refine wd_get (C := RX0) (T := TX0) (n := 12) (ci := ciN) (v := .int (nI (σ.1 3 i))) hx hb hts (by decide +kernel) hown hK hP (3 + 2 * i) (by omega) (cW_nd (by omega)) rfl 4 (by decide) (hts (.fieldLink RX0 35 "CarThreads$Node" "done" "I") (by decide +kernel)) (fun _ h9 => h9) (by first | rfl | simp [cw_nd, cw_ob, mw_ob, ct_sg, ct_sl, tu]) dX0_hasYetToDo_2 ?_
  refine lv_icmp_le (tgt := 20) hx hb dX0_hasYetToDo_5 (by decide) (fun c5 => ?_) (fun c5 => ?_)
  · refine lv_iconst (v := nI 0) hx hb dX0_hasYetToDo_20 (by decide) ?_
    exact ro_z hQ hx hb hr hlocks rfl (by simp [c5]) dX0_hasYetToDo_21
  · refine lv_iload_n hx hb dX0_hasYetToDo_8 rfl (lv_at hl 1 rfl) ?_
    refine lv_aload_n hx hb dX0_hasYetToDo_9 rfl (lv_at hl 0 rfl) ?_
    refine wd_get (C := RX0) (T := TX0) (n := 12) (ci := ciN) (v := .int (nI (σ.1 1 i))) hx hb hts (by decide +kernel) hown hK hP (3 + 2 * i) (by omega) (cW_nd (by omega)) rfl 1 (by decide) (hts (.fieldLink RX0 15 "CarThreads$Node" "steps" "I") (by decide +kernel)) (fun _ h9 => h9) (by first | rfl | simp [cw_nd, cw_ob, mw_ob, ct_sg, ct_sl, tu]) dX0_hasYetToDo_10 ?_
    refine lv_icmp_gt (tgt := 20) hx hb dX0_hasYetToDo_13 (by decide) (fun c13 => ?_) (fun c13 => ?_)
    · refine lv_iconst (v := nI 0) hx hb dX0_hasYetToDo_20 (by decide) ?_
      exact ro_z hQ hx hb hr hlocks rfl (by simp [c5, c13]) dX0_hasYetToDo_21
    · refine lv_iconst (v := nI 1) hx hb dX0_hasYetToDo_16 (by decide) ?_
      refine lv_goto (tgt := 21) hx hb dX0_hasYetToDo_17 (by decide) ?_
      exact ro_z hQ hx hb hr hlocks rfl (by simp [c5, c13]) dX0_hasYetToDo_21
abbrev rm_c_wfa : Room := { frames := 1, cells := 0, slots := 0, locals := 21 }
set_option maxHeartbeats 4000000 in
set_option maxRecDepth 100000 in
theorem c_wfa (l : Launch) {D : va_G} {cN cI : ClassId} {ad : Nat → Nat} {σ : St} {τ : Nat → Nat → Nat} {tr : Nat → Int32} {n : Nat} (hI : adI ad (5 + 2 * n)) (hv : ct_Inv σ) (hn : σ.1 0 0 = n) {i : Nat} (h1 : 1 ≤ i) (h2 : i ≤ n) (ha : σ.1 4 i = 0) : Met l yX0_waitsForAnother wsX0_waitsForAnother rm_c_wfa (va_Pc [.ref (ad (3 + 2 * i))] (pC D wCl (tyC cN cI) ad (cW cN cI ad σ τ tr) (5 + 2 * n))) (vp_Si (fun r => r = if ct_wait σ i = true then nI 1 else nI 0)) 0 0 (fun _ => False) := by
  refine Met.go (cc := cX0_waitsForAnother) (maxL := 3) (ret := (some .boolean)) (by decide) rfl (Nat.le_of_ble_eq_true rfl) ?_
  intro p e s m below meth c ls args Q ⟨hx, hb, hml, hown, hts⟩ hr hlocks hnm ⟨hP, hK⟩ hl hQ
  have hl : lv_has ls 3 [(0, .ref (ad (3 + 2 * i)))] := hl
  have hn30 : n ≤ 30 := by have := hv.1.1; omega
  obtain ⟨_, _, _, _, hb5, _, _, _, hb9⟩ := hv.2.1 i h1 (by omega)
  have hb5 := hb5 ha
  have hb9 := hb9 (σ.1 3 i + 1)
  refine lv_aload_n hx hb dX0_waitsForAnother_0 rfl (lv_at hl 0 rfl) ?_
  refine wd_get (C := RX0) (T := TX0) (n := 12) (ci := ciN) (v := .int (nI (σ.1 3 i))) hx hb hts (by decide +kernel) hown hK hP (3 + 2 * i) (by omega) (cW_nd (by omega)) rfl 4 (by decide) (hts (.fieldLink RX0 35 "CarThreads$Node" "done" "I") (by decide +kernel)) (fun _ h9 => h9) (by first | rfl | simp [cw_nd, cw_ob, mw_ob, ct_sg, ct_sl, tu]) dX0_waitsForAnother_1 ?_
  refine lv_iconst (v := nI 1) hx hb dX0_waitsForAnother_4 (by decide) ?_
  refine wi_add hx hb dX0_waitsForAnother_5 ?_
  refine lv_istore_n (lv' := [(1, .int (nI ((σ.1 3 i) + 1))), (0, .ref (ad (3 + 2 * i)))]) hx hb dX0_waitsForAnother_6 rfl hl (by decide) rfl (fun ls hl => ?_)
  refine lv_aload_n hx hb dX0_waitsForAnother_7 rfl (lv_at hl 1 rfl) ?_
  refine lv_iload_n hx hb dX0_waitsForAnother_8 rfl (lv_at hl 0 rfl) ?_
  refine vp_callSi (W.runV (As := [.int (nI ((σ.1 3 i) + 1))]) (rest := []) ⟨hx, hb, hml, hown, hts⟩ (c_hytd l hI hv hn h1 h2 (nI (σ.1 3 i + 1))) (cwV 1 hts gX0_waitsForAnother_X0_hasYetToDo rfl rfl rfl (by decide +kernel) ⟨Nat.le_of_ble_eq_true rfl, Nat.le_of_ble_eq_true rfl⟩) (wd_pre (q := (RX0, TX0, 12)) (ci := ciN) hK hP (by omega) rfl (cW_nd (by omega))) rfl rfl hl.1 rfl (lv_room (Nat.le_of_ble_eq_true rfl)) dX0_waitsForAnother_9 ⟨Nat.zero_le _, Nat.zero_le _⟩) (fun r1 er1 => ?_)
  rw [hy_one hb5 (by omega)] at er1
  subst er1
  refine wi_if_ne (tgt := 17) hx hb (by omega) dX0_waitsForAnother_12 (by decide) (fun z => ?_) (fun z => absurd z (by decide))
  refine lv_aload_n hx hb dX0_waitsForAnother_17 rfl (lv_at hl 1 rfl) ?_
  refine wd_get (C := RX0) (T := TX0) (n := 12) (ci := ciN) (v := .ref (ad (4 + 2 * i))) hx hb hts (by decide +kernel) hown hK hP (3 + 2 * i) (by omega) (cW_nd (by omega)) rfl 3 (by decide) (hts (.fieldLink RX0 21 "CarThreads$Node" "awaitedBefore" "[LCarThreads$Node;") (by decide +kernel)) (fun _ h9 => h9) (by first | rfl | simp [cw_nd, cw_ob, mw_ob, ct_sg, ct_sl, tu]) dX0_waitsForAnother_18 ?_
  refine lv_iload_n hx hb dX0_waitsForAnother_21 rfl (lv_at hl 0 rfl) ?_
  refine wd_aald hx hb hK hP (4 + 2 * i) 0 (by omega) (cW_aw (by omega)) rfl ((σ.1 3 i) + 1) (by omega) (by omega) rfl dX0_waitsForAnother_22 ?_
  obtain ⟨w, hw⟩ : ∃ w, σ.2.1 i (σ.1 3 i + 1) = w := ⟨_, rfl⟩
  rw [hw] at hb9 ⊢
  by_cases hw0 : w = 0
  · subst hw0
    refine lv_astore_nN (lv' := [(2, .null), (1, .int (nI ((σ.1 3 i) + 1))), (0, .ref (ad (3 + 2 * i)))]) hx hb dX0_waitsForAnother_23 rfl hl (by decide) rfl (fun ls hl => ?_)
    refine lv_aload_nN hx hb dX0_waitsForAnother_24 rfl (lv_at hl 0 rfl) ?_
    refine lv_ifnullN (tgt := 47) hx hb dX0_waitsForAnother_25 (by decide) ?_
    refine lv_iconst (v := nI 0) hx hb dX0_waitsForAnother_47 (by decide) ?_
    exact ro_z hQ hx hb hr hlocks rfl (by rw [if_neg]; simp [ct_wait, hw] <;> omega) dX0_waitsForAnother_48
  · rw [show cw_rf ad w = some (ad (3 + 2 * w)) from if_neg hw0]
    obtain ⟨_, _, _, _, _, _, _, _, _⟩ := hv.2.1 w (by omega) (by omega)
    refine lv_astore_n (lv' := [(2, .ref (ad (3 + 2 * w))), (1, .int (nI ((σ.1 3 i) + 1))), (0, .ref (ad (3 + 2 * i)))]) hx hb dX0_waitsForAnother_23 rfl hl (by decide) rfl (fun ls hl => ?_)
    refine lv_aload_n hx hb dX0_waitsForAnother_24 rfl (lv_at hl 0 rfl) ?_
    refine lv_ifnull hx hb dX0_waitsForAnother_25 ?_
    refine lv_aload_n hx hb dX0_waitsForAnother_28 rfl (lv_at hl 0 rfl) ?_
    refine wd_get (C := RX0) (T := TX0) (n := 12) (ci := ciN) (v := .int (nI (1 - σ.1 4 w))) hx hb hts (by decide +kernel) hown hK hP (3 + 2 * w) (by omega) (cW_nd (by omega)) rfl 5 (by decide) (hts (.fieldLink RX0 25 "CarThreads$Node" "alive" "Z") (by decide +kernel)) (fun _ h9 => h9) (by first | rfl | simp [cw_nd, cw_ob, mw_ob, ct_sg, ct_sl, tu]) dX0_waitsForAnother_29 ?_
    refine wi_if_eq (tgt := 47) hx hb (by omega) dX0_waitsForAnother_32 (by decide) (fun c32 => ?_) (fun c32 => ?_)
    · refine lv_iconst (v := nI 0) hx hb dX0_waitsForAnother_47 (by decide) ?_
      exact ro_z hQ hx hb hr hlocks rfl (by rw [if_neg]; simp [ct_wait, hw] <;> omega) dX0_waitsForAnother_48
    · refine lv_aload_n hx hb dX0_waitsForAnother_35 rfl (lv_at hl 0 rfl) ?_
      refine wd_get (C := RX0) (T := TX0) (n := 12) (ci := ciN) (v := .int (nI (σ.1 3 w))) hx hb hts (by decide +kernel) hown hK hP (3 + 2 * w) (by omega) (cW_nd (by omega)) rfl 4 (by decide) (hts (.fieldLink RX0 35 "CarThreads$Node" "done" "I") (by decide +kernel)) (fun _ h9 => h9) (by first | rfl | simp [cw_nd, cw_ob, mw_ob, ct_sg, ct_sl, tu]) dX0_waitsForAnother_36 ?_
      refine lv_iload_n hx hb dX0_waitsForAnother_39 rfl (lv_at hl 1 rfl) ?_
      refine wi_icmp_ge (tgt := 47) hx hb (by omega) (by omega) dX0_waitsForAnother_40 (by decide) (fun c40 => ?_) (fun c40 => ?_)
      · refine lv_iconst (v := nI 0) hx hb dX0_waitsForAnother_47 (by decide) ?_
        exact ro_z hQ hx hb hr hlocks rfl (by rw [if_neg]; simp [ct_wait, hw] <;> omega) dX0_waitsForAnother_48
      · refine lv_iconst (v := nI 1) hx hb dX0_waitsForAnother_43 (by decide) ?_
        refine lv_goto (tgt := 48) hx hb dX0_waitsForAnother_44 (by decide) ?_
        exact ro_z hQ hx hb hr hlocks rfl (by rw [if_pos]; simp [ct_wait, hw]; omega) dX0_waitsForAnother_48
abbrev rm_c_isKnown : Room := { frames := 0, cells := 0, slots := 0, locals := 0 }
set_option maxHeartbeats 4000000 in
set_option maxRecDepth 100000 in
theorem c_isKnown (l : Launch) {D : va_G} {cN cI : ClassId} {ad : Nat → Nat} {σ : St} {τ : Nat → Nat → Nat} {tr : Nat → Int32} {n : Nat} (hI : adI ad (5 + 2 * n)) (hv : ct_Inv σ) (hn : σ.1 0 0 = n) (x : Int32) : Met l yX1_isKnown wsX1_isKnown rm_c_isKnown (va_Pc [.ref (ad 0), .int (x)] (pC D wCl (tyC cN cI) ad (cW cN cI ad σ τ tr) (5 + 2 * n))) (vp_Si (fun r => r = if ct_kn n x = 0 then nI 0 else nI 1)) 0 0 (fun _ => False) := by
  refine Met.go (cc := cX1_isKnown) (maxL := 2) (ret := (some .boolean)) (by decide) rfl (Nat.le_of_ble_eq_true rfl) ?_
  intro p e s m below meth c ls args Q ⟨hx, hb, hml, hown, hts⟩ hr hlocks hnm ⟨hP, hK⟩ hl hQ
  have hl : lv_has ls 2 [(0, .ref (ad 0)), (1, .int (x))] := hl
  have hn30 : n ≤ 30 := by have := hv.1.1; omega
  subst hn
  refine lv_iload_n hx hb dX1_isKnown_0 rfl (lv_at hl 1 rfl) ?_
  refine lv_iconst (v := nI 1) hx hb dX1_isKnown_1 (by decide) ?_
  refine lv_icmp_lt (tgt := 17) hx hb dX1_isKnown_2 (by decide) (fun c2 => ?_) (fun c2 => ?_)
  · refine lv_iconst (v := nI 0) hx hb dX1_isKnown_17 (by decide) ?_
    exact ro_z hQ hx hb hr hlocks rfl (by rw [if_pos (ct_kn_lo c2)]) dX1_isKnown_18
  · refine lv_iload_n hx hb dX1_isKnown_5 rfl (lv_at hl 1 rfl) ?_
    refine lv_aload_n hx hb dX1_isKnown_6 rfl (lv_at hl 0 rfl) ?_
    refine wd_get (C := RX1) (T := TX1) (n := 9) (ci := ciT) (v := .int (nI (σ.1 0 0))) hx hb hts (by decide +kernel) hown hK hP (0) (by omega) cW_0 rfl 1 (by decide) (hts (.fieldLink RX1 25 "CarThreads" "nodeCount" "I") (by decide +kernel)) (fun _ h9 => h9) (by first | rfl | simp [cw_nd, cw_ob, mw_ob, ct_sg, ct_sl, tu]) dX1_isKnown_7 ?_
    refine lv_icmp_gt (tgt := 17) hx hb dX1_isKnown_10 (by decide) (fun c10 => ?_) (fun c10 => ?_)
    · refine lv_iconst (v := nI 0) hx hb dX1_isKnown_17 (by decide) ?_
      exact ro_z hQ hx hb hr hlocks rfl (by rw [if_pos (ct_kn_hi (by omega) c10)]) dX1_isKnown_18
    · refine lv_iconst (v := nI 1) hx hb dX1_isKnown_13 (by decide) ?_
      refine lv_goto (tgt := 18) hx hb dX1_isKnown_14 (by decide) ?_
      exact ro_z hQ hx hb hr hlocks rfl (by rw [if_neg (ct_kn_in (by omega) c2 c10)]) dX1_isKnown_18
abbrev rm_c_nodeOrNull : Room := { frames := 1, cells := 0, slots := 0, locals := 21 }
set_option maxHeartbeats 4000000 in
set_option maxRecDepth 100000 in
theorem c_nodeOrNull (l : Launch) {D : va_G} {cN cI : ClassId} {ad : Nat → Nat} {σ : St} {τ : Nat → Nat → Nat} {tr : Nat → Int32} {n : Nat} (hI : adI ad (5 + 2 * n)) (hv : ct_Inv σ) (hn : σ.1 0 0 = n) (x : Int32) : Met l yX1_nodeOrNull wsX1_nodeOrNull rm_c_nodeOrNull (va_Pc [.ref (ad 0), .int (x)] (pC D wCl (tyC cN cI) ad (cW cN cI ad σ τ tr) (5 + 2 * n))) (va_Sq (fun o => o = cw_rf ad (ct_kn n x))) 0 0 (fun _ => False) := by
  refine Met.go (cc := cX1_nodeOrNull) (maxL := 2) (ret := (some (.object "CarThreads$Node"))) (by decide) rfl (Nat.le_of_ble_eq_true rfl) ?_
  intro p e s m below meth c ls args Q ⟨hx, hb, hml, hown, hts⟩ hr hlocks hnm ⟨hP, hK⟩ hl hQ
  have hl : lv_has ls 2 [(0, .ref (ad 0)), (1, .int (x))] := hl
  have hn30 : n ≤ 30 := by have := hv.1.1; omega
  refine lv_aload_n hx hb dX1_nodeOrNull_0 rfl (lv_at hl 0 rfl) ?_
  refine lv_iload_n hx hb dX1_nodeOrNull_1 rfl (lv_at hl 1 rfl) ?_
  refine vp_callSi (W.runV (As := [.int (x)]) (rest := []) ⟨hx, hb, hml, hown, hts⟩ (c_isKnown l hI hv hn x) (cwV 1 hts gX1_nodeOrNull_X1_isKnown rfl rfl rfl (by decide +kernel) ⟨Nat.le_of_ble_eq_true rfl, Nat.le_of_ble_eq_true rfl⟩) (wd_pre (q := (RX1, TX1, 9)) (ci := ciT) hK hP (by omega) rfl cW_0) rfl rfl hl.1 rfl (lv_room (Nat.le_of_ble_eq_true rfl)) dX1_nodeOrNull_2 ⟨Nat.zero_le _, Nat.zero_le _⟩) (fun r1 er1 => ?_)
  by_cases hk_i2 : ct_kn n x = 0
  · have hki_i2 : ct_kn n x = 0 := hk_i2
    rw [if_pos hki_i2] at er1
    subst er1
    refine wi_if_eq (tgt := 19) hx hb (by omega) dX1_nodeOrNull_5 (by decide) (fun z => ?_) (fun z => absurd z (by decide))
    refine lv_null hx hb dX1_nodeOrNull_19 ?_
    exact ro_a hQ hx hb hr hlocks none (by rw [hki_i2]; rfl) dX1_nodeOrNull_20
  · obtain ⟨i2, hi1_i2, hi2_i2, rfl⟩ : ∃ z, 1 ≤ z ∧ z ≤ n ∧ x = nI z := ⟨_, ct_kn_some (by omega) hk_i2⟩
    have hki_i2 : ct_kn n (nI i2) = i2 := ct_kn_nI (by omega) hi1_i2 hi2_i2
    have hki0_i2 : i2 ≠ 0 := by omega
    obtain ⟨_, _, _, _, _, _, _, _, _⟩ := hv.2.1 i2 hi1_i2 (by omega)
    rw [hki_i2, if_neg hki0_i2] at er1
    subst er1
    refine wi_if_eq (tgt := 19) hx hb (by omega) dX1_nodeOrNull_5 (by decide) (fun z => absurd z (by decide)) (fun z => ?_)
    refine lv_aload_n hx hb dX1_nodeOrNull_8 rfl (lv_at hl 0 rfl) ?_
    refine wd_get (C := RX1) (T := TX1) (n := 9) (ci := ciT) (v := .ref (ad 1)) hx hb hts (by decide +kernel) hown hK hP (0) (by omega) cW_0 rfl 0 (by decide) (hts (.fieldLink RX1 11 "CarThreads" "nodes" "[LCarThreads$Node;") (by decide +kernel)) (fun _ h9 => h9) (by first | rfl | simp [cw_nd, cw_ob, mw_ob, ct_sg, ct_sl, tu]) dX1_nodeOrNull_9 ?_
    refine lv_iload_n hx hb dX1_nodeOrNull_12 rfl (lv_at hl 1 rfl) ?_
    refine lv_iconst (v := nI 1) hx hb dX1_nodeOrNull_13 (by decide) ?_
    refine wi_sub hx hb (by omega) dX1_nodeOrNull_14 ?_
    refine wd_aald hx hb hK hP (1) 0 (by omega) cW_1 rfl (i2 - 1) (by omega) (by omega) rfl dX1_nodeOrNull_15 ?_
    rw [hn, cw_ns_at hi1_i2 hi2_i2]
    refine lv_goto (tgt := 20) hx hb dX1_nodeOrNull_16 (by decide) ?_
    exact ro_a hQ hx hb hr hlocks (some (ad (3 + 2 * i2))) (by rw [hki_i2]; exact (if_neg hki0_i2).symm) dX1_nodeOrNull_20
abbrev rm_c_count : Room := { frames := 0, cells := 0, slots := 0, locals := 0 }
set_option maxHeartbeats 4000000 in
set_option maxRecDepth 100000 in
theorem c_count (l : Launch) {D : va_G} {cN cI : ClassId} {ad : Nat → Nat} {σ : St} {τ : Nat → Nat → Nat} {tr : Nat → Int32} {n : Nat} (hI : adI ad (5 + 2 * n)) (hv : ct_Inv σ) (hn : σ.1 0 0 = n) {i : Nat} (h1 : 1 ≤ i) (h2 : i ≤ n) : Met l yX1_countThingsOf wsX1_countThingsOf rm_c_count (va_Pc [.ref (ad 0), .ref (ad (3 + 2 * i))] (pC D wCl (tyC cN cI) ad (cW cN cI ad σ τ tr) (5 + 2 * n))) (vp_Si (fun r => r = nI (ct_cnt σ i 16))) 0 0 (fun _ => False) := by
  refine Met.go (cc := cX1_countThingsOf) (maxL := 4) (ret := (some .int)) (by decide) rfl (Nat.le_of_ble_eq_true rfl) ?_
  intro p e s m below meth c ls args Q ⟨hx, hb, hml, hown, hts⟩ hr hlocks hnm ⟨hP, hK⟩ hl hQ
  have hl : lv_has ls 4 [(0, .ref (ad 0)), (1, .ref (ad (3 + 2 * i)))] := hl
  have hn30 : n ≤ 30 := by have := hv.1.1; omega
  refine lv_iconst (v := nI 0) hx hb dX1_countThingsOf_0 (by decide) ?_
  refine lv_istore_n (lv' := [(2, .int (nI (0))), (0, .ref (ad 0)), (1, .ref (ad (3 + 2 * i)))]) hx hb dX1_countThingsOf_1 rfl hl (by decide) rfl (fun ls hl => ?_)
  refine lv_iconst (v := nI 0) hx hb dX1_countThingsOf_2 (by decide) ?_
  refine lv_istore_n (lv' := [(3, .int (nI (0))), (2, .int (nI (0))), (0, .ref (ad 0)), (1, .ref (ad (3 + 2 * i)))]) hx hb dX1_countThingsOf_3 rfl hl (by decide) rfl (fun ls hl => ?_)
  have loop4 : ∀ (f t : Nat) (ls : Array Slot), 16 - t = f → t ≤ 16 → lv_has ls 4 [(3, .int (nI (t))), (2, .int (nI (ct_cnt σ i t))), (0, .ref (ad 0)), (1, .ref (ad (3 + 2 * i)))] → W p l e rm_c_count s m args below meth c s.heap [] 0 0 Q (F0 m 4 ls []) := by
    intro f
    induction f with
    | zero =>
      intro t ls hf hj hl
      refine lv_iload_n hx hb dX1_countThingsOf_4 rfl (lv_at hl 0 rfl) ?_
      refine lv_bipush (v := nI 16) hx hb dX1_countThingsOf_5 (by decide) ?_
      refine wi_icmp_ge (tgt := 29) hx hb (by omega) (by omega) dX1_countThingsOf_7 (by decide) (fun c7 => ?_) (fun z => absurd z (by omega))
      refine lv_iload_n hx hb dX1_countThingsOf_29 rfl (lv_at hl 1 rfl) ?_
      exact ro_i hQ hx hb hr hlocks (by rw [show t = 16 by omega]) dX1_countThingsOf_30
    | succ f ih =>
      intro t ls hf hj hl
      refine lv_iload_n hx hb dX1_countThingsOf_4 rfl (lv_at hl 0 rfl) ?_
      refine lv_bipush (v := nI 16) hx hb dX1_countThingsOf_5 (by decide) ?_
      refine wi_icmp_ge (tgt := 29) hx hb (by omega) (by omega) dX1_countThingsOf_7 (by decide) (fun z => absurd z (by omega)) (fun c7 => ?_)
      refine lv_aload_n hx hb dX1_countThingsOf_10 rfl (lv_at hl 2 rfl) ?_
      refine wd_get (C := RX1) (T := TX1) (n := 9) (ci := ciT) (v := .ref (ad 2)) hx hb hts (by decide +kernel) hown hK hP (0) (by omega) cW_0 rfl 2 (by decide) (hts (.fieldLink RX1 15 "CarThreads" "holders" "[LCarThreads$Node;") (by decide +kernel)) (fun _ h9 => h9) (by first | rfl | simp [cw_nd, cw_ob, mw_ob, ct_sg, ct_sl, tu]) dX1_countThingsOf_11 ?_
      refine lv_iload_n hx hb dX1_countThingsOf_14 rfl (lv_at hl 0 rfl) ?_
      refine wd_aald hx hb hK hP (2) 0 (by omega) cW_2 rfl (t) (by omega) (by omega) rfl dX1_countThingsOf_15 ?_
      refine lv_aload_n hx hb dX1_countThingsOf_16 rfl (lv_at hl 3 rfl) ?_
      refine lv_acmp_ne (rx := cw_rf ad (σ.1 9 (t + 1))) (ry := some (ad (3 + 2 * i))) (tgt := 23) hx hb dX1_countThingsOf_17 (by decide) (fun c17 => ?_) (fun c17 => ?_)
      · refine lv_iinc (v := nI (t + 1)) (lv' := [(3, .int (nI (t + 1))), (2, .int (nI (ct_cnt σ i t))), (0, .ref (ad 0)), (1, .ref (ad (3 + 2 * i)))]) hx hb dX1_countThingsOf_23 hl (k := 0) rfl (wi_inc _) (by decide) rfl (fun ls hl => ?_)
        refine lv_goto (tgt := 4) hx hb dX1_countThingsOf_26 (by decide) ?_
        have e1 : ct_cnt σ i (t + 1) = ct_cnt σ i t := by
          show (if σ.1 9 (t + 1) = i then _ else _) = _
          rw [if_neg (fun q => c17 ((cw_rf_eq hI (by rw [← hn]; exact hv.2.2.2.1 _) h1 h2).mpr q))]
        exact ih (t + 1) _ (by omega) (by omega) (by rw [e1]; exact lv_sub hl [0, 1, 2, 3] rfl)
      · refine lv_iinc (v := nI (ct_cnt σ i t + 1)) (lv' := [(2, .int (nI (ct_cnt σ i t + 1))), (3, .int (nI (t))), (0, .ref (ad 0)), (1, .ref (ad (3 + 2 * i)))]) hx hb dX1_countThingsOf_20 hl (k := 1) rfl (wi_inc _) (by decide) rfl (fun ls hl => ?_)
        refine lv_iinc (v := nI (t + 1)) (lv' := [(3, .int (nI (t + 1))), (2, .int (nI (ct_cnt σ i t + 1))), (0, .ref (ad 0)), (1, .ref (ad (3 + 2 * i)))]) hx hb dX1_countThingsOf_23 hl (k := 1) rfl (wi_inc _) (by decide) rfl (fun ls hl => ?_)
        refine lv_goto (tgt := 4) hx hb dX1_countThingsOf_26 (by decide) ?_
        have e1 : ct_cnt σ i (t + 1) = ct_cnt σ i t + 1 := by
          show (if σ.1 9 (t + 1) = i then _ else _) = _
          rw [if_pos ((cw_rf_eq hI (by rw [← hn]; exact hv.2.2.2.1 _) h1 h2).mp c17)]
        exact ih (t + 1) _ (by omega) (by omega) (by rw [e1]; exact lv_sub hl [0, 1, 2, 3] rfl)
  exact loop4 _ 0 _ rfl (by omega) (lv_sub hl [0, 1, 2, 3] rfl)
end P40
