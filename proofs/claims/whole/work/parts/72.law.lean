set_option maxHeartbeats 4000000 in
set_option maxRecDepth 100000 in
/-- the law's loop: at its head, with i ints read, class and reference hold one state -/
theorem law_loop {p : Program} {l : Launch} {e : Env} {s : State} {m : MethodId} {below : List Frame} {meth : Method} {c : Code} {D : va_G} {b L : Nat} {xs : Nat → Int32} (hL : L ≤ 2048) (C0 : lw_At p s m meth c b L xs) {cN cI dI dZ dJ : ClassId} {adm : Nat → Nat} (hKc : va_K D wCl (tyC cN cI) s) (hKm : va_K D wCl (tyM dI dZ dJ) s) (hO : va_AO RX0 s) (hIm : adI adm 13) (hAm : ∀ k, k < 13 → s.heap.size ≤ adm k) :
    ∀ (f i : Nat) (σ : St) (τ : Nat → Nat → Nat) (tr : Nat → Int32) (ρ : Nat → Nat) (cd : Int32) (adc : Nat → Nat) (n cells slots : Nat) (H : Heap) (locs : List Loc) (ls : Array Slot), i ≤ L + 3 → L + 4 ≤ i + 4 * f → ct_Inv σ → σ.1 0 0 = n → tK τ → (∀ k, ρ k ≤ 1) → adI adc (5 + 2 * n) → (∀ k, k < 5 + 2 * n → s.heap.size ≤ adc k) → (∀ k, k < 5 + 2 * n → ∀ j, j < 13 → adc k ≠ adm j) → cells ≤ 100 + i → slots ≤ 20000 + 54 * i → va_P D wCl (wl adc (cW cN cI adc σ τ tr) (5 + 2 * n)) H → va_P D wCl (wl adm (mW dI dZ dJ adm σ ρ cd) 13) H → va_S (fun q : Nat => s.heap.size ≤ q) s.heap H locs → lv_has ls 4 [(0, .ref b), (1, .ref (adc 0)), (2, .ref (adm 0)), (3, .int (nI (i)))] → W p l e room_1 s m #[Value.ref b] below meth c H locs cells slots (lw_Z below #[Value.ref b] s) (F0 m 18 ls []) := by
  obtain ⟨hx, hb, hr, hml, hown, hts, hX, hbl, hlocks, hgv⟩ := C0
  have hown : s.vm.findClass RL = some m.cls := hown
  have hts9 : ∀ w ∈ wsL_law, w.before #[Value.ref b] s = true := fun w h => hts w (wsL_law_in w h)
  have hbA : ¬ (fun q : Nat => s.heap.size ≤ q) b := Nat.not_le.mpr hbl
  intro f
  induction f with
  | zero =>
    intro i σ τ tr ρ cd adc n cells slots H locs ls h1 h2
    exact absurd h2 (by omega)
  | succ f ih =>
    intro i σ τ tr ρ cd adc n cells slots H locs ls hi hif hv hn hτ hρ hIc hAc hdj hcl hsl hPc hPm hS hl
    have hn30 : n ≤ 30 := by have := hv.1.1; omega
    have hl : lv_has ls 4 [(0, .ref b), (1, .ref (adc 0)), (2, .ref (adm 0)), (3, .int (nI (i)))] := hl
    refine lv_iload_n hx hb dL_law_18 rfl (lv_at hl 3 rfl) ?_
    refine lv_aload_n hx hb dL_law_19 rfl (lv_at hl 0 rfl) ?_
    refine va_slen hx hb hX hbl hbA hS dL_law_20 ?_
    refine lv_iconst (v := nI 4) hx hb dL_law_21 (by decide) ?_
    refine lv_isub hx hb dL_law_22 ?_
    refine lv_icmp_gt (tgt := 436) hx hb dL_law_23 (by decide) (fun c23 => ?_) (fun c23 => ?_)
    · refine lv_iconst (v := 1) hx hb dL_law_436 (by decide) ?_
      refine va_forget (fun q hq => hS.2.2 q hq) ?_
      refine W.widen (k := 600000) (n := 7302250) (by omega) (by omega) ?_
      exact lw_ret hx hb hr hlocks dL_law_437
    have hlt : i + 4 ≤ L := by
      rcases Nat.lt_or_ge L (i + 4) with q | q
      · exact absurd ((law_gt (by omega) (by omega)).mpr q) c23
      · exact q
    refine lv_aload_n hx hb dL_law_26 rfl (lv_at hl 0 rfl) ?_
    refine lv_iload_n hx hb dL_law_27 rfl (lv_at hl 3 rfl) ?_
    refine ws_ld hx hb hX hbl hbA hS i (by omega) (by omega) dL_law_28 ?_
    refine lv_bipush (v := nI 15) hx hb dL_law_29 (by decide) ?_
    refine lv_iand hx hb dL_law_31 ?_
    obtain ⟨j, hj, ej⟩ := pk_andE (xs i) (m := nI 15) 4 (by decide)
    rw [ej]
    rcases (show j = 0 ∨ j = 1 ∨ j = 2 ∨ j = 3 ∨ j = 4 ∨ j = 5 ∨ j = 6 ∨ j = 7 ∨ j = 8 ∨ j = 9 ∨ j = 10 ∨ j = 11 ∨ 12 ≤ j by omega) with rfl | rfl | rfl | rfl | rfl | rfl | rfl | rfl | rfl | rfl | rfl | rfl | hj12
    · refine lv_tableIn (off := 64) (tgt := 96) hx hb dL_law_32 (by decide) (by decide) (by decide) (by decide) ?_
      refine lv_aload_n hx hb dL_law_96 rfl (lv_at hl 1 rfl) ?_
      refine lv_aload_n hx hb dL_law_97 rfl (lv_at hl 0 rfl) ?_
      refine lv_iload_n hx hb dL_law_98 rfl (lv_at hl 3 rfl) ?_
      refine lv_iconst (v := nI 1) hx hb dL_law_99 (by decide) ?_
      refine wi_add hx hb dL_law_100 ?_
      refine ws_ld hx hb hX hbl hbA hS (i + 1) (by omega) (by omega) dL_law_101 ?_
      refine lv_aload_n hx hb dL_law_102 rfl (lv_at hl 0 rfl) ?_
      refine lv_iload_n hx hb dL_law_103 rfl (lv_at hl 3 rfl) ?_
      refine lv_iconst (v := nI 2) hx hb dL_law_104 (by decide) ?_
      refine wi_add hx hb dL_law_105 ?_
      refine ws_ld hx hb hX hbl hbA hS (i + 2) (by omega) (by omega) dL_law_106 ?_
      have hS0 := hS.1
      have hFc : ∀ z, nA adc n H.size z → s.heap.size ≤ z := by
        intro z hz
        rcases hz with ⟨k, hk1, e1⟩ | hz
        · rw [← e1]; exact hAc k hk1
        · exact Nat.le_trans hS.1 hz
      refine va_calli (va_runV (As := [.int (xs (i + 1)), .int (xs (i + 2))]) (rest := []) ⟨hx, hb, hml, hown, hts9⟩ (c_node l hIc hv hn hτ H.size (xs (i + 1)) (xs (i + 2))) (cwV 2 hts9 gL_law_X1_node rfl rfl rfl (by decide +kernel) ⟨Nat.le_of_ble_eq_true rfl, Nat.le_of_ble_eq_true rfl⟩) ⟨fun a U g mk q => by obtain ⟨q0, q1, qP, qK, qO⟩ := q; exact ⟨q0, q1, qP, va_K.moved (u := U) (U := U.calling g mk a) (Vm.Alike.refl U.vm) qK, va_AO.moved (u := U) (U := U.calling g mk a) (Vm.Alike.refl U.vm) qO⟩, va_recv hKc hPc (ci := ciT) (q := (RX1, TX1, 9)) (q0 := 0) rfl (by rw [wl_at (by omega), cW_0]), fun U hU hW => ⟨rfl, by rw [hU], by rw [hU]; exact hPc, va_K.moved hW.alike hKc, va_AO.moved hW.alike hO⟩⟩ rfl rfl hl.1 rfl (lv_room (Nat.le_of_ble_eq_true rfl)) dL_law_107 ⟨by show cells + 2 ≤ 600000; omega, by show slots + 213 ≤ 7302250; omega⟩) hS (fun z _ hz => hFc z hz) hFc (fun r1 u1 t1 H2 locs ht1 _ hw1 hB1 hz hk hS => ?_)
      obtain ⟨ad', τ'⟩ := u1
      obtain ⟨er1, hτ1, e01, hI1, hU1⟩ := hw1
      have hB1 : va_P D wCl (wl ad' (cW cN cI ad' (f_node σ (xs (i + 1)) (xs (i + 2))).2 τ' tr) (5 + 2 * (f_node σ (xs (i + 1)) (xs (i + 2))).2.1 0 0)) t1.heap := hB1
      rw [ht1] at hB1
      have hA1 : ∀ k, k < 5 + 2 * (f_node σ (xs (i + 1)) (xs (i + 2))).2.1 0 0 → s.heap.size ≤ ad' k := fun k hk1 => by
        rcases hU1 k hk1 with ⟨z1, z2⟩ | z
        · show _ ≤ ad' k
          rw [show ad' k = adc k from z2]; exact hAc k z1
        · exact Nat.le_trans hS0 (show H.size ≤ ad' k from z)
      have hd1 : ∀ k, k < 5 + 2 * (f_node σ (xs (i + 1)) (xs (i + 2))).2.1 0 0 → ∀ j, j < 13 → ad' k ≠ adm j := fun k hk1 j hj1 e1 => by
        have hm1 := wl_lt hPm hj1
        rcases hU1 k hk1 with ⟨z1, z2⟩ | z
        · exact hdj k z1 j hj1 (z2.symm.trans e1)
        · have z3 : H.size ≤ ad' k := z
          omega
      have hPm := wl_keep hPm hk (fun k hk1 hz1 => by
        rcases hz1 with ⟨j, hj, e1⟩ | hz1
        · exact hdj j hj k hk1 e1
        · have := wl_lt hPm hk1
          omega)
      have e01 : ad' 0 = adc 0 := e01
      have hl : lv_has ls 4 [(0, .ref b), (1, .ref (ad' 0)), (2, .ref (adm 0)), (3, .int (nI i))] := by rw [e01]; exact hl
      refine lv_aload_n hx hb dL_law_110 rfl (lv_at hl 2 rfl) ?_
      refine lv_aload_n hx hb dL_law_111 rfl (lv_at hl 0 rfl) ?_
      refine lv_iload_n hx hb dL_law_112 rfl (lv_at hl 3 rfl) ?_
      refine lv_iconst (v := nI 1) hx hb dL_law_113 (by decide) ?_
      refine wi_add hx hb dL_law_114 ?_
      refine ws_ld hx hb hX hbl hbA hS (i + 1) (by omega) (by omega) dL_law_115 ?_
      refine lv_aload_n hx hb dL_law_116 rfl (lv_at hl 0 rfl) ?_
      refine lv_iload_n hx hb dL_law_117 rfl (lv_at hl 3 rfl) ?_
      refine lv_iconst (v := nI 2) hx hb dL_law_118 (by decide) ?_
      refine wi_add hx hb dL_law_119 ?_
      refine ws_ld hx hb hX hbl hbA hS (i + 2) (by omega) (by omega) dL_law_120 ?_
      refine wd_calli (va_runV (As := [.int (xs (i + 1)), .int (xs (i + 2))]) (rest := [.int (r1)]) ⟨hx, hb, hml, hown, hts⟩ (m_node l hIm hv hn (xs (i + 1)) (xs (i + 2))) (cwV 2 hts gL_Y2_node rfl rfl rfl (by decide +kernel) ⟨Nat.le_of_ble_eq_true rfl, Nat.le_of_ble_eq_true rfl⟩) (wd_pre (q := (RX2, TY2, 17)) (ci := ciM) hKm hPm (by omega) rfl mW_0) rfl rfl hl.1 rfl (lv_room (Nat.le_of_ble_eq_true rfl)) dL_law_121 ⟨by show cells + 2 + 0 ≤ 600000; omega, by show slots + 213 + 0 ≤ 7302250; omega⟩) hS hAm (fun r2 u2 H locs er2 hPm hz hk hS => ?_)
      have hB1 := wl_keep hB1 hk (fun k hk1 hz1 => by obtain ⟨j, hj, e1⟩ := hz1; exact hd1 k hk1 j hj e1.symm)
      refine lv_icmp_eq (tgt := 430) hx hb dL_law_124 (by decide) (fun _ => ?_) (fun z => absurd (by rw [er1, er2]) z)
      refine lv_iinc (v := nI (i + 4)) (lv' := [(3, .int (nI (i + 4))), (0, .ref b), (1, .ref (ad' 0)), (2, .ref (adm 0))]) hx hb dL_law_430 hl (k := 3) rfl (wi_inc4 _) (by decide) rfl (fun ls hl => ?_)
      refine lv_goto (tgt := 18) hx hb dL_law_433 (by decide) ?_
      exact ih (i + 4) (f_node σ (xs (i + 1)) (xs (i + 2))).2 τ' tr ρ (nI 0) ad' _ _ _ _ _ _ (by omega) (by omega) (ct_Inv_node hv (xs (i + 1)) (xs (i + 2))) rfl hτ1 hρ hI1 hA1 hd1 (by omega) (by omega) hB1 hPm hS (lv_sub hl [1, 2, 3, 0] rfl)
    · refine lv_tableIn (off := 97) (tgt := 129) hx hb dL_law_32 (by decide) (by decide) (by decide) (by decide) ?_
      refine lv_aload_n hx hb dL_law_129 rfl (lv_at hl 1 rfl) ?_
      refine lv_aload_n hx hb dL_law_130 rfl (lv_at hl 0 rfl) ?_
      refine lv_iload_n hx hb dL_law_131 rfl (lv_at hl 3 rfl) ?_
      refine lv_iconst (v := nI 1) hx hb dL_law_132 (by decide) ?_
      refine wi_add hx hb dL_law_133 ?_
      refine ws_ld hx hb hX hbl hbA hS (i + 1) (by omega) (by omega) dL_law_134 ?_
      refine lv_aload_n hx hb dL_law_135 rfl (lv_at hl 0 rfl) ?_
      refine lv_iload_n hx hb dL_law_136 rfl (lv_at hl 3 rfl) ?_
      refine lv_iconst (v := nI 2) hx hb dL_law_137 (by decide) ?_
      refine wi_add hx hb dL_law_138 ?_
      refine ws_ld hx hb hX hbl hbA hS (i + 2) (by omega) (by omega) dL_law_139 ?_
      refine lv_aload_n hx hb dL_law_140 rfl (lv_at hl 0 rfl) ?_
      refine lv_iload_n hx hb dL_law_141 rfl (lv_at hl 3 rfl) ?_
      refine lv_iconst (v := nI 3) hx hb dL_law_142 (by decide) ?_
      refine wi_add hx hb dL_law_143 ?_
      refine ws_ld hx hb hX hbl hbA hS (i + 3) (by omega) (by omega) dL_law_144 ?_
      refine wd_calli (va_runV (As := [.int (xs (i + 1)), .int (xs (i + 2)), .int (xs (i + 3))]) (rest := []) ⟨hx, hb, hml, hown, hts9⟩ (c_waits l hIc hv hn (xs (i + 1)) (xs (i + 2)) (xs (i + 3))) (cwV 3 hts9 gL_law_X1_waits rfl rfl rfl (by decide +kernel) ⟨Nat.le_of_ble_eq_true rfl, Nat.le_of_ble_eq_true rfl⟩) (wd_pre (q := (RX1, TX1, 9)) (ci := ciT) hKc hPc (by omega) rfl cW_0) rfl rfl hl.1 rfl (lv_room (Nat.le_of_ble_eq_true rfl)) dL_law_145 ⟨by show cells + 0 ≤ 600000; omega, by show slots + 0 ≤ 7302250; omega⟩) hS hAc (fun r1 u1 H locs er1 hPc hz hk hS => ?_)
      have hPm := wl_keep hPm hk (fun k hk1 hz1 => by obtain ⟨j, hj, e1⟩ := hz1; exact hdj j hj k hk1 e1)
      refine lv_aload_n hx hb dL_law_148 rfl (lv_at hl 2 rfl) ?_
      refine lv_aload_n hx hb dL_law_149 rfl (lv_at hl 0 rfl) ?_
      refine lv_iload_n hx hb dL_law_150 rfl (lv_at hl 3 rfl) ?_
      refine lv_iconst (v := nI 1) hx hb dL_law_151 (by decide) ?_
      refine wi_add hx hb dL_law_152 ?_
      refine ws_ld hx hb hX hbl hbA hS (i + 1) (by omega) (by omega) dL_law_153 ?_
      refine lv_aload_n hx hb dL_law_154 rfl (lv_at hl 0 rfl) ?_
      refine lv_iload_n hx hb dL_law_155 rfl (lv_at hl 3 rfl) ?_
      refine lv_iconst (v := nI 2) hx hb dL_law_156 (by decide) ?_
      refine wi_add hx hb dL_law_157 ?_
      refine ws_ld hx hb hX hbl hbA hS (i + 2) (by omega) (by omega) dL_law_158 ?_
      refine lv_aload_n hx hb dL_law_159 rfl (lv_at hl 0 rfl) ?_
      refine lv_iload_n hx hb dL_law_160 rfl (lv_at hl 3 rfl) ?_
      refine lv_iconst (v := nI 3) hx hb dL_law_161 (by decide) ?_
      refine wi_add hx hb dL_law_162 ?_
      refine ws_ld hx hb hX hbl hbA hS (i + 3) (by omega) (by omega) dL_law_163 ?_
      refine wd_calli (va_runV (As := [.int (xs (i + 1)), .int (xs (i + 2)), .int (xs (i + 3))]) (rest := [.int (r1)]) ⟨hx, hb, hml, hown, hts⟩ (m_waits l hIm hv hn (xs (i + 1)) (xs (i + 2)) (xs (i + 3))) (cwV 3 hts gL_Y2_waits rfl rfl rfl (by decide +kernel) ⟨Nat.le_of_ble_eq_true rfl, Nat.le_of_ble_eq_true rfl⟩) (wd_pre (q := (RX2, TY2, 17)) (ci := ciM) hKm hPm (by omega) rfl mW_0) rfl rfl hl.1 rfl (lv_room (Nat.le_of_ble_eq_true rfl)) dL_law_164 ⟨by show cells + 0 ≤ 600000; omega, by show slots + 0 ≤ 7302250; omega⟩) hS hAm (fun r2 u2 H locs er2 hPm hz hk hS => ?_)
      have hPc := wl_keep hPc hk (fun k hk1 hz1 => by obtain ⟨j, hj, e1⟩ := hz1; exact hdj k hk1 j hj e1.symm)
      refine lv_icmp_eq (tgt := 430) hx hb dL_law_167 (by decide) (fun _ => ?_) (fun z => absurd (by rw [er1, er2]) z)
      refine lv_iinc (v := nI (i + 4)) (lv' := [(3, .int (nI (i + 4))), (0, .ref b), (1, .ref (adc 0)), (2, .ref (adm 0))]) hx hb dL_law_430 hl (k := 3) rfl (wi_inc4 _) (by decide) rfl (fun ls hl => ?_)
      refine lv_goto (tgt := 18) hx hb dL_law_433 (by decide) ?_
      exact ih (i + 4) ((f_waits σ (xs (i + 1)) (xs (i + 2)) (xs (i + 3))).2) τ tr ρ (nI 0) adc n _ _ _ _ _ (by omega) (by omega) (ct_Inv_waits hv (xs (i + 1)) (xs (i + 2)) (xs (i + 3))) (by rw [nn_waits]; exact hn) hτ hρ hIc hAc hdj (by omega) (by omega) hPc hPm hS (lv_sub hl [1, 2, 3, 0] rfl)
    · refine lv_tableIn (off := 140) (tgt := 172) hx hb dL_law_32 (by decide) (by decide) (by decide) (by decide) ?_
      refine lv_aload_n hx hb dL_law_172 rfl (lv_at hl 1 rfl) ?_
      refine lv_aload_n hx hb dL_law_173 rfl (lv_at hl 0 rfl) ?_
      refine lv_iload_n hx hb dL_law_174 rfl (lv_at hl 3 rfl) ?_
      refine lv_iconst (v := nI 1) hx hb dL_law_175 (by decide) ?_
      refine wi_add hx hb dL_law_176 ?_
      refine ws_ld hx hb hX hbl hbA hS (i + 1) (by omega) (by omega) dL_law_177 ?_
      refine wd_callv (va_runV (As := [.int (xs (i + 1))]) (rest := []) ⟨hx, hb, hml, hown, hts9⟩ (c_turn l hIc hv hn hτ (xs (i + 1))) (cwV 1 hts9 gL_law_X1_turn rfl rfl rfl (by decide +kernel) ⟨Nat.le_of_ble_eq_true rfl, Nat.le_of_ble_eq_true rfl⟩) (wd_pre (q := (RX1, TX1, 9)) (ci := ciT) hKc hPc (by omega) rfl cW_0) rfl rfl hl.1 rfl (lv_room (Nat.le_of_ble_eq_true rfl)) dL_law_178 ⟨by show cells + 0 ≤ 600000; omega, by show slots + 0 ≤ 7302250; omega⟩) hS hAc (fun u1 H locs er1 hPc hz hk hS => ?_)
      have hPm := wl_keep hPm hk (fun k hk1 hz1 => by obtain ⟨j, hj, e1⟩ := hz1; exact hdj j hj k hk1 e1)
      refine lv_aload_n hx hb dL_law_181 rfl (lv_at hl 2 rfl) ?_
      refine lv_aload_n hx hb dL_law_182 rfl (lv_at hl 0 rfl) ?_
      refine lv_iload_n hx hb dL_law_183 rfl (lv_at hl 3 rfl) ?_
      refine lv_iconst (v := nI 1) hx hb dL_law_184 (by decide) ?_
      refine wi_add hx hb dL_law_185 ?_
      refine ws_ld hx hb hX hbl hbA hS (i + 1) (by omega) (by omega) dL_law_186 ?_
      refine wd_callv (va_runV (As := [.int (xs (i + 1))]) (rest := []) ⟨hx, hb, hml, hown, hts⟩ (m_turn l hIm hv hn (xs (i + 1))) (cwV 1 hts gL_Y2_turn rfl rfl rfl (by decide +kernel) ⟨Nat.le_of_ble_eq_true rfl, Nat.le_of_ble_eq_true rfl⟩) (wd_pre (q := (RX2, TY2, 17)) (ci := ciM) hKm hPm (by omega) rfl mW_0) rfl rfl hl.1 rfl (lv_room (Nat.le_of_ble_eq_true rfl)) dL_law_187 ⟨by show cells + 0 ≤ 600000; omega, by show slots + 0 ≤ 7302250; omega⟩) hS hAm (fun u2 H locs er2 hPm hz hk hS => ?_)
      have hPc := wl_keep hPc hk (fun k hk1 hz1 => by obtain ⟨j, hj, e1⟩ := hz1; exact hdj k hk1 j hj e1.symm)
      refine lv_goto (tgt := 430) hx hb dL_law_190 (by decide) ?_
      refine lv_iinc (v := nI (i + 4)) (lv' := [(3, .int (nI (i + 4))), (0, .ref b), (1, .ref (adc 0)), (2, .ref (adm 0))]) hx hb dL_law_430 hl (k := 3) rfl (wi_inc4 _) (by decide) rfl (fun ls hl => ?_)
      refine lv_goto (tgt := 18) hx hb dL_law_433 (by decide) ?_
      exact ih (i + 4) σ u1.1 u1.2 ρ (nI 0) adc n _ _ _ _ _ (by omega) (by omega) hv hn er1 hρ hIc hAc hdj (by omega) (by omega) hPc hPm hS (lv_sub hl [1, 2, 3, 0] rfl)
    · refine lv_tableIn (off := 161) (tgt := 193) hx hb dL_law_32 (by decide) (by decide) (by decide) (by decide) ?_
      refine lv_aload_n hx hb dL_law_193 rfl (lv_at hl 1 rfl) ?_
      refine wd_calli (va_runV (As := []) (rest := []) ⟨hx, hb, hml, hown, hts9⟩ (c_run l hIc hv hn hτ) (cwV 0 hts9 gL_law_X1_run rfl rfl rfl (by decide +kernel) ⟨Nat.le_of_ble_eq_true rfl, Nat.le_of_ble_eq_true rfl⟩) (wd_pre (q := (RX1, TX1, 9)) (ci := ciT) hKc hPc (by omega) rfl cW_0) rfl rfl hl.1 rfl (lv_room (Nat.le_of_ble_eq_true rfl)) dL_law_194 ⟨by show cells + 0 ≤ 600000; omega, by show slots + 0 ≤ 7302250; omega⟩) hS hAc (fun r1 u1 H locs er1 hPc hz hk hS => ?_)
      have hPm := wl_keep hPm hk (fun k hk1 hz1 => by obtain ⟨j, hj, e1⟩ := hz1; exact hdj j hj k hk1 e1)
      refine lv_aload_n hx hb dL_law_197 rfl (lv_at hl 2 rfl) ?_
      refine wd_calli (va_runV (As := []) (rest := [.int (r1)]) ⟨hx, hb, hml, hown, hts⟩ (m_run l hIm hv hn hρ) (cwV 0 hts gL_Y2_run rfl rfl rfl (by decide +kernel) ⟨Nat.le_of_ble_eq_true rfl, Nat.le_of_ble_eq_true rfl⟩) (wd_pre (q := (RX2, TY2, 17)) (ci := ciM) hKm hPm (by omega) rfl mW_0) rfl rfl hl.1 rfl (lv_room (Nat.le_of_ble_eq_true rfl)) dL_law_198 ⟨by show cells + 0 ≤ 600000; omega, by show slots + 0 ≤ 7302250; omega⟩) hS hAm (fun r2 u2 H locs er2 hPm hz hk hS => ?_)
      have hPc := wl_keep hPc hk (fun k hk1 hz1 => by obtain ⟨j, hj, e1⟩ := hz1; exact hdj k hk1 j hj e1.symm)
      refine lv_icmp_eq (tgt := 430) hx hb dL_law_201 (by decide) (fun _ => ?_) (fun z => absurd (by rw [er1.1, er2.1]) z)
      refine lv_iinc (v := nI (i + 4)) (lv' := [(3, .int (nI (i + 4))), (0, .ref b), (1, .ref (adc 0)), (2, .ref (adm 0))]) hx hb dL_law_430 hl (k := 3) rfl (wi_inc4 _) (by decide) rfl (fun ls hl => ?_)
      refine lv_goto (tgt := 18) hx hb dL_law_433 (by decide) ?_
      exact ih (i + 4) ((ct_run 1000 σ).2) u1 tr u2 (nI 0) adc n _ _ _ _ _ (by omega) (by omega) (ct_Inv_run 1000 σ hv) (by rw [nn_run]; exact hn) er1.2 er2.2 hIc hAc hdj (by omega) (by omega) hPc hPm hS (lv_sub hl [1, 2, 3, 0] rfl)
    · refine lv_tableIn (off := 174) (tgt := 206) hx hb dL_law_32 (by decide) (by decide) (by decide) (by decide) ?_
      refine lv_aload_n hx hb dL_law_206 rfl (lv_at hl 1 rfl) ?_
      refine lv_aload_n hx hb dL_law_207 rfl (lv_at hl 0 rfl) ?_
      refine lv_iload_n hx hb dL_law_208 rfl (lv_at hl 3 rfl) ?_
      refine lv_iconst (v := nI 1) hx hb dL_law_209 (by decide) ?_
      refine wi_add hx hb dL_law_210 ?_
      refine ws_ld hx hb hX hbl hbA hS (i + 1) (by omega) (by omega) dL_law_211 ?_
      refine vp_callSi (W.runV (As := [.int (xs (i + 1))]) (rest := []) ⟨hx, hb, hml, hown, hts9⟩ (c_log l hIc hv hn (xs (i + 1))) (cwV 1 hts9 gL_law_X1_log rfl rfl rfl (by decide +kernel) ⟨Nat.le_of_ble_eq_true rfl, Nat.le_of_ble_eq_true rfl⟩) (wd_pre (q := (RX1, TX1, 9)) (ci := ciT) hKc hPc (by omega) rfl cW_0) rfl rfl hl.1 rfl (lv_room (Nat.le_of_ble_eq_true rfl)) dL_law_212 ⟨by show cells + 0 ≤ 600000; omega, by show slots + 0 ≤ 7302250; omega⟩) (fun r1 er1 => ?_)
      refine lv_aload_n hx hb dL_law_215 rfl (lv_at hl 2 rfl) ?_
      refine lv_aload_n hx hb dL_law_216 rfl (lv_at hl 0 rfl) ?_
      refine lv_iload_n hx hb dL_law_217 rfl (lv_at hl 3 rfl) ?_
      refine lv_iconst (v := nI 1) hx hb dL_law_218 (by decide) ?_
      refine wi_add hx hb dL_law_219 ?_
      refine ws_ld hx hb hX hbl hbA hS (i + 1) (by omega) (by omega) dL_law_220 ?_
      refine wd_calli (va_runV (As := [.int (xs (i + 1))]) (rest := [.int (r1)]) ⟨hx, hb, hml, hown, hts⟩ (m_log l hIm hv hn (xs (i + 1))) (cwV 1 hts gL_Y2_log rfl rfl rfl (by decide +kernel) ⟨Nat.le_of_ble_eq_true rfl, Nat.le_of_ble_eq_true rfl⟩) (wd_pre (q := (RX2, TY2, 17)) (ci := ciM) hKm hPm (by omega) rfl mW_0) rfl rfl hl.1 rfl (lv_room (Nat.le_of_ble_eq_true rfl)) dL_law_221 ⟨by show cells + 0 ≤ 600000; omega, by show slots + 0 ≤ 7302250; omega⟩) hS hAm (fun r2 u2 H locs er2 hPm hz hk hS => ?_)
      have hPc := wl_keep hPc hk (fun k hk1 hz1 => by obtain ⟨j, hj, e1⟩ := hz1; exact hdj k hk1 j hj e1.symm)
      refine lv_icmp_eq (tgt := 430) hx hb dL_law_224 (by decide) (fun _ => ?_) (fun z => absurd (by rw [er1, er2]) z)
      refine lv_iinc (v := nI (i + 4)) (lv' := [(3, .int (nI (i + 4))), (0, .ref b), (1, .ref (adc 0)), (2, .ref (adm 0))]) hx hb dL_law_430 hl (k := 3) rfl (wi_inc4 _) (by decide) rfl (fun ls hl => ?_)
      refine lv_goto (tgt := 18) hx hb dL_law_433 (by decide) ?_
      exact ih (i + 4) σ τ tr ρ (nI 0) adc n _ _ _ _ _ (by omega) (by omega) hv hn hτ hρ hIc hAc hdj (by omega) (by omega) hPc hPm hS (lv_sub hl [1, 2, 3, 0] rfl)
    · refine lv_tableIn (off := 197) (tgt := 229) hx hb dL_law_32 (by decide) (by decide) (by decide) (by decide) ?_
      refine lv_aload_n hx hb dL_law_229 rfl (lv_at hl 1 rfl) ?_
      refine lv_aload_n hx hb dL_law_230 rfl (lv_at hl 0 rfl) ?_
      refine lv_iload_n hx hb dL_law_231 rfl (lv_at hl 3 rfl) ?_
      refine lv_iconst (v := nI 1) hx hb dL_law_232 (by decide) ?_
      refine wi_add hx hb dL_law_233 ?_
      refine ws_ld hx hb hX hbl hbA hS (i + 1) (by omega) (by omega) dL_law_234 ?_
      refine vp_callSi (W.runV (As := [.int (xs (i + 1))]) (rest := []) ⟨hx, hb, hml, hown, hts9⟩ (c_safe l hIc hv hn (xs (i + 1))) (cwV 1 hts9 gL_law_X1_safe rfl rfl rfl (by decide +kernel) ⟨Nat.le_of_ble_eq_true rfl, Nat.le_of_ble_eq_true rfl⟩) (wd_pre (q := (RX1, TX1, 9)) (ci := ciT) hKc hPc (by omega) rfl cW_0) rfl rfl hl.1 rfl (lv_room (Nat.le_of_ble_eq_true rfl)) dL_law_235 ⟨by show cells + 0 ≤ 600000; omega, by show slots + 0 ≤ 7302250; omega⟩) (fun r1 er1 => ?_)
      refine lv_aload_n hx hb dL_law_238 rfl (lv_at hl 2 rfl) ?_
      refine lv_aload_n hx hb dL_law_239 rfl (lv_at hl 0 rfl) ?_
      refine lv_iload_n hx hb dL_law_240 rfl (lv_at hl 3 rfl) ?_
      refine lv_iconst (v := nI 1) hx hb dL_law_241 (by decide) ?_
      refine wi_add hx hb dL_law_242 ?_
      refine ws_ld hx hb hX hbl hbA hS (i + 1) (by omega) (by omega) dL_law_243 ?_
      refine wd_calli (va_runV (As := [.int (xs (i + 1))]) (rest := [.int (r1)]) ⟨hx, hb, hml, hown, hts⟩ (m_safe l hIm hv hn (xs (i + 1))) (cwV 1 hts gL_Y2_safe rfl rfl rfl (by decide +kernel) ⟨Nat.le_of_ble_eq_true rfl, Nat.le_of_ble_eq_true rfl⟩) (wd_pre (q := (RX2, TY2, 17)) (ci := ciM) hKm hPm (by omega) rfl mW_0) rfl rfl hl.1 rfl (lv_room (Nat.le_of_ble_eq_true rfl)) dL_law_244 ⟨by show cells + 0 ≤ 600000; omega, by show slots + 0 ≤ 7302250; omega⟩) hS hAm (fun r2 u2 H locs er2 hPm hz hk hS => ?_)
      have hPc := wl_keep hPc hk (fun k hk1 hz1 => by obtain ⟨j, hj, e1⟩ := hz1; exact hdj k hk1 j hj e1.symm)
      refine lv_icmp_eq (tgt := 430) hx hb dL_law_247 (by decide) (fun _ => ?_) (fun z => absurd (by rw [er1, er2]) z)
      refine lv_iinc (v := nI (i + 4)) (lv' := [(3, .int (nI (i + 4))), (0, .ref b), (1, .ref (adc 0)), (2, .ref (adm 0))]) hx hb dL_law_430 hl (k := 3) rfl (wi_inc4 _) (by decide) rfl (fun ls hl => ?_)
      refine lv_goto (tgt := 18) hx hb dL_law_433 (by decide) ?_
      exact ih (i + 4) σ τ tr ρ (nI 0) adc n _ _ _ _ _ (by omega) (by omega) hv hn hτ hρ hIc hAc hdj (by omega) (by omega) hPc hPm hS (lv_sub hl [1, 2, 3, 0] rfl)
    · refine lv_tableIn (off := 220) (tgt := 252) hx hb dL_law_32 (by decide) (by decide) (by decide) (by decide) ?_
      refine lv_aload_n hx hb dL_law_252 rfl (lv_at hl 1 rfl) ?_
      refine lv_aload_n hx hb dL_law_253 rfl (lv_at hl 0 rfl) ?_
      refine lv_iload_n hx hb dL_law_254 rfl (lv_at hl 3 rfl) ?_
      refine lv_iconst (v := nI 1) hx hb dL_law_255 (by decide) ?_
      refine wi_add hx hb dL_law_256 ?_
      refine ws_ld hx hb hX hbl hbA hS (i + 1) (by omega) (by omega) dL_law_257 ?_
      refine lv_aload_n hx hb dL_law_258 rfl (lv_at hl 0 rfl) ?_
      refine lv_iload_n hx hb dL_law_259 rfl (lv_at hl 3 rfl) ?_
      refine lv_iconst (v := nI 2) hx hb dL_law_260 (by decide) ?_
      refine wi_add hx hb dL_law_261 ?_
      refine ws_ld hx hb hX hbl hbA hS (i + 2) (by omega) (by omega) dL_law_262 ?_
      refine lv_i2l (v := (xs (i + 2)).toInt64) hx hb dL_law_263 rfl ?_
      refine lv_bipush (v := nI 32) hx hb dL_law_264 (by decide) ?_
      refine lv_lshl (v := (xs (i + 2)).toInt64 <<< ((nI 32).toInt64 &&& 63)) hx hb dL_law_266 rfl ?_
      refine lv_aload_n hx hb dL_law_267 rfl (lv_at hl 0 rfl) ?_
      refine lv_iload_n hx hb dL_law_268 rfl (lv_at hl 3 rfl) ?_
      refine lv_iconst (v := nI 3) hx hb dL_law_269 (by decide) ?_
      refine wi_add hx hb dL_law_270 ?_
      refine ws_ld hx hb hX hbl hbA hS (i + 3) (by omega) (by omega) dL_law_271 ?_
      refine lv_i2l (v := (xs (i + 3)).toInt64) hx hb dL_law_272 rfl ?_
      refine lv_ldc2 (v := 4294967295) hx hb hown (hts (.constantLong RL 42 4294967295) (by decide +kernel)) dL_law_273 ?_
      refine lv_land hx hb dL_law_276 ?_
      refine lv_lor hx hb dL_law_277 ?_
      refine lv_topl (fun v1 ev1 => ?_)
      refine wd_calli (va_runV (As := [.int (xs (i + 1)), .long (v1)]) (rest := []) ⟨hx, hb, hml, hown, hts9⟩ (c_cut l hIc hv hn (xs (i + 1)) (v1)) (cwV 2 hts9 gL_law_X1_cut rfl rfl rfl (by decide +kernel) ⟨Nat.le_of_ble_eq_true rfl, Nat.le_of_ble_eq_true rfl⟩) (wd_pre (q := (RX1, TX1, 9)) (ci := ciT) hKc hPc (by omega) rfl cW_0) rfl rfl hl.1 rfl (lv_room (Nat.le_of_ble_eq_true rfl)) dL_law_278 ⟨by show cells + 0 ≤ 600000; omega, by show slots + 0 ≤ 7302250; omega⟩) hS hAc (fun r1 u1 H locs er1 hPc hz hk hS => ?_)
      have hPm := wl_keep hPm hk (fun k hk1 hz1 => by obtain ⟨j, hj, e1⟩ := hz1; exact hdj j hj k hk1 e1)
      refine lv_aload_n hx hb dL_law_281 rfl (lv_at hl 2 rfl) ?_
      refine lv_aload_n hx hb dL_law_282 rfl (lv_at hl 0 rfl) ?_
      refine lv_iload_n hx hb dL_law_283 rfl (lv_at hl 3 rfl) ?_
      refine lv_iconst (v := nI 1) hx hb dL_law_284 (by decide) ?_
      refine wi_add hx hb dL_law_285 ?_
      refine ws_ld hx hb hX hbl hbA hS (i + 1) (by omega) (by omega) dL_law_286 ?_
      refine lv_aload_n hx hb dL_law_287 rfl (lv_at hl 0 rfl) ?_
      refine lv_iload_n hx hb dL_law_288 rfl (lv_at hl 3 rfl) ?_
      refine lv_iconst (v := nI 2) hx hb dL_law_289 (by decide) ?_
      refine wi_add hx hb dL_law_290 ?_
      refine ws_ld hx hb hX hbl hbA hS (i + 2) (by omega) (by omega) dL_law_291 ?_
      refine lv_i2l (v := (xs (i + 2)).toInt64) hx hb dL_law_292 rfl ?_
      refine lv_bipush (v := nI 32) hx hb dL_law_293 (by decide) ?_
      refine lv_lshl (v := (xs (i + 2)).toInt64 <<< ((nI 32).toInt64 &&& 63)) hx hb dL_law_295 rfl ?_
      refine lv_aload_n hx hb dL_law_296 rfl (lv_at hl 0 rfl) ?_
      refine lv_iload_n hx hb dL_law_297 rfl (lv_at hl 3 rfl) ?_
      refine lv_iconst (v := nI 3) hx hb dL_law_298 (by decide) ?_
      refine wi_add hx hb dL_law_299 ?_
      refine ws_ld hx hb hX hbl hbA hS (i + 3) (by omega) (by omega) dL_law_300 ?_
      refine lv_i2l (v := (xs (i + 3)).toInt64) hx hb dL_law_301 rfl ?_
      refine lv_ldc2 (v := 4294967295) hx hb hown (hts (.constantLong RL 42 4294967295) (by decide +kernel)) dL_law_302 ?_
      refine lv_land hx hb dL_law_305 ?_
      refine lv_lor hx hb dL_law_306 ?_
      refine lv_topl (fun v2 ev2 => ?_)
      obtain rfl : v1 = v2 := by rw [ev1, ev2]
      refine wd_calli (va_runV (As := [.int (xs (i + 1)), .long (v1)]) (rest := [.int (r1)]) ⟨hx, hb, hml, hown, hts⟩ (m_cut l hIm hv hn (xs (i + 1)) (v1)) (cwV 2 hts gL_Y2_cut rfl rfl rfl (by decide +kernel) ⟨Nat.le_of_ble_eq_true rfl, Nat.le_of_ble_eq_true rfl⟩) (wd_pre (q := (RX2, TY2, 17)) (ci := ciM) hKm hPm (by omega) rfl mW_0) rfl rfl hl.1 rfl (lv_room (Nat.le_of_ble_eq_true rfl)) dL_law_307 ⟨by show cells + 0 ≤ 600000; omega, by show slots + 0 ≤ 7302250; omega⟩) hS hAm (fun r2 u2 H locs er2 hPm hz hk hS => ?_)
      have hPc := wl_keep hPc hk (fun k hk1 hz1 => by obtain ⟨j, hj, e1⟩ := hz1; exact hdj k hk1 j hj e1.symm)
      refine lv_icmp_eq (tgt := 430) hx hb dL_law_310 (by decide) (fun _ => ?_) (fun z => absurd (by rw [er1, er2]) z)
      refine lv_iinc (v := nI (i + 4)) (lv' := [(3, .int (nI (i + 4))), (0, .ref b), (1, .ref (adc 0)), (2, .ref (adm 0))]) hx hb dL_law_430 hl (k := 3) rfl (wi_inc4 _) (by decide) rfl (fun ls hl => ?_)
      refine lv_goto (tgt := 18) hx hb dL_law_433 (by decide) ?_
      exact ih (i + 4) ((f_cut σ (xs (i + 1)) (v1)).2) τ tr ρ (nI 0) adc n _ _ _ _ _ (by omega) (by omega) (ct_Inv_cutC hv (xs (i + 1)) (v1)) (by rw [nn_cut]; exact hn) hτ hρ hIc hAc hdj (by omega) (by omega) hPc hPm hS (lv_sub hl [1, 2, 3, 0] rfl)
    · refine lv_tableIn (off := 283) (tgt := 315) hx hb dL_law_32 (by decide) (by decide) (by decide) (by decide) ?_
      refine lv_aload_n hx hb dL_law_315 rfl (lv_at hl 1 rfl) ?_
      refine lv_aload_n hx hb dL_law_316 rfl (lv_at hl 0 rfl) ?_
      refine lv_iload_n hx hb dL_law_317 rfl (lv_at hl 3 rfl) ?_
      refine lv_iconst (v := nI 1) hx hb dL_law_318 (by decide) ?_
      refine wi_add hx hb dL_law_319 ?_
      refine ws_ld hx hb hX hbl hbA hS (i + 1) (by omega) (by omega) dL_law_320 ?_
      refine wd_calli (va_runV (As := [.int (xs (i + 1))]) (rest := []) ⟨hx, hb, hml, hown, hts9⟩ (c_interrupt l hIc hv hn (xs (i + 1))) (cwV 1 hts9 gL_law_X1_interrupt rfl rfl rfl (by decide +kernel) ⟨Nat.le_of_ble_eq_true rfl, Nat.le_of_ble_eq_true rfl⟩) (wd_pre (q := (RX1, TX1, 9)) (ci := ciT) hKc hPc (by omega) rfl cW_0) rfl rfl hl.1 rfl (lv_room (Nat.le_of_ble_eq_true rfl)) dL_law_321 ⟨by show cells + 0 ≤ 600000; omega, by show slots + 0 ≤ 7302250; omega⟩) hS hAc (fun r1 u1 H locs er1 hPc hz hk hS => ?_)
      have hPm := wl_keep hPm hk (fun k hk1 hz1 => by obtain ⟨j, hj, e1⟩ := hz1; exact hdj j hj k hk1 e1)
      refine lv_aload_n hx hb dL_law_324 rfl (lv_at hl 2 rfl) ?_
      refine lv_aload_n hx hb dL_law_325 rfl (lv_at hl 0 rfl) ?_
      refine lv_iload_n hx hb dL_law_326 rfl (lv_at hl 3 rfl) ?_
      refine lv_iconst (v := nI 1) hx hb dL_law_327 (by decide) ?_
      refine wi_add hx hb dL_law_328 ?_
      refine ws_ld hx hb hX hbl hbA hS (i + 1) (by omega) (by omega) dL_law_329 ?_
      refine wd_calli (va_runV (As := [.int (xs (i + 1))]) (rest := [.int (r1)]) ⟨hx, hb, hml, hown, hts⟩ (m_interrupt l hIm hv hn (xs (i + 1))) (cwV 1 hts gL_Y2_interrupt rfl rfl rfl (by decide +kernel) ⟨Nat.le_of_ble_eq_true rfl, Nat.le_of_ble_eq_true rfl⟩) (wd_pre (q := (RX2, TY2, 17)) (ci := ciM) hKm hPm (by omega) rfl mW_0) rfl rfl hl.1 rfl (lv_room (Nat.le_of_ble_eq_true rfl)) dL_law_330 ⟨by show cells + 0 ≤ 600000; omega, by show slots + 0 ≤ 7302250; omega⟩) hS hAm (fun r2 u2 H locs er2 hPm hz hk hS => ?_)
      have hPc := wl_keep hPc hk (fun k hk1 hz1 => by obtain ⟨j, hj, e1⟩ := hz1; exact hdj k hk1 j hj e1.symm)
      refine lv_icmp_eq (tgt := 430) hx hb dL_law_333 (by decide) (fun _ => ?_) (fun z => absurd (by rw [er1, er2]) z)
      refine lv_iinc (v := nI (i + 4)) (lv' := [(3, .int (nI (i + 4))), (0, .ref b), (1, .ref (adc 0)), (2, .ref (adm 0))]) hx hb dL_law_430 hl (k := 3) rfl (wi_inc4 _) (by decide) rfl (fun ls hl => ?_)
      refine lv_goto (tgt := 18) hx hb dL_law_433 (by decide) ?_
      exact ih (i + 4) ((f_int σ (xs (i + 1))).2) τ tr ρ (nI 0) adc n _ _ _ _ _ (by omega) (by omega) (ct_Inv_int hv (xs (i + 1))) (by rw [nn_int]; exact hn) hτ hρ hIc hAc hdj (by omega) (by omega) hPc hPm hS (lv_sub hl [1, 2, 3, 0] rfl)
    · refine lv_tableIn (off := 306) (tgt := 338) hx hb dL_law_32 (by decide) (by decide) (by decide) (by decide) ?_
      refine lv_aload_n hx hb dL_law_338 rfl (lv_at hl 1 rfl) ?_
      refine lv_aload_n hx hb dL_law_339 rfl (lv_at hl 0 rfl) ?_
      refine lv_iload_n hx hb dL_law_340 rfl (lv_at hl 3 rfl) ?_
      refine lv_iconst (v := nI 1) hx hb dL_law_341 (by decide) ?_
      refine wi_add hx hb dL_law_342 ?_
      refine ws_ld hx hb hX hbl hbA hS (i + 1) (by omega) (by omega) dL_law_343 ?_
      refine lv_aload_n hx hb dL_law_344 rfl (lv_at hl 0 rfl) ?_
      refine lv_iload_n hx hb dL_law_345 rfl (lv_at hl 3 rfl) ?_
      refine lv_iconst (v := nI 2) hx hb dL_law_346 (by decide) ?_
      refine wi_add hx hb dL_law_347 ?_
      refine ws_ld hx hb hX hbl hbA hS (i + 2) (by omega) (by omega) dL_law_348 ?_
      refine wd_calli (va_runV (As := [.int (xs (i + 1)), .int (xs (i + 2))]) (rest := []) ⟨hx, hb, hml, hown, hts9⟩ (c_held l hIc hv hn (xs (i + 1)) (xs (i + 2))) (cwV 2 hts9 gL_law_X1_held rfl rfl rfl (by decide +kernel) ⟨Nat.le_of_ble_eq_true rfl, Nat.le_of_ble_eq_true rfl⟩) (wd_pre (q := (RX1, TX1, 9)) (ci := ciT) hKc hPc (by omega) rfl cW_0) rfl rfl hl.1 rfl (lv_room (Nat.le_of_ble_eq_true rfl)) dL_law_349 ⟨by show cells + 0 ≤ 600000; omega, by show slots + 0 ≤ 7302250; omega⟩) hS hAc (fun r1 u1 H locs er1 hPc hz hk hS => ?_)
      have hPm := wl_keep hPm hk (fun k hk1 hz1 => by obtain ⟨j, hj, e1⟩ := hz1; exact hdj j hj k hk1 e1)
      refine lv_aload_n hx hb dL_law_352 rfl (lv_at hl 2 rfl) ?_
      refine lv_aload_n hx hb dL_law_353 rfl (lv_at hl 0 rfl) ?_
      refine lv_iload_n hx hb dL_law_354 rfl (lv_at hl 3 rfl) ?_
      refine lv_iconst (v := nI 1) hx hb dL_law_355 (by decide) ?_
      refine wi_add hx hb dL_law_356 ?_
      refine ws_ld hx hb hX hbl hbA hS (i + 1) (by omega) (by omega) dL_law_357 ?_
      refine lv_aload_n hx hb dL_law_358 rfl (lv_at hl 0 rfl) ?_
      refine lv_iload_n hx hb dL_law_359 rfl (lv_at hl 3 rfl) ?_
      refine lv_iconst (v := nI 2) hx hb dL_law_360 (by decide) ?_
      refine wi_add hx hb dL_law_361 ?_
      refine ws_ld hx hb hX hbl hbA hS (i + 2) (by omega) (by omega) dL_law_362 ?_
      refine wd_calli (va_runV (As := [.int (xs (i + 1)), .int (xs (i + 2))]) (rest := [.int (r1)]) ⟨hx, hb, hml, hown, hts⟩ (m_held l hIm hv hn (xs (i + 1)) (xs (i + 2))) (cwV 2 hts gL_Y2_held rfl rfl rfl (by decide +kernel) ⟨Nat.le_of_ble_eq_true rfl, Nat.le_of_ble_eq_true rfl⟩) (wd_pre (q := (RX2, TY2, 17)) (ci := ciM) hKm hPm (by omega) rfl mW_0) rfl rfl hl.1 rfl (lv_room (Nat.le_of_ble_eq_true rfl)) dL_law_363 ⟨by show cells + 0 ≤ 600000; omega, by show slots + 0 ≤ 7302250; omega⟩) hS hAm (fun r2 u2 H locs er2 hPm hz hk hS => ?_)
      have hPc := wl_keep hPc hk (fun k hk1 hz1 => by obtain ⟨j, hj, e1⟩ := hz1; exact hdj k hk1 j hj e1.symm)
      refine lv_icmp_eq (tgt := 430) hx hb dL_law_366 (by decide) (fun _ => ?_) (fun z => absurd (by rw [er1, er2]) z)
      refine lv_iinc (v := nI (i + 4)) (lv' := [(3, .int (nI (i + 4))), (0, .ref b), (1, .ref (adc 0)), (2, .ref (adm 0))]) hx hb dL_law_430 hl (k := 3) rfl (wi_inc4 _) (by decide) rfl (fun ls hl => ?_)
      refine lv_goto (tgt := 18) hx hb dL_law_433 (by decide) ?_
      exact ih (i + 4) ((f_held σ (xs (i + 1)) (xs (i + 2))).2) τ tr ρ (nI 0) adc n _ _ _ _ _ (by omega) (by omega) (ct_Inv_held hv (xs (i + 1)) (xs (i + 2))) (by rw [nn_held]; exact hn) hτ hρ hIc hAc hdj (by omega) (by omega) hPc hPm hS (lv_sub hl [1, 2, 3, 0] rfl)
    · refine lv_tableIn (off := 339) (tgt := 371) hx hb dL_law_32 (by decide) (by decide) (by decide) (by decide) ?_
      refine lv_aload_n hx hb dL_law_371 rfl (lv_at hl 1 rfl) ?_
      refine lv_aload_n hx hb dL_law_372 rfl (lv_at hl 0 rfl) ?_
      refine lv_iload_n hx hb dL_law_373 rfl (lv_at hl 3 rfl) ?_
      refine lv_iconst (v := nI 1) hx hb dL_law_374 (by decide) ?_
      refine wi_add hx hb dL_law_375 ?_
      refine ws_ld hx hb hX hbl hbA hS (i + 1) (by omega) (by omega) dL_law_376 ?_
      refine wd_calli (va_runV (As := [.int (xs (i + 1))]) (rest := []) ⟨hx, hb, hml, hown, hts9⟩ (c_barrier l hIc hv hn (xs (i + 1))) (cwV 1 hts9 gL_law_X1_barrier rfl rfl rfl (by decide +kernel) ⟨Nat.le_of_ble_eq_true rfl, Nat.le_of_ble_eq_true rfl⟩) (wd_pre (q := (RX1, TX1, 9)) (ci := ciT) hKc hPc (by omega) rfl cW_0) rfl rfl hl.1 rfl (lv_room (Nat.le_of_ble_eq_true rfl)) dL_law_377 ⟨by show cells + 0 ≤ 600000; omega, by show slots + 0 ≤ 7302250; omega⟩) hS hAc (fun r1 u1 H locs er1 hPc hz hk hS => ?_)
      have hPm := wl_keep hPm hk (fun k hk1 hz1 => by obtain ⟨j, hj, e1⟩ := hz1; exact hdj j hj k hk1 e1)
      refine lv_aload_n hx hb dL_law_380 rfl (lv_at hl 2 rfl) ?_
      refine lv_aload_n hx hb dL_law_381 rfl (lv_at hl 0 rfl) ?_
      refine lv_iload_n hx hb dL_law_382 rfl (lv_at hl 3 rfl) ?_
      refine lv_iconst (v := nI 1) hx hb dL_law_383 (by decide) ?_
      refine wi_add hx hb dL_law_384 ?_
      refine ws_ld hx hb hX hbl hbA hS (i + 1) (by omega) (by omega) dL_law_385 ?_
      refine wd_calli (va_runV (As := [.int (xs (i + 1))]) (rest := [.int (r1)]) ⟨hx, hb, hml, hown, hts⟩ (m_barrier l hIm hv hn (xs (i + 1))) (cwV 1 hts gL_Y2_barrier rfl rfl rfl (by decide +kernel) ⟨Nat.le_of_ble_eq_true rfl, Nat.le_of_ble_eq_true rfl⟩) (wd_pre (q := (RX2, TY2, 17)) (ci := ciM) hKm hPm (by omega) rfl mW_0) rfl rfl hl.1 rfl (lv_room (Nat.le_of_ble_eq_true rfl)) dL_law_386 ⟨by show cells + 0 ≤ 600000; omega, by show slots + 0 ≤ 7302250; omega⟩) hS hAm (fun r2 u2 H locs er2 hPm hz hk hS => ?_)
      have hPc := wl_keep hPc hk (fun k hk1 hz1 => by obtain ⟨j, hj, e1⟩ := hz1; exact hdj k hk1 j hj e1.symm)
      refine lv_icmp_eq (tgt := 430) hx hb dL_law_389 (by decide) (fun _ => ?_) (fun z => absurd (by rw [er1, er2]) z)
      refine lv_iinc (v := nI (i + 4)) (lv' := [(3, .int (nI (i + 4))), (0, .ref b), (1, .ref (adc 0)), (2, .ref (adm 0))]) hx hb dL_law_430 hl (k := 3) rfl (wi_inc4 _) (by decide) rfl (fun ls hl => ?_)
      refine lv_goto (tgt := 18) hx hb dL_law_433 (by decide) ?_
      exact ih (i + 4) ((f_bar σ (xs (i + 1))).2) τ tr ρ (nI 0) adc n _ _ _ _ _ (by omega) (by omega) (ct_Inv_bar hv (xs (i + 1))) (by rw [nn_bar]; exact hn) hτ hρ hIc hAc hdj (by omega) (by omega) hPc hPm hS (lv_sub hl [1, 2, 3, 0] rfl)
    · refine lv_tableIn (off := 362) (tgt := 394) hx hb dL_law_32 (by decide) (by decide) (by decide) (by decide) ?_
      refine lv_aload_n hx hb dL_law_394 rfl (lv_at hl 1 rfl) ?_
      refine lv_aload_n hx hb dL_law_395 rfl (lv_at hl 0 rfl) ?_
      refine lv_iload_n hx hb dL_law_396 rfl (lv_at hl 3 rfl) ?_
      refine lv_iconst (v := nI 1) hx hb dL_law_397 (by decide) ?_
      refine wi_add hx hb dL_law_398 ?_
      refine ws_ld hx hb hX hbl hbA hS (i + 1) (by omega) (by omega) dL_law_399 ?_
      refine vp_callSi (W.runV (As := [.int (xs (i + 1))]) (rest := []) ⟨hx, hb, hml, hown, hts9⟩ (c_finished l hIc hv hn (xs (i + 1))) (cwV 1 hts9 gL_law_X1_finished rfl rfl rfl (by decide +kernel) ⟨Nat.le_of_ble_eq_true rfl, Nat.le_of_ble_eq_true rfl⟩) (wd_pre (q := (RX1, TX1, 9)) (ci := ciT) hKc hPc (by omega) rfl cW_0) rfl rfl hl.1 rfl (lv_room (Nat.le_of_ble_eq_true rfl)) dL_law_400 ⟨by show cells + 0 ≤ 600000; omega, by show slots + 0 ≤ 7302250; omega⟩) (fun r1 er1 => ?_)
      refine lv_aload_n hx hb dL_law_403 rfl (lv_at hl 2 rfl) ?_
      refine lv_aload_n hx hb dL_law_404 rfl (lv_at hl 0 rfl) ?_
      refine lv_iload_n hx hb dL_law_405 rfl (lv_at hl 3 rfl) ?_
      refine lv_iconst (v := nI 1) hx hb dL_law_406 (by decide) ?_
      refine wi_add hx hb dL_law_407 ?_
      refine ws_ld hx hb hX hbl hbA hS (i + 1) (by omega) (by omega) dL_law_408 ?_
      refine wd_calli (va_runV (As := [.int (xs (i + 1))]) (rest := [.int (r1)]) ⟨hx, hb, hml, hown, hts⟩ (m_finished l hIm hv hn (xs (i + 1))) (cwV 1 hts gL_Y2_finished rfl rfl rfl (by decide +kernel) ⟨Nat.le_of_ble_eq_true rfl, Nat.le_of_ble_eq_true rfl⟩) (wd_pre (q := (RX2, TY2, 17)) (ci := ciM) hKm hPm (by omega) rfl mW_0) rfl rfl hl.1 rfl (lv_room (Nat.le_of_ble_eq_true rfl)) dL_law_409 ⟨by show cells + 0 ≤ 600000; omega, by show slots + 0 ≤ 7302250; omega⟩) hS hAm (fun r2 u2 H locs er2 hPm hz hk hS => ?_)
      have hPc := wl_keep hPc hk (fun k hk1 hz1 => by obtain ⟨j, hj, e1⟩ := hz1; exact hdj k hk1 j hj e1.symm)
      refine lv_icmp_eq (tgt := 430) hx hb dL_law_412 (by decide) (fun _ => ?_) (fun z => absurd (by rw [er1, er2]) z)
      refine lv_iinc (v := nI (i + 4)) (lv' := [(3, .int (nI (i + 4))), (0, .ref b), (1, .ref (adc 0)), (2, .ref (adm 0))]) hx hb dL_law_430 hl (k := 3) rfl (wi_inc4 _) (by decide) rfl (fun ls hl => ?_)
      refine lv_goto (tgt := 18) hx hb dL_law_433 (by decide) ?_
      exact ih (i + 4) σ τ tr ρ (nI 0) adc n _ _ _ _ _ (by omega) (by omega) hv hn hτ hρ hIc hAc hdj (by omega) (by omega) hPc hPm hS (lv_sub hl [1, 2, 3, 0] rfl)
    · refine lv_tableIn (off := 385) (tgt := 417) hx hb dL_law_32 (by decide) (by decide) (by decide) (by decide) ?_
      refine lv_aload_n hx hb dL_law_417 rfl (lv_at hl 1 rfl) ?_
      refine wd_calli (va_runV (As := []) (rest := []) ⟨hx, hb, hml, hown, hts9⟩ (c_close l hIc hv hn) (cwV 0 hts9 gL_law_X1_close rfl rfl rfl (by decide +kernel) ⟨Nat.le_of_ble_eq_true rfl, Nat.le_of_ble_eq_true rfl⟩) (wd_pre (q := (RX1, TX1, 9)) (ci := ciT) hKc hPc (by omega) rfl cW_0) rfl rfl hl.1 rfl (lv_room (Nat.le_of_ble_eq_true rfl)) dL_law_418 ⟨by show cells + 0 ≤ 600000; omega, by show slots + 0 ≤ 7302250; omega⟩) hS hAc (fun r1 u1 H locs er1 hPc hz hk hS => ?_)
      have hPm := wl_keep hPm hk (fun k hk1 hz1 => by obtain ⟨j, hj, e1⟩ := hz1; exact hdj j hj k hk1 e1)
      refine lv_aload_n hx hb dL_law_421 rfl (lv_at hl 2 rfl) ?_
      refine wd_calli (va_runV (As := []) (rest := [.int (r1)]) ⟨hx, hb, hml, hown, hts⟩ (m_close l hIm hv hn) (cwV 0 hts gL_Y2_close rfl rfl rfl (by decide +kernel) ⟨Nat.le_of_ble_eq_true rfl, Nat.le_of_ble_eq_true rfl⟩) (wd_pre (q := (RX2, TY2, 17)) (ci := ciM) hKm hPm (by omega) rfl mW_0) rfl rfl hl.1 rfl (lv_room (Nat.le_of_ble_eq_true rfl)) dL_law_422 ⟨by show cells + 0 ≤ 600000; omega, by show slots + 0 ≤ 7302250; omega⟩) hS hAm (fun r2 u2 H locs er2 hPm hz hk hS => ?_)
      have hPc := wl_keep hPc hk (fun k hk1 hz1 => by obtain ⟨j, hj, e1⟩ := hz1; exact hdj k hk1 j hj e1.symm)
      refine lv_icmp_eq (tgt := 430) hx hb dL_law_425 (by decide) (fun _ => ?_) (fun z => absurd (by rw [er1, er2]) z)
      refine lv_iinc (v := nI (i + 4)) (lv' := [(3, .int (nI (i + 4))), (0, .ref b), (1, .ref (adc 0)), (2, .ref (adm 0))]) hx hb dL_law_430 hl (k := 3) rfl (wi_inc4 _) (by decide) rfl (fun ls hl => ?_)
      refine lv_goto (tgt := 18) hx hb dL_law_433 (by decide) ?_
      exact ih (i + 4) ((ct_close σ n).2) τ tr ρ (nI 0) adc n _ _ _ _ _ (by omega) (by omega) (ct_Inv_close hv n (by omega)) (by rw [ct_close_n]; exact hn) hτ hρ hIc hAc hdj (by omega) (by omega) hPc hPm hS (lv_sub hl [1, 2, 3, 0] rfl)
    · refine lv_tableOut (tgt := 430) hx hb dL_law_32 (Or.inr (by rw [nI_toInt (by omega)]; omega)) (by decide) ?_
      refine lv_iinc (v := nI (i + 4)) (lv' := [(3, .int (nI (i + 4))), (0, .ref b), (1, .ref (adc 0)), (2, .ref (adm 0))]) hx hb dL_law_430 hl (k := 3) rfl (wi_inc4 _) (by decide) rfl (fun ls hl => ?_)
      refine lv_goto (tgt := 18) hx hb dL_law_433 (by decide) ?_
      exact ih (i + 4) σ τ tr ρ cd adc n _ _ _ _ _ (by omega) (by omega) hv hn hτ hρ hIc hAc hdj (by omega) (by omega) hPc hPm hS (lv_sub hl [1, 2, 3, 0] rfl)
