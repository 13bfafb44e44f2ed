section P65
abbrev rm_c_node : Room := { frames := 2, cells := 2, slots := 213, locals := 35 }
def qN (D : va_G) (cN cI : ClassId) (ad : Nat → Nat) (σ : St) (tr : Nat → Int32) (n sz : Nat) (x y : Int32) : Array Value → State → Outcome → State → Prop := va_Qi (fun r (u : (Nat → Nat) × (Nat → Nat → Nat)) => r = (f_node σ x y).1 ∧ tK u.2 ∧ u.1 0 = ad 0 ∧ adI u.1 (5 + 2 * (f_node σ x y).2.1 0 0) ∧ ∀ k, k < 5 + 2 * (f_node σ x y).2.1 0 0 → (k < 5 + 2 * n ∧ u.1 k = ad k) ∨ sz ≤ u.1 k) (fun u t => va_P D wCl (wl u.1 (cW cN cI u.1 (f_node σ x y).2 u.2 tr) (5 + 2 * (f_node σ x y).2.1 0 0)) t.heap) (nA ad n sz)
set_option maxHeartbeats 1000000 in
set_option maxRecDepth 100000 in
theorem c_node (l : Launch) {D : va_G} {cN cI : ClassId} {ad : Nat → Nat} {σ : St} {τ : Nat → Nat → Nat} {tr : Nat → Int32} {n : Nat} (hI : adI ad (5 + 2 * n)) (hv : ct_Inv σ) (hn : σ.1 0 0 = n) (hτ : tK τ) (sz : Nat) (x y : Int32) : Met l yX1_node wsX1_node rm_c_node (va_Pc [.ref (ad 0), .int x, .int y] (fun U => U.heap.size = sz ∧ va_P D wCl (wl ad (cW cN cI ad σ τ tr) (5 + 2 * n)) U.heap ∧ va_K D wCl (tyC cN cI) U ∧ va_AO RX0 U)) (qN D cN cI ad σ tr n sz x y) 2 213 (nA ad n sz) := by
  refine Met.go (cc := cX1_node) (maxL := 3) (ret := some .int) (by decide) rfl (Nat.le_of_ble_eq_true rfl) ?_
  intro p e s m below meth c ls args Q ⟨hx, hb, hml, hown, hts⟩ hr hlocks hnm ⟨hsz, hP, hK, hO⟩ hl hQ
  have hl : lv_has ls 3 [(0, .ref (ad 0)), (1, .int (x)), (2, .int (y))] := hl
  subst hsz
  have hS : va_S (nA ad n s.heap.size) s.heap s.heap [] := va_S.rf
  have hn30 : n ≤ 30 := by have := hv.1.1; omega
  refine lv_iload_n hx hb dX1_node_0 rfl (lv_at hl 1 rfl) ?_
  refine lv_iconst (v := nI 1) hx hb dX1_node_1 (by decide) ?_
  refine lv_icmp_lt (tgt := 21) hx hb dX1_node_2 (by decide) (fun c2 => ?_) (fun c2 => ?_)
  · refine lv_bipush (v := (-2)) hx hb dX1_node_21 (by decide) ?_
    have hF : f_node σ x y = ((-2), σ) := by unfold f_node; rw [if_pos (show x < 1 ∨ 200 < x ∨ y < 0 ∨ x < y from Or.inl c2)]
    refine W.widen (k := 2) (n := 213) (by omega) (by omega) ?_
    subst hQ
    exact W.iret hx hb hr (fun t ht hW => ⟨⟨_, (ad, τ), rfl, ⟨by rw [hF], hτ, rfl, by rw [hF, hn]; exact hI, fun k hk => Or.inl ⟨by rw [hF, hn] at hk; exact hk, rfl⟩⟩, by rw [hF]; show va_P D wCl (wl ad (cW cN cI ad σ τ tr) (5 + 2 * σ.1 0 0)) t.heap; rw [hn, ht]; exact hP⟩, hS.F ht⟩) hS.2.2 dX1_node_23 hlocks
  · refine lv_iload_n hx hb dX1_node_5 rfl (lv_at hl 1 rfl) ?_
    refine lv_sipush (v := nI 200) hx hb dX1_node_6 (by decide) ?_
    refine lv_icmp_gt (tgt := 21) hx hb dX1_node_9 (by decide) (fun c9 => ?_) (fun c9 => ?_)
    · refine lv_bipush (v := (-2)) hx hb dX1_node_21 (by decide) ?_
      have hF : f_node σ x y = ((-2), σ) := by unfold f_node; rw [if_pos (show x < 1 ∨ 200 < x ∨ y < 0 ∨ x < y from Or.inr (Or.inl c9))]
      refine W.widen (k := 2) (n := 213) (by omega) (by omega) ?_
      subst hQ
      exact W.iret hx hb hr (fun t ht hW => ⟨⟨_, (ad, τ), rfl, ⟨by rw [hF], hτ, rfl, by rw [hF, hn]; exact hI, fun k hk => Or.inl ⟨by rw [hF, hn] at hk; exact hk, rfl⟩⟩, by rw [hF]; show va_P D wCl (wl ad (cW cN cI ad σ τ tr) (5 + 2 * σ.1 0 0)) t.heap; rw [hn, ht]; exact hP⟩, hS.F ht⟩) hS.2.2 dX1_node_23 hlocks
    · refine lv_iload_n hx hb dX1_node_12 rfl (lv_at hl 2 rfl) ?_
      refine lv_if_lt (tgt := 21) hx hb dX1_node_13 (by decide) (fun c13 => ?_) (fun c13 => ?_)
      · refine lv_bipush (v := (-2)) hx hb dX1_node_21 (by decide) ?_
        have hF : f_node σ x y = ((-2), σ) := by unfold f_node; rw [if_pos (show x < 1 ∨ 200 < x ∨ y < 0 ∨ x < y from Or.inr (Or.inr (Or.inl c13)))]
        refine W.widen (k := 2) (n := 213) (by omega) (by omega) ?_
        subst hQ
        exact W.iret hx hb hr (fun t ht hW => ⟨⟨_, (ad, τ), rfl, ⟨by rw [hF], hτ, rfl, by rw [hF, hn]; exact hI, fun k hk => Or.inl ⟨by rw [hF, hn] at hk; exact hk, rfl⟩⟩, by rw [hF]; show va_P D wCl (wl ad (cW cN cI ad σ τ tr) (5 + 2 * σ.1 0 0)) t.heap; rw [hn, ht]; exact hP⟩, hS.F ht⟩) hS.2.2 dX1_node_23 hlocks
      · refine lv_iload_n hx hb dX1_node_16 rfl (lv_at hl 2 rfl) ?_
        refine lv_iload_n hx hb dX1_node_17 rfl (lv_at hl 1 rfl) ?_
        refine lv_icmp_le (tgt := 24) hx hb dX1_node_18 (by decide) (fun c18 => ?_) (fun c18 => ?_)
        · obtain ⟨a, rfl, ha1, ha2, ha3⟩ := ct_nat (x := x) (lo := 1) (hi := 200) (by omega) (by omega) c2 c9
          obtain ⟨b, rfl, hb1, hb2, hb3⟩ := ct_nat (x := y) (lo := 0) (hi := a) (by omega) (by omega) c13 (Int32.not_lt.mpr c18)
          refine lv_aload_n hx hb dX1_node_24 rfl (lv_at hl 0 rfl) ?_
          refine wd_get (C := RX1) (T := TX1) (n := 9) (ci := ciT) (v := .int (nI (σ.1 0 0))) hx hb hts (by decide +kernel) hown hK hP (0) (by omega) cW_0 rfl 1 (by decide) (hts (.fieldLink RX1 25 "CarThreads" "nodeCount" "I") (by decide +kernel)) (fun _ h9 => h9) (by first | rfl | simp [cw_nd, cw_ob, mw_ob, ct_sg, ct_sl, tu]) dX1_node_25 ?_
          refine lv_bipush (v := nI 30) hx hb dX1_node_28 (by decide) ?_
          refine wi_icmp_lt (tgt := 36) hx hb (by omega) (by omega) dX1_node_30 (by decide) (fun c30 => ?_) (fun c30 => ?_)
          · refine lv_aload_n hx hb dX1_node_36 rfl (lv_at hl 0 rfl) ?_
            refine wd_get (C := RX1) (T := TX1) (n := 9) (ci := ciT) (v := .ref (ad 1)) hx hb hts (by decide +kernel) hown hK hP (0) (by omega) cW_0 rfl 0 (by decide) (hts (.fieldLink RX1 11 "CarThreads" "nodes" "[LCarThreads$Node;") (by decide +kernel)) (fun _ h9 => h9) (by first | rfl | simp [cw_nd, cw_ob, mw_ob, ct_sg, ct_sl, tu]) dX1_node_37 ?_
            refine lv_aload_n hx hb dX1_node_40 rfl (lv_at hl 0 rfl) ?_
            refine wd_get (C := RX1) (T := TX1) (n := 9) (ci := ciT) (v := .int (nI (σ.1 0 0))) hx hb hts (by decide +kernel) hown hK hP (0) (by omega) cW_0 rfl 1 (by decide) (hts (.fieldLink RX1 25 "CarThreads" "nodeCount" "I") (by decide +kernel)) (fun _ h9 => h9) (by first | rfl | simp [cw_nd, cw_ob, mw_ob, ct_sg, ct_sl, tu]) dX1_node_41 ?_
            have hF : f_node σ (nI a) (nI b) = (nI (σ.1 0 0 + 1), ct_new σ a b) := by unfold f_node; rw [if_neg (fun q => by rcases q with q | q | q | q <;> first | exact c2 q | exact c9 q | exact c13 q | exact (Int32.not_lt.mpr c18) q), if_neg (by omega), ha3, hb3]
            have hn29 : n < 30 := by omega
            have hA : ∀ q : Nat, s.heap.size ≤ q → nA ad n s.heap.size q := fun q h => Or.inr h
            have hD : va_D (nA ad n s.heap.size) (wl ad (cW cN cI ad σ τ tr) (5 + 2 * n)) := wl_D hI (fun k hk => Or.inl (wA_in hk))
            refine va_new (ci := 0) (fs := [.int 0, .int 0, .int 0, .null, .int 0, .int 0, .int 0, .int 0, .int 0, .int 0, .int 0, .long 0]) (C := RX0) (T := TX0) (N := 12) hx hb hts (by decide +kernel) tyX0 tyX0_ok hown (hts (.classLink RX1 9 RX0) (by decide +kernel)) (hts (.instantiable RX0 12) (by decide +kernel)) (hts (.initialized RX0) (by decide +kernel)) hK hP hD hS hA rfl (fun j hj => by rcases (show j = 0 ∨ j = 1 ∨ j = 2 ∨ j = 3 ∨ j = 4 ∨ j = 5 ∨ j = 6 ∨ j = 7 ∨ j = 8 ∨ j = 9 ∨ j = 10 ∨ j = 11 by omega) with rfl | rfl | rfl | rfl | rfl | rfl | rfl | rfl | rfl | rfl | rfl | rfl <;> rfl) (by show _ ≤ 2; omega) (by show _ ≤ 213; omega) dX1_node_44 (fun q H hP1 hD1 hS => ?_)
            refine W.widen (k := 1) (n := 12) (by omega) (by omega) ?_
            refine lv_dup hx hb dX1_node_47 rfl ?_
            have hPm : va_P D wCl (wl ad (cW cN cI ad σ τ tr) (5 + 2 * n)) H := fun k p hk => hP1 k p (by rw [List.getElem?_append_left (List.getElem?_eq_some_iff.mp hk).1]; exact hk)
            refine lv_aload_n hx hb dX1_node_48 rfl (lv_at hl 0 rfl) ?_
            refine wd_get (C := RX1) (T := TX1) (n := 9) (ci := ciT) (v := .int (nI (σ.1 0 0))) hx hb hts (by decide +kernel) hown hK hPm 0 (by omega) cW_0 rfl 1 (by decide) (hts (.fieldLink RX1 25 "CarThreads" "nodeCount" "I") (by decide +kernel)) (fun _ h9 => h9) rfl dX1_node_49 ?_
            refine lv_iconst (v := nI 1) hx hb dX1_node_52 (by decide) ?_
            refine wi_add hx hb dX1_node_53 ?_
            refine lv_iload_n hx hb dX1_node_54 rfl (lv_at hl 1 rfl) ?_
            refine lv_iload_n hx hb dX1_node_55 rfl (lv_at hl 2 rfl) ?_
            have hPq : va_P D wCl [(q, .inr (0, [.int 0, .int 0, .int 0, .null, .int 0, .int 0, .int 0, .int 0, .int 0, .int 0, .int 0, .long 0]))] H := fun k p hk => hP1 (5 + 2 * n + k) p (by rw [List.getElem?_append_right (by rw [wl_len]; omega), wl_len, Nat.add_sub_cancel_left]; exact hk)
            have hqn : ∀ k, k < 5 + 2 * n → ad k ≠ q := fun k hk e1 => by
              have := hD1.1 k (5 + 2 * n) _ _ (by rw [List.getElem?_append_left (by rw [wl_len]; exact hk)]; exact wl_at hk) (by rw [List.getElem?_append_right (by rw [wl_len]; omega), wl_len, Nat.sub_self]; rfl) e1
              omega
            have hqA : nA ad n s.heap.size q := hD1.2 (5 + 2 * n) _ (by rw [List.getElem?_append_right (by rw [wl_len]; omega), wl_len, Nat.sub_self]; rfl)
            have hqs : s.heap.size ≤ q := by
              rcases hqA with ⟨k, hk, e1⟩ | z
              · exact absurd e1 (hqn k hk)
              · exact z
            have hK0 := hK.sub (tys' := []) [] rfl
            have hFc : ∀ z, va_A [(q, .inr (0, [.int 0, .int 0, .int 0, .null, .int 0, .int 0, .int 0, .int 0, .int 0, .int 0, .int 0, .long 0]))] H.size z → nA ad n s.heap.size z := by
              intro z hz
              rcases hz with ⟨k, e1, hk⟩ | hz
              · have hz0 : k < 1 := (List.getElem?_eq_some_iff.mp hk).1
                rw [show k = 0 by omega] at hk
                cases hk
                exact hqA
              · exact Or.inr (Nat.le_trans hS.1 hz)
            refine va_callv (va_runI (As := [.int (nI (σ.1 0 0 + 1)), .int (nI a), .int (nI b)]) (rest := [.ref q, .int (nI (σ.1 0 0)), .ref (ad 1)]) ⟨hx, hb, hml, hown, hts⟩ (c_Node l q H.size (σ.1 0 0 + 1) a b (by omega)) (cwI 3 hts gX1_node_X0_init rfl rfl rfl (hts (.initialized RX0) (by decide +kernel)) (hts (.methodLink RX1 29 yX0_init) (by decide +kernel)) (hts (.instanceMethod yX0_init) (by decide +kernel)) rfl (by decide +kernel) ⟨Nat.le_of_ble_eq_true rfl, Nat.le_of_ble_eq_true rfl⟩) ⟨fun a U g mk q => by obtain ⟨q0, q1, qP, qK, qO⟩ := q; exact ⟨q0, q1, qP, va_K.moved (u := U) (U := U.calling g mk a) (Vm.Alike.refl U.vm) qK, va_AO.moved (u := U) (U := U.calling g mk a) (Vm.Alike.refl U.vm) qO⟩, fun U hU hW => ⟨rfl, by rw [hU], by rw [hU]; exact hPq, va_K.moved hW.alike hK0, va_AO.moved hW.alike hO⟩⟩ rfl rfl hl.1 rfl (lv_room (Nat.le_of_ble_eq_true rfl)) dX1_node_56 ⟨by show 1 + 1 ≤ 2; omega, by show 12 + 201 ≤ 213; omega⟩) hS (fun z _ hz => hFc z hz) hFc (fun u t H2 locs ht hvm _ hB hz2 hk2 hS => ?_)
            obtain ⟨q2, cA⟩ := u
            obtain ⟨hB1, hB2, hB3⟩ := hB
            have hB2 := va_K.moved hvm.symm hB2
            obtain rfl : cN = cA := ra_obj (hK.2 0 _ rfl).2 (hB2.2 0 _ rfl).2
            rw [ht, hn] at hB1
            refine W.widen (k := 2) (n := 213) (by omega) (by omega) ?_
            have hPm2 : va_P D wCl (wl ad (cW cN cI ad σ τ tr) (5 + 2 * n)) H2 := wl_keep hPm hk2 (fun k hk hz => by
              rcases hz with ⟨j, e1, hj⟩ | hz
              · have hz0 : j < 1 := (List.getElem?_eq_some_iff.mp hj).1
                rw [show j = 0 by omega] at hj
                exact hqn k hk (congrArg Prod.fst (Option.some.inj hj)).symm
              · have := wl_lt hPm hk
                omega)
            have hq2 : H.size ≤ q2 := by
              rcases hB3.2 1 _ rfl with ⟨j, e1, hj⟩ | hz
              · have hz0 : j < 1 := (List.getElem?_eq_some_iff.mp hj).1
                rw [show j = 0 by omega] at hj
                have e2 : q = q2 := congrArg Prod.fst (Option.some.inj hj)
                have := hB3.1 0 1 _ _ rfl rfl e2
                omega
              · exact hz
            have hP : va_P D wCl (wl (ad2 ad n q q2) (nK cN (cW cN cI ad σ τ tr) n a b q2) (5 + 2 * (n + 1))) H2 := by
              rw [show 5 + 2 * (n + 1) = 5 + 2 * n + 1 + 1 by omega, nK_w, List.append_assoc]
              exact hPm2.app hB1
            have hqH : q < H.size := (hPq 0 _ rfl).lt
            have hI2 : adI (ad2 ad n q q2) (5 + 2 * (n + 1)) := by
              have key : ∀ k, k < 5 + 2 * (n + 1) → (k < 5 + 2 * n ∧ ad2 ad n q q2 k = ad k ∧ ad k < H.size ∧ ad k ≠ q) ∨ (k = 5 + 2 * n ∧ ad2 ad n q q2 k = q) ∨ (k = 5 + 2 * n + 1 ∧ ad2 ad n q q2 k = q2) := by
                intro k hk
                by_cases z : k < 5 + 2 * n
                · exact Or.inl ⟨z, ad2_lo z, wl_lt hPm z, hqn k z⟩
                · by_cases z2 : k = 5 + 2 * n
                  · exact Or.inr (Or.inl ⟨z2, by rw [z2]; exact ad2_a⟩)
                  · have z3 : k = 5 + 2 * n + 1 := by omega
                    exact Or.inr (Or.inr ⟨z3, by rw [z3]; exact ad2_b⟩)
              intro i j hi hj e1
              rcases key i hi with ⟨a1, a2, a3, a4⟩ | ⟨a1, a2⟩ | ⟨a1, a2⟩ <;> rcases key j hj with ⟨b1, b2, b3, b4⟩ | ⟨b1, b2⟩ | ⟨b1, b2⟩
              · exact hI i j a1 b1 (by rw [← a2, ← b2]; exact e1)
              all_goals omega
            have hA2 : ∀ k, k < 5 + 2 * (n + 1) → nA ad n s.heap.size (ad2 ad n q q2 k) := by
              intro k hk
              by_cases z : k < 5 + 2 * n
              · rw [ad2_lo z]; exact Or.inl (wA_in z)
              · by_cases z2 : k = 5 + 2 * n
                · rw [z2, ad2_a]; exact Or.inr hqs
                · rw [show k = 5 + 2 * n + 1 by omega, ad2_b]; exact Or.inr (by omega)
            have e0 : ad2 ad n q q2 0 = ad 0 := ad2_lo (by omega)
            have e1 : ad2 ad n q q2 1 = ad 1 := ad2_lo (by omega)
            have eN : ad2 ad n q q2 (5 + 2 * n) = q := ad2_a
            have hl : lv_has ls 3 [(0, .ref (ad2 ad n q q2 0)), (1, .int (nI a)), (2, .int (nI b))] := by rw [e0]; exact hl
            refine W.eq (g2 := F0 m 59 ls [.ref (ad2 ad n q q2 (5 + 2 * n)), .int (nI (σ.1 0 0)), .ref (ad2 ad n q q2 1)]) (by rw [e1, eN]) ?_
            refine wd_aast hx hb hK hP hI2 hA2 hS 1 0 (5 + 2 * n) 0 (by omega) (by omega) (show nK cN (cW cN cI ad σ τ tr) n a b q2 1 = _ by rw [nK_lo (by omega), cW_1]) rfl nK_a rfl n (by omega) (by omega) (by rw [hn]) dX1_node_59 (fun H locs hP hS => ?_)
            refine lv_aload_n hx hb dX1_node_60 rfl (lv_at hl 0 rfl) ?_
            refine lv_dup hx hb dX1_node_61 rfl ?_
            refine wd_get (C := RX1) (T := TX1) (n := 9) (ci := ciT) (v := .int (nI (σ.1 0 0))) hx hb hts (by decide +kernel) hown hK hP 0 (by omega) (show _ = (Sum.inr (ciT, cw_ob ad σ τ) : va_E) by rw [va_up_ne _ _ (by omega), nK_lo (by omega), cW_0]) rfl 1 (by decide) (hts (.fieldLink RX1 25 "CarThreads" "nodeCount" "I") (by decide +kernel)) (fun _ h9 => h9) rfl dX1_node_62 ?_
            refine lv_iconst (v := nI 1) hx hb dX1_node_65 (by decide) ?_
            refine wi_add hx hb dX1_node_66 ?_
            refine wd_put (C := RX1) (T := TX1) (n := 9) (ci := ciT) (v := .int (nI (σ.1 0 0 + 1))) (ty := .int) hx hb hts (by decide +kernel) tyX1 tyX1_ok nmX1 hown hK hP hI2 hA2 hS 0 (by omega) (show _ = (Sum.inr (ciT, cw_ob ad σ τ) : va_E) by rw [va_up_ne _ _ (by omega), nK_lo (by omega), cW_0]) rfl 1 (by decide) (hts (.fieldLink RX1 25 "CarThreads" "nodeCount" "I") (by decide +kernel)) (fun _ h9 => h9) rfl (by decide +kernel) rfl rfl (Nat.le_of_ble_eq_true rfl) dX1_node_67 (fun H locs hP hS => ?_)
            rw [nW hv hn] at hP
            refine lv_aload_n hx hb dX1_node_70 rfl (lv_at hl 0 rfl) ?_
            refine wd_get (C := RX1) (T := TX1) (n := 9) (ci := ciT) (v := .int (nI (σ.1 0 0 + 1))) hx hb hts (by decide +kernel) hown hK hP 0 (by omega) cW_0 rfl 1 (by decide) (hts (.fieldLink RX1 25 "CarThreads" "nodeCount" "I") (by decide +kernel)) (fun _ h9 => h9) (by simp [cw_ob, ct_new, ct_sg, ct_sl]) dX1_node_71 ?_
            have hnn : (ct_new σ a b).1 0 0 = n + 1 := by simp [ct_new, ct_sg, ct_sl, hn]
            subst hQ
            exact W.iret hx hb hr (fun t ht hW => ⟨⟨_, (ad2 ad n q q2, nT τ n), rfl, ⟨by rw [hF], nT_k hτ n, e0, by rw [hF, hnn]; exact hI2, fun k hk => by
              rw [hF, hnn] at hk
              by_cases z : k < 5 + 2 * n
              · exact Or.inl ⟨z, ad2_lo z⟩
              · right
                by_cases z2 : k = 5 + 2 * n
                · show _ ≤ ad2 ad n q q2 k; rw [z2, ad2_a]; exact hqs
                · show _ ≤ ad2 ad n q q2 k; rw [show k = 5 + 2 * n + 1 by omega, ad2_b]; have := hS.1; omega⟩, by rw [hF]; show va_P D wCl (wl (ad2 ad n q q2) (cW cN cI (ad2 ad n q q2) (ct_new σ a b) (nT τ n) tr) (5 + 2 * (ct_new σ a b).1 0 0)) t.heap; rw [hnn, ht]; exact hP⟩, hS.F ht⟩) hS.2.2 dX1_node_74 hlocks
          · refine lv_bipush (v := (-4)) hx hb dX1_node_33 (by decide) ?_
            have hF : f_node σ (nI a) (nI b) = ((-4), σ) := by unfold f_node; rw [if_neg (fun q => by rcases q with q | q | q | q <;> first | exact c2 q | exact c9 q | exact c13 q | exact (Int32.not_lt.mpr c18) q), if_pos (by omega)]
            refine W.widen (k := 2) (n := 213) (by omega) (by omega) ?_
            subst hQ
            exact W.iret hx hb hr (fun t ht hW => ⟨⟨_, (ad, τ), rfl, ⟨by rw [hF], hτ, rfl, by rw [hF, hn]; exact hI, fun k hk => Or.inl ⟨by rw [hF, hn] at hk; exact hk, rfl⟩⟩, by rw [hF]; show va_P D wCl (wl ad (cW cN cI ad σ τ tr) (5 + 2 * σ.1 0 0)) t.heap; rw [hn, ht]; exact hP⟩, hS.F ht⟩) hS.2.2 dX1_node_35 hlocks
        · refine lv_bipush (v := (-2)) hx hb dX1_node_21 (by decide) ?_
          have hF : f_node σ x y = ((-2), σ) := by unfold f_node; rw [if_pos (show x < 1 ∨ 200 < x ∨ y < 0 ∨ x < y from Or.inr (Or.inr (Or.inr (Int32.not_le.mp c18))))]
          refine W.widen (k := 2) (n := 213) (by omega) (by omega) ?_
          subst hQ
          exact W.iret hx hb hr (fun t ht hW => ⟨⟨_, (ad, τ), rfl, ⟨by rw [hF], hτ, rfl, by rw [hF, hn]; exact hI, fun k hk => Or.inl ⟨by rw [hF, hn] at hk; exact hk, rfl⟩⟩, by rw [hF]; show va_P D wCl (wl ad (cW cN cI ad σ τ tr) (5 + 2 * σ.1 0 0)) t.heap; rw [hn, ht]; exact hP⟩, hS.F ht⟩) hS.2.2 dX1_node_23 hlocks
end P65
