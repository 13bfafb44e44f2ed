/-! The words of the law's calls of the reference. -/
set_option maxRecDepth 20000 in
theorem gL_Y2_node : GoodIn lw_tbl (wsV RL 17 RX2 yY2_node wsY2_node) := goodIn_p _ [294] (by decide +kernel) (by decide +kernel)
set_option maxRecDepth 20000 in
theorem gL_Y2_waits : GoodIn lw_tbl (wsV RL 22 RX2 yY2_waits wsY2_waits) := goodIn_p _ [299, 303] (by decide +kernel) (by decide +kernel)
set_option maxRecDepth 20000 in
theorem gL_Y2_turn : GoodIn lw_tbl (wsV RL 27 RX2 yY2_turn wsY2_turn) := goodIn_p _ [307] (by decide +kernel) (by decide +kernel)
set_option maxRecDepth 20000 in
theorem gL_Y2_run : GoodIn lw_tbl (wsV RL 32 RX2 yY2_run wsY2_run) := goodIn_p _ [311, 315, 319, 323, 327] (by decide +kernel) (by decide +kernel)
set_option maxRecDepth 20000 in
theorem gL_Y2_log : GoodIn lw_tbl (wsV RL 37 RX2 yY2_log wsY2_log) := goodIn_p _ [331] (by decide +kernel) (by decide +kernel)
set_option maxRecDepth 20000 in
theorem gL_Y2_safe : GoodIn lw_tbl (wsV RL 41 RX2 yY2_safe wsY2_safe) := goodIn_p _ [335, 303] (by decide +kernel) (by decide +kernel)
set_option maxRecDepth 20000 in
theorem gL_Y2_cut : GoodIn lw_tbl (wsV RL 48 RX2 yY2_cut wsY2_cut) := goodIn_p _ [339, 303] (by decide +kernel) (by decide +kernel)
set_option maxRecDepth 20000 in
theorem gL_Y2_interrupt : GoodIn lw_tbl (wsV RL 53 RX2 yY2_interrupt wsY2_interrupt) := goodIn_p _ [343, 303] (by decide +kernel) (by decide +kernel)
set_option maxRecDepth 20000 in
theorem gL_Y2_held : GoodIn lw_tbl (wsV RL 57 RX2 yY2_held wsY2_held) := goodIn_p _ [347, 303, 351] (by decide +kernel) (by decide +kernel)
set_option maxRecDepth 20000 in
theorem gL_Y2_barrier : GoodIn lw_tbl (wsV RL 61 RX2 yY2_barrier wsY2_barrier) := goodIn_p _ [355] (by decide +kernel) (by decide +kernel)
set_option maxRecDepth 20000 in
theorem gL_Y2_finished : GoodIn lw_tbl (wsV RL 65 RX2 yY2_finished wsY2_finished) := goodIn_p _ [359, 303] (by decide +kernel) (by decide +kernel)
set_option maxRecDepth 20000 in
theorem gL_Y2_close : GoodIn lw_tbl (wsV RL 69 RX2 yY2_close wsY2_close) := goodIn_p _ [363, 319] (by decide +kernel) (by decide +kernel)
set_option maxRecDepth 20000 in
theorem gL_Y2_init : GoodIn lw_tbl wsY2_init := goodIn_p _ [235, 32] (by decide +kernel) (by decide +kernel)
theorem inY2 : ∀ w ∈ wsY20, w ∈ lw_tbl := by decide +kernel
/-! Facts for the law. -/
theorem nn_waits (σ : St) (x t y : Int32) : (f_waits σ x t y).2.1 0 0 = σ.1 0 0 := by
  unfold f_waits
  split <;> rfl
theorem nn_cut (σ : St) (x : Int32) (v : Int64) : (f_cut σ x v).2.1 0 0 = σ.1 0 0 := by
  unfold f_cut
  (repeat' split) <;> rfl
theorem nn_int (σ : St) (x : Int32) : (f_int σ x).2.1 0 0 = σ.1 0 0 := by
  unfold f_int
  split <;> rfl
theorem nn_held (σ : St) (x t : Int32) : (f_held σ x t).2.1 0 0 = σ.1 0 0 := by
  unfold f_held
  (repeat' split) <;> rfl
theorem nn_bar (σ : St) (x : Int32) : (f_bar σ x).2.1 0 0 = σ.1 0 0 := by
  unfold f_bar
  split <;> rfl
theorem nn_run : ∀ (f : Nat) (σ : St), (ct_run f σ).2.1 0 0 = σ.1 0 0
  | 0, _ => rfl
  | f + 1, σ => by
    unfold ct_run
    split
    · show (ct_run f (ct_micro (ct_cut σ (σ.1 0 0)))).2.1 0 0 = _
      rw [nn_run f, ct_micro_n, ct_cut_n]
    · show (ct_cut σ (σ.1 0 0)).1 0 0 = _
      rw [ct_cut_n]
theorem nn_node (σ : St) (x y : Int32) : (f_node σ x y).2.1 0 0 = σ.1 0 0 ∨ (f_node σ x y).2.1 0 0 = σ.1 0 0 + 1 := by
  unfold f_node
  split
  · exact Or.inl rfl
  · split
    · exact Or.inl rfl
    · right
      simp [ct_new, ct_sg, ct_sl]
section LawRows
variable {p : Program} {l : Launch} {e : Env} {R : Room} {s : State} {m : MethodId} {args : Array Value} {below : List Frame} {meth : Method} {c : Code} {H : Heap} {locs : List Loc} {cells slots : Nat} {Q : State → Prop}
variable {cc : ByteArray} {pc : Nat} {ls : Array Slot} {rest : List Value} {A : Nat → Prop} {H0 : Heap}
theorem ws_ld (hexec : p.tables.exec = Jvm.exec) (hb : c.code = cc) {b L : Nat} {xs : Nat → Int32} (hX : va_X b L xs s H0) (hbl : b < H0.size) (hbA : ¬ A b) (hS : va_S A H0 H locs) (j : Nat) (hj : j < L) (hL : L < 2 ^ 31) (hdg : decode cc pc = .ok (.iaload, 1))
    (kk : W p l e R s m args below meth c H locs cells slots Q (F0 m (pc + 1) ls (.int (xs j) :: rest))) : W p l e R s m args below meth c H locs cells slots Q (F0 m pc ls (.int (nI j) :: .ref b :: rest)) := by
  refine va_sld hexec hb hX hbl hbA hS (vp_in_nI hj hL) hdg ?_
  rw [nI_clamp (by omega)]
  exact kk
theorem wi_inc4 (a : Nat) : nI a + Int32.ofInt 4 = nI (a + 4) := nI_add a 4
theorem law_gt {i L : Nat} (hi : i < 2 ^ 30) (hL : L < 2 ^ 30) : nI L - nI 4 < nI i ↔ L < i + 4 := by
  have h1 := pk_sub_toInt (a := L) (b := 4) hL (by omega)
  constructor
  · intro q
    have := Int32.lt_iff_toInt_lt.mp q
    rw [h1, nI_toInt (by omega)] at this
    omega
  · intro q
    apply Int32.lt_iff_toInt_lt.mpr
    rw [h1, nI_toInt (by omega)]
    omega
end LawRows
