/-! The kit's rows over worlds by names. -/
section WdRows
variable {p : Program} {l : Launch} {e : Env} {R : Room} {s : State} {m : MethodId} {args : Array Value} {below : List Frame} {meth : Method} {c : Code} {H : Heap} {locs : List Loc} {cells slots : Nat} {Q : State → Prop}
variable {cc : ByteArray} {pc : Nat} {ls : Array Slot} {rest : List Value} {D : va_G} {cl : List vw_C} {A : Nat → Prop} {tys : List (ClassId × FieldType)} {H0 : Heap} {ad : Nat → Nat} {K : Nat → va_E} {N : Nat}
theorem wd_get (hexec : p.tables.exec = Jvm.exec) (hb : c.code = cc) {own ref C : String} {T : u_T} {n ci index : Nat} {Ts : List Cond} (hts : ∀ w ∈ Ts, w.before args s = true) (hin : ∀ w ∈ u_ws C T n, w ∈ Ts) (hown : s.vm.findClass own = some m.cls) (hK : va_K D cl tys s) (hP : va_P D cl (wl ad K N) H) (q0 : Nat) (hq : q0 < N) {fs : List Value} (he : K q0 = .inr (ci, fs)) (hc : cl[ci]? = some (C, T, n)) (k : Nat) (hk : k < n) (hlink : (Cond.fieldLink own index ref (T k).2.1 (T k).2.2.1).before args s = true) (hsame : ∀ x, s.fieldFound? (T k).1 (T k).2.1 (T k).2.2.1 = some x → s.fieldFound? ref (T k).2.1 (T k).2.2.1 = some x) {v : Value} (hv : fs[k]? = some v) (hdg : decode cc pc = .ok (.getfield index, 3))
    (kk : W p l e R s m args below meth c H locs cells slots Q (F0 m (pc + 3) ls (v :: rest))) : W p l e R s m args below meth c H locs cells slots Q (F0 m pc ls (.ref (ad q0) :: rest)) :=
  va_get hexec hb hts hin hown hK hP q0 (by rw [wl_at hq, he]) hc k hk hlink hsame hv hdg kk
theorem wd_put (hexec : p.tables.exec = Jvm.exec) (hb : c.code = cc) {own ref C : String} {T : u_T} {n ci index : Nat} {Ts : List Cond} (hts : ∀ w ∈ Ts, w.before args s = true) (hin : ∀ w ∈ u_ws C T n, w ∈ Ts) (ty0 : Nat → FieldType) (hty : ∀ k, k < n → parseFieldDescriptor (T k).2.2.1 = some (ty0 k)) (hnm : ∀ a, a < n → ∀ b, b < n → a ≠ b → (T a).2.1 ≠ (T b).2.1) (hown : s.vm.findClass own = some m.cls) (hK : va_K D cl tys s) (hP : va_P D cl (wl ad K N) H) (hI : adI ad N) (hA : ∀ k, k < N → A (ad k)) (hS0 : va_S A H0 H locs) (q0 : Nat) (hq : q0 < N) {fs : List Value} (he : K q0 = .inr (ci, fs)) (hc : cl[ci]? = some (C, T, n)) (k : Nat) (hk : k < n) (hlink : (Cond.fieldLink own index ref (T k).2.1 (T k).2.2.1).before args s = true) (hsame : ∀ x, s.fieldFound? (T k).1 (T k).2.1 (T k).2.2.1 = some x → s.fieldFound? ref (T k).2.1 (T k).2.2.1 = some x) (hfin : (T k).2.2.2 = false) {ty : FieldType} {v : Value} (hd : parseFieldDescriptor (T k).2.2.1 = some ty) (hn : narrow ty v = v) (hfit : fits ty v = true) (hl : k < fs.length)
    (hdg : decode cc pc = .ok (.putfield index, 3)) (kk : ∀ (H1 : Heap) (locs1 : List Loc), va_P D cl (wl ad (va_up K q0 (.inr (ci, fs.set k v))) N) H1 → va_S A H0 H1 locs1 → W p l e R s m args below meth c H1 locs1 cells slots Q (F0 m (pc + 3) ls rest)) : W p l e R s m args below meth c H locs cells slots Q (F0 m pc ls (v :: .ref (ad q0) :: rest)) := by
  refine va_put hexec hb hts hin ty0 hty hnm hown hK hP (wl_D hI hA) hS0 q0 (by rw [wl_at hq, he]) hc k hk hlink hsame hfin hd hn hfit hl hdg (fun H1 locs1 hP1 _ hS1 => ?_)
  rw [wl_set hq] at hP1
  exact kk H1 locs1 hP1 hS1
theorem wd_putF (hexec : p.tables.exec = Jvm.exec) (hb : c.code = cc) {own ref C : String} {T : u_T} {n ci index : Nat} {Ts : List Cond} (hts : ∀ w ∈ Ts, w.before args s = true) (hin : ∀ w ∈ u_ws C T n, w ∈ Ts) (ty0 : Nat → FieldType) (hty : ∀ k, k < n → parseFieldDescriptor (T k).2.2.1 = some (ty0 k)) (hnm : ∀ a, a < n → ∀ b, b < n → a ≠ b → (T a).2.1 ≠ (T b).2.1) (hown : s.vm.findClass own = some m.cls) (hK : va_K D cl tys s) (hP : va_P D cl (wl ad K N) H) (hI : adI ad N) (hA : ∀ k, k < N → A (ad k)) (hS0 : va_S A H0 H locs) (q0 : Nat) (hq : q0 < N) {fs : List Value} (he : K q0 = .inr (ci, fs)) (hc : cl[ci]? = some (C, T, n)) (k : Nat) (hk : k < n) (hlink : (Cond.fieldLink own index ref (T k).2.1 (T k).2.2.1).before args s = true) (hsame : ∀ x, s.fieldFound? (T k).1 (T k).2.1 (T k).2.2.1 = some x → s.fieldFound? ref (T k).2.1 (T k).2.2.1 = some x) (hfin : (T k).2.2.2 = true) (hin2 : meth.name = "<init>") (hdecl : (T k).1 = own) {ty : FieldType} {v : Value} (hd : parseFieldDescriptor (T k).2.2.1 = some ty) (hn : narrow ty v = v) (hfit : fits ty v = true) (hl : k < fs.length)
    (hdg : decode cc pc = .ok (.putfield index, 3)) (kk : ∀ (H1 : Heap) (locs1 : List Loc), va_P D cl (wl ad (va_up K q0 (.inr (ci, fs.set k v))) N) H1 → va_S A H0 H1 locs1 → W p l e R s m args below meth c H1 locs1 cells slots Q (F0 m (pc + 3) ls rest)) : W p l e R s m args below meth c H locs cells slots Q (F0 m pc ls (v :: .ref (ad q0) :: rest)) := by
  refine va_putF hexec hb hts hin ty0 hty hnm hown hK hP (wl_D hI hA) hS0 q0 (by rw [wl_at hq, he]) hc k hk hlink hsame hfin hin2 hdecl hd hn hfit hl hdg (fun H1 locs1 hP1 _ hS1 => ?_)
  rw [wl_set hq] at hP1
  exact kk H1 locs1 hP1 hS1
theorem nI_at {j n : Nat} (h : j < n) (hn : n < 2 ^ 31) : vp_in (nI j) n ∧ (nI j).toNatClampNeg = j := ⟨vp_in_nI h hn, nI_clamp (by omega)⟩
theorem wd_iald (hexec : p.tables.exec = Jvm.exec) (hb : c.code = cc) (hK : va_K D cl tys s) (hP : va_P D cl (wl ad K N) H) (q0 t0 : Nat) (hq : q0 < N) {cA : ClassId} {n : Nat} {f : Nat → Int32} (ha : K q0 = .inl (cA, n, .inl f)) (ht : tys[t0]? = some (cA, .int)) (j : Nat) (hj : j < n) (hn : n < 2 ^ 31) {i : Int32} (hi : i = nI j) (hdg : decode cc pc = .ok (.iaload, 1))
    (kk : W p l e R s m args below meth c H locs cells slots Q (F0 m (pc + 1) ls (.int (f j) :: rest))) : W p l e R s m args below meth c H locs cells slots Q (F0 m pc ls (.int i :: .ref (ad q0) :: rest)) := by
  subst hi
  refine va_iald hexec hb hK hP q0 t0 (by rw [wl_at hq, ha]) ht (nI_at hj hn).1 hdg ?_
  rw [(nI_at hj hn).2]
  exact kk
theorem wd_zald (hexec : p.tables.exec = Jvm.exec) (hb : c.code = cc) (hK : va_K D cl tys s) (hP : va_P D cl (wl ad K N) H) (q0 t0 : Nat) (hq : q0 < N) {cA : ClassId} {n : Nat} {f : Nat → Int32} (ha : K q0 = .inl (cA, n, .inl f)) (ht : tys[t0]? = some (cA, .boolean)) (j : Nat) (hj : j < n) (hn : n < 2 ^ 31) {i : Int32} (hi : i = nI j) (hdg : decode cc pc = .ok (.baload, 1))
    (kk : W p l e R s m args below meth c H locs cells slots Q (F0 m (pc + 1) ls (.int (f j) :: rest))) : W p l e R s m args below meth c H locs cells slots Q (F0 m pc ls (.int i :: .ref (ad q0) :: rest)) := by
  subst hi
  refine va_zald hexec hb hK hP q0 t0 (by rw [wl_at hq, ha]) ht (nI_at hj hn).1 hdg ?_
  rw [(nI_at hj hn).2]
  exact kk
theorem wd_lald (hexec : p.tables.exec = Jvm.exec) (hb : c.code = cc) (hK : va_K D cl tys s) (hP : va_P D cl (wl ad K N) H) (q0 t0 : Nat) (hq : q0 < N) {cA : ClassId} {n : Nat} {f : Nat → Int64} (ha : K q0 = .inl (cA, n, .inr (.inl f))) (ht : tys[t0]? = some (cA, .long)) (j : Nat) (hj : j < n) (hn : n < 2 ^ 31) {i : Int32} (hi : i = nI j) (hdg : decode cc pc = .ok (.laload, 1))
    (kk : W p l e R s m args below meth c H locs cells slots Q (F0 m (pc + 1) ls (.long (f j) :: rest))) : W p l e R s m args below meth c H locs cells slots Q (F0 m pc ls (.int i :: .ref (ad q0) :: rest)) := by
  subst hi
  refine va_lald hexec hb hK hP q0 t0 (by rw [wl_at hq, ha]) ht (nI_at hj hn).1 hdg ?_
  rw [(nI_at hj hn).2]
  exact kk
theorem wd_aald (hexec : p.tables.exec = Jvm.exec) (hb : c.code = cc) (hK : va_K D cl tys s) (hP : va_P D cl (wl ad K N) H) (q0 t0 : Nat) (hq : q0 < N) {cA : ClassId} {C : String} {n : Nat} {f : Nat → Option Nat} (ha : K q0 = .inl (cA, n, .inr (.inr (.inr (.inr f))))) (ht : tys[t0]? = some (cA, .object C)) (j : Nat) (hj : j < n) (hn : n < 2 ^ 31) {i : Int32} (hi : i = nI j) (hdg : decode cc pc = .ok (.aaload, 1))
    (kk : W p l e R s m args below meth c H locs cells slots Q (F0 m (pc + 1) ls (va_rf (f j) :: rest))) : W p l e R s m args below meth c H locs cells slots Q (F0 m pc ls (.int i :: .ref (ad q0) :: rest)) := by
  subst hi
  refine va_aldq hexec hb hK hP q0 t0 (by rw [wl_at hq, ha]) ht (nI_at hj hn).1 hdg ?_
  rw [(nI_at hj hn).2]
  exact kk
theorem wd_alen (hexec : p.tables.exec = Jvm.exec) (hb : c.code = cc) (hK : va_K D cl tys s) (hP : va_P D cl (wl ad K N) H) (q0 t0 : Nat) (hq : q0 < N) {cA : ClassId} {x : vp_A} (ha : K q0 = .inl (cA, x)) {ty : FieldType} (ht : tys[t0]? = some (cA, ty)) {v : Int32} (hv : Int32.ofNat x.1 = v) (hdg : decode cc pc = .ok (.arraylength, 1))
    (kk : W p l e R s m args below meth c H locs cells slots Q (F0 m (pc + 1) ls (.int v :: rest))) : W p l e R s m args below meth c H locs cells slots Q (F0 m pc ls (.ref (ad q0) :: rest)) :=
  va_alen hexec hb hK hP q0 t0 (by rw [wl_at hq, ha]) ht hv hdg kk
theorem wd_iast (hexec : p.tables.exec = Jvm.exec) (hb : c.code = cc) (hK : va_K D cl tys s) (hP : va_P D cl (wl ad K N) H) (hI : adI ad N) (hA : ∀ k, k < N → A (ad k)) (hS : va_S A H0 H locs) (q0 t0 : Nat) (hq : q0 < N) {cA : ClassId} {n : Nat} {f : Nat → Int32} (ha : K q0 = .inl (cA, n, .inl f)) (ht : tys[t0]? = some (cA, .int)) (j : Nat) (hj : j < n) (hn : n < 2 ^ 31) {i x : Int32} (hi : i = nI j) (hdg : decode cc pc = .ok (.iastore, 1))
    (kk : ∀ (H1 : Heap) (locs1 : List Loc), va_P D cl (wl ad (va_up K q0 (.inl (cA, n, .inl (upd f j x)))) N) H1 → va_S A H0 H1 locs1 → W p l e R s m args below meth c H1 locs1 cells slots Q (F0 m (pc + 1) ls rest)) : W p l e R s m args below meth c H locs cells slots Q (F0 m pc ls (.int x :: .int i :: .ref (ad q0) :: rest)) := by
  subst hi
  refine va_iast hexec hb hK hP (wl_D hI hA) hS q0 t0 (by rw [wl_at hq, ha]) ht (nI_at hj hn).1 hdg (fun H1 locs1 hP1 _ hS1 => ?_)
  rw [wl_set hq, (nI_at hj hn).2] at hP1
  exact kk H1 locs1 hP1 hS1
theorem wd_zast (hexec : p.tables.exec = Jvm.exec) (hb : c.code = cc) (hK : va_K D cl tys s) (hP : va_P D cl (wl ad K N) H) (hI : adI ad N) (hA : ∀ k, k < N → A (ad k)) (hS : va_S A H0 H locs) (q0 t0 : Nat) (hq : q0 < N) {cA : ClassId} {n : Nat} {f : Nat → Int32} (ha : K q0 = .inl (cA, n, .inl f)) (ht : tys[t0]? = some (cA, .boolean)) (j : Nat) (hj : j < n) (hn : n < 2 ^ 31) {i x : Int32} (hx : vp_nar .boolean x = x) (hi : i = nI j) (hdg : decode cc pc = .ok (.bastore, 1))
    (kk : ∀ (H1 : Heap) (locs1 : List Loc), va_P D cl (wl ad (va_up K q0 (.inl (cA, n, .inl (upd f j x)))) N) H1 → va_S A H0 H1 locs1 → W p l e R s m args below meth c H1 locs1 cells slots Q (F0 m (pc + 1) ls rest)) : W p l e R s m args below meth c H locs cells slots Q (F0 m pc ls (.int x :: .int i :: .ref (ad q0) :: rest)) := by
  subst hi
  refine va_zast hexec hb hK hP (wl_D hI hA) hS q0 t0 (by rw [wl_at hq, ha]) ht (nI_at hj hn).1 hdg (fun H1 locs1 hP1 _ hS1 => ?_)
  rw [wl_set hq, (nI_at hj hn).2, hx] at hP1
  exact kk H1 locs1 hP1 hS1
theorem wd_last (hexec : p.tables.exec = Jvm.exec) (hb : c.code = cc) (hK : va_K D cl tys s) (hP : va_P D cl (wl ad K N) H) (hI : adI ad N) (hA : ∀ k, k < N → A (ad k)) (hS : va_S A H0 H locs) (q0 t0 : Nat) (hq : q0 < N) {cA : ClassId} {n : Nat} {f : Nat → Int64} (ha : K q0 = .inl (cA, n, .inr (.inl f))) (ht : tys[t0]? = some (cA, .long)) (j : Nat) (hj : j < n) (hn : n < 2 ^ 31) {i : Int32} {x : Int64} (hi : i = nI j) (hdg : decode cc pc = .ok (.lastore, 1))
    (kk : ∀ (H1 : Heap) (locs1 : List Loc), va_P D cl (wl ad (va_up K q0 (.inl (cA, n, .inr (.inl (vp_updL f j x))))) N) H1 → va_S A H0 H1 locs1 → W p l e R s m args below meth c H1 locs1 cells slots Q (F0 m (pc + 1) ls rest)) : W p l e R s m args below meth c H locs cells slots Q (F0 m pc ls (.long x :: .int i :: .ref (ad q0) :: rest)) := by
  subst hi
  refine va_last hexec hb hK hP (wl_D hI hA) hS q0 t0 (by rw [wl_at hq, ha]) ht (nI_at hj hn).1 hdg (fun H1 locs1 hP1 _ hS1 => ?_)
  rw [wl_set hq, (nI_at hj hn).2] at hP1
  exact kk H1 locs1 hP1 hS1
theorem wd_aast (hexec : p.tables.exec = Jvm.exec) (hb : c.code = cc) (hK : va_K D cl tys s) (hP : va_P D cl (wl ad K N) H) (hI : adI ad N) (hA : ∀ k, k < N → A (ad k)) (hS : va_S A H0 H locs) (q0 t0 qk ci : Nat) (hq : q0 < N) (hqk : qk < N) {cA : ClassId} {r : vw_C} {n : Nat} {vs : List Value} {f : Nat → Option Nat} (ha : K q0 = .inl (cA, n, .inr (.inr (.inr (.inr f))))) (ht : tys[t0]? = some (cA, .object r.1)) (hv : K qk = .inr (ci, vs)) (hc : cl[ci]? = some r) (j : Nat) (hj : j < n) (hn : n < 2 ^ 31) {i : Int32} (hi : i = nI j) (hdg : decode cc pc = .ok (.aastore, 1))
    (kk : ∀ (H1 : Heap) (locs1 : List Loc), va_P D cl (wl ad (va_up K q0 (.inl (cA, n, .inr (.inr (.inr (.inr (va_up f j (some (ad qk))))))))) N) H1 → va_S A H0 H1 locs1 → W p l e R s m args below meth c H1 locs1 cells slots Q (F0 m (pc + 1) ls rest)) : W p l e R s m args below meth c H locs cells slots Q (F0 m pc ls (.ref (ad qk) :: .int i :: .ref (ad q0) :: rest)) := by
  subst hi
  refine va_astq hexec hb hK hP (wl_D hI hA) hS q0 t0 qk ci (by rw [wl_at hq, ha]) ht (by rw [wl_at hqk, hv]) hc (nI_at hj hn).1 hdg (fun H1 locs1 hP1 _ hS1 => ?_)
  rw [wl_set hq, (nI_at hj hn).2] at hP1
  exact kk H1 locs1 hP1 hS1
theorem wd_aastN (hexec : p.tables.exec = Jvm.exec) (hb : c.code = cc) (hK : va_K D cl tys s) (hP : va_P D cl (wl ad K N) H) (hI : adI ad N) (hA : ∀ k, k < N → A (ad k)) (hS : va_S A H0 H locs) (q0 t0 : Nat) (hq : q0 < N) {cA : ClassId} {C : String} {n : Nat} {f : Nat → Option Nat} (ha : K q0 = .inl (cA, n, .inr (.inr (.inr (.inr f))))) (ht : tys[t0]? = some (cA, .object C)) (j : Nat) (hj : j < n) (hn : n < 2 ^ 31) {i : Int32} (hi : i = nI j) (hdg : decode cc pc = .ok (.aastore, 1))
    (kk : ∀ (H1 : Heap) (locs1 : List Loc), va_P D cl (wl ad (va_up K q0 (.inl (cA, n, .inr (.inr (.inr (.inr (va_up f j none)))))) ) N) H1 → va_S A H0 H1 locs1 → W p l e R s m args below meth c H1 locs1 cells slots Q (F0 m (pc + 1) ls rest)) : W p l e R s m args below meth c H locs cells slots Q (F0 m pc ls (.null :: .int i :: .ref (ad q0) :: rest)) := by
  subst hi
  refine va_astqN hexec hb hK hP (wl_D hI hA) hS q0 t0 (by rw [wl_at hq, ha]) ht (nI_at hj hn).1 hdg (fun H1 locs1 hP1 _ hS1 => ?_)
  rw [wl_set hq, (nI_at hj hn).2] at hP1
  exact kk H1 locs1 hP1 hS1
end WdRows
