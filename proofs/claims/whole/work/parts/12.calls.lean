/-! Contracts over a world by names: start, ends, calls. -/
abbrev pC (D : va_G) (cl : List vw_C) (tys : List (ClassId × FieldType)) (ad : Nat → Nat) (K : Nat → va_E) (N : Nat) (U : State) : Prop := va_P D cl (wl ad K N) U.heap ∧ va_K D cl tys U
def qI {S : Type} (D : va_G) (cl : List vw_C) (ad : Nat → Nat) (N : Nat) (post : Int32 → S → Prop) (K' : S → Nat → va_E) : Array Value → State → Outcome → State → Prop := va_Qi post (fun u t => va_P D cl (wl ad (K' u) N) t.heap) (wA ad N)
def qV {S : Type} (D : va_G) (cl : List vw_C) (ad : Nat → Nat) (N : Nat) (post : S → Prop) (K' : S → Nat → va_E) : Array Value → State → Outcome → State → Prop := va_Qv post (fun u t => va_P D cl (wl ad (K' u) N) t.heap) (wA ad N)
section WdCalls
variable {p : Program} {l : Launch} {e : Env} {R : Room} {s : State} {m : MethodId} {args : Array Value} {below : List Frame} {meth : Method} {c : Code} {H : Heap} {locs : List Loc} {cells slots : Nat} {Q : State → Prop}
variable {cc : ByteArray} {pc : Nat} {ls : Array Slot} {rest st0 : List Value} {D : va_G} {cl : List vw_C} {A : Nat → Prop} {tys : List (ClassId × FieldType)} {H0 : Heap} {ad : Nat → Nat} {K : Nat → va_E} {N : Nat} {S : Type} {a : Array Value}
theorem wd_pre {k ci : Nat} {fs As : List Value} {q : vw_C} (hK : va_K D cl tys s) (hP : va_P D cl (wl ad K N) H) (hk : k < N) (hc : cl[ci]? = some q) (he : K k = .inr (ci, fs)) : PreV s H q.1 (ad k) (va_Pc (.ref (ad k) :: As) (pC D cl tys ad K N)) As :=
  ⟨fun a U g mk q => by obtain ⟨q0, qP, qK⟩ := q; exact ⟨q0, qP, va_K.moved (u := U) (U := U.calling g mk a) (Vm.Alike.refl U.vm) qK⟩, va_recv hK hP hc (q0 := k) (by rw [wl_at hk, he]), fun U hU hW => ⟨rfl, by rw [hU]; exact hP, va_K.moved hW.alike hK⟩⟩
theorem wd_calli {post : Int32 → S → Prop} {K' : S → Nat → va_E} (hr : va_Run p l e R s m args below meth c H locs cells slots 0 0 (F0 m pc ls st0) rest (qI D cl ad N post K' a) (wA ad N)) (hS : va_S A H0 H locs) (hA : ∀ k, k < N → A (ad k))
    (kk : ∀ (r : Int32) (u : S) (H1 : Heap) (locs1 : List Loc), post r u → va_P D cl (wl ad (K' u) N) H1 → H.size ≤ H1.size → (∀ q : Nat, q < H.size → ¬ wA ad N q → H1[q]? = H[q]?) → va_S A H0 H1 locs1 → W p l e R s m args below meth c H1 locs1 cells slots Q (F0 m (pc + 3) ls (.int r :: rest))) : W p l e R s m args below meth c H locs cells slots Q (F0 m pc ls st0) :=
  va_calli hr hS (fun q _ h => by obtain ⟨k, h1, rfl⟩ := h; exact hA k h1) (fun q h => by obtain ⟨k, h1, rfl⟩ := h; exact hA k h1) (fun r u t H1 locs1 ht _ hp hB hz hk hS1 => kk r u H1 locs1 hp (by rw [← ht]; exact hB) hz hk hS1)
theorem wd_callv {post : S → Prop} {K' : S → Nat → va_E} (hr : va_Run p l e R s m args below meth c H locs cells slots 0 0 (F0 m pc ls st0) rest (qV D cl ad N post K' a) (wA ad N)) (hS : va_S A H0 H locs) (hA : ∀ k, k < N → A (ad k))
    (kk : ∀ (u : S) (H1 : Heap) (locs1 : List Loc), post u → va_P D cl (wl ad (K' u) N) H1 → H.size ≤ H1.size → (∀ q : Nat, q < H.size → ¬ wA ad N q → H1[q]? = H[q]?) → va_S A H0 H1 locs1 → W p l e R s m args below meth c H1 locs1 cells slots Q (F0 m (pc + 3) ls rest)) : W p l e R s m args below meth c H locs cells slots Q (F0 m pc ls st0) :=
  va_callv hr hS (fun q _ h => by obtain ⟨k, h1, rfl⟩ := h; exact hA k h1) (fun q h => by obtain ⟨k, h1, rfl⟩ := h; exact hA k h1) (fun u t H1 locs1 ht _ hp hB hz hk hS1 => kk u H1 locs1 hp (by rw [← ht]; exact hB) hz hk hS1)
theorem rt_i {post : Int32 → S → Prop} {K' : S → Nat → va_E} (hQ : Q = MQ below (qI D cl ad N post K') args s 0 0 (wA ad N)) (hx : p.tables.exec = Jvm.exec) (hb : c.code = cc) (hr : meth.sig.returnType = some .int) (hlocks : meth.locks = false) (u : S) (hP : va_P D cl (wl ad (K' u) N) H) (hS : va_S (wA ad N) s.heap H locs) {v : Int32} (hp : post v u) (hdg : decode cc pc = .ok (.ireturn, 1)) : W p l e R s m args below meth c H locs 0 0 Q (F0 m pc ls [.int v]) := by
  subst hQ
  exact W.iret hx hb hr (fun t ht hW => ⟨⟨v, u, rfl, hp, by show va_P D cl (wl ad (K' u) N) t.heap; rw [ht]; exact hP⟩, hS.F ht⟩) hS.2.2 hdg hlocks
theorem rt_z {post : Int32 → S → Prop} {K' : S → Nat → va_E} (hQ : Q = MQ below (qI D cl ad N post K') args s 0 0 (wA ad N)) (hx : p.tables.exec = Jvm.exec) (hb : c.code = cc) (hr : meth.sig.returnType = some .boolean) (hlocks : meth.locks = false) (u : S) (hP : va_P D cl (wl ad (K' u) N) H) (hS : va_S (wA ad N) s.heap H locs) {v : Int32} (hn : narrow .boolean (.int v) = .int v) (hp : post v u) (hdg : decode cc pc = .ok (.ireturn, 1)) : W p l e R s m args below meth c H locs 0 0 Q (F0 m pc ls [.int v]) := by
  subst hQ
  exact W.zret hx hb hr hn (fun t ht hW => ⟨⟨v, u, rfl, hp, by show va_P D cl (wl ad (K' u) N) t.heap; rw [ht]; exact hP⟩, hS.F ht⟩) hS.2.2 hdg hlocks
theorem rt_v {post : S → Prop} {K' : S → Nat → va_E} (hQ : Q = MQ below (qV D cl ad N post K') args s 0 0 (wA ad N)) (hx : p.tables.exec = Jvm.exec) (hb : c.code = cc) (hr : meth.sig.returnType = none) (hlocks : meth.locks = false) (u : S) (hP : va_P D cl (wl ad (K' u) N) H) (hS : va_S (wA ad N) s.heap H locs) (hp : post u) (hdg : decode cc pc = .ok (.return_, 1)) : W p l e R s m args below meth c H locs 0 0 Q (F0 m pc ls []) := by
  subst hQ
  exact W.vret hx hb hr (fun t ht hW => ⟨⟨u, rfl, hp, by show va_P D cl (wl ad (K' u) N) t.heap; rw [ht]; exact hP⟩, hS.F ht⟩) hS.2.2 hdg hlocks
theorem ro_i {post : Int32 → Prop} (hQ : Q = MQ below (vp_Si post) args s 0 0 (fun _ => False)) (hx : p.tables.exec = Jvm.exec) (hb : c.code = cc) (hr : meth.sig.returnType = some .int) (hlocks : meth.locks = false) {v : Int32} (hp : post v) (hdg : decode cc pc = .ok (.ireturn, 1)) : W p l e R s m args below meth c s.heap [] 0 0 Q (F0 m pc ls [.int v]) := by
  subst hQ
  exact W.iret hx hb hr (fun t ht hW => ⟨v, rfl, hp, ht⟩) (fun _ h => by cases h) hdg hlocks
theorem ro_z {post : Int32 → Prop} (hQ : Q = MQ below (vp_Si post) args s 0 0 (fun _ => False)) (hx : p.tables.exec = Jvm.exec) (hb : c.code = cc) (hr : meth.sig.returnType = some .boolean) (hlocks : meth.locks = false) {v : Int32} (hn : narrow .boolean (.int v) = .int v) (hp : post v) (hdg : decode cc pc = .ok (.ireturn, 1)) : W p l e R s m args below meth c s.heap [] 0 0 Q (F0 m pc ls [.int v]) := by
  subst hQ
  exact W.zret hx hb hr hn (fun t ht hW => ⟨v, rfl, hp, ht⟩) (fun _ h => by cases h) hdg hlocks
theorem ro_a {post : Option Nat → Prop} {nm : String} (hQ : Q = MQ below (va_Sq post) args s 0 0 (fun _ => False)) (hx : p.tables.exec = Jvm.exec) (hb : c.code = cc) (hr : meth.sig.returnType = some (.object nm)) (hlocks : meth.locks = false) (r : Option Nat) (hp : post r) (hdg : decode cc pc = .ok (.areturn, 1)) : W p l e R s m args below meth c s.heap [] 0 0 Q (F0 m pc ls [va_rf r]) := by
  subst hQ
  exact W.aret hx hb hr (Or.inl ⟨_, rfl⟩) (va_rf_or r) (fun t ht hW => ⟨r, rfl, hp, ht⟩) (fun _ h => by cases h) hdg hlocks
end WdCalls
