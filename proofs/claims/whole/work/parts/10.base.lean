/-! Worlds by names: the cells ad 0 .. ad (N-1) with the contents C 0 .. C (N-1); entry and calls in a short form. -/
def wl (ad : Nat → Nat) (C : Nat → va_E) (N : Nat) : va_W := (List.range N).map (fun k => (ad k, C k))
theorem wl_at {ad : Nat → Nat} {C : Nat → va_E} {N k : Nat} (h : k < N) : (wl ad C N)[k]? = some (ad k, C k) := by
  simp [wl, List.getElem?_map, List.getElem?_range h]
theorem wl_of {ad : Nat → Nat} {C : Nat → va_E} {N k : Nat} {q : Nat × va_E} (h : (wl ad C N)[k]? = some q) : k < N ∧ q = (ad k, C k) := by
  have hk : k < N := by
    have := (List.getElem?_eq_some_iff.mp h).1
    simpa [wl] using this
  rw [wl_at hk] at h
  exact ⟨hk, (Option.some.inj h).symm⟩
theorem wl_len {ad : Nat → Nat} {C : Nat → va_E} {N : Nat} : (wl ad C N).length = N := by simp [wl]
theorem wl_set {ad : Nat → Nat} {C : Nat → va_E} {N k : Nat} (h : k < N) (e : va_E) : (wl ad C N).set k (ad k, e) = wl ad (va_up C k e) N := by
  apply List.ext_getElem?
  intro j
  by_cases hj : j = k
  · subst hj
    rw [List.getElem?_set_self (by rw [wl_len]; exact h), wl_at h, va_up_self]
  · rw [List.getElem?_set_ne (Ne.symm hj)]
    by_cases hN : j < N
    · rw [wl_at hN, wl_at hN, va_up_ne _ _ hj]
    · rw [List.getElem?_eq_none (by rw [wl_len]; omega), List.getElem?_eq_none (by rw [wl_len]; omega)]
theorem wl_congr {ad ad' : Nat → Nat} {C C' : Nat → va_E} {N : Nat} (ha : ∀ k, k < N → ad k = ad' k) (h : ∀ k, k < N → C k = C' k) : wl ad C N = wl ad' C' N := by
  apply List.ext_getElem?
  intro j
  by_cases hN : j < N
  · rw [wl_at hN, wl_at hN, ha j hN, h j hN]
  · rw [List.getElem?_eq_none (by rw [wl_len]; omega), List.getElem?_eq_none (by rw [wl_len]; omega)]
theorem wl_push {ad : Nat → Nat} {C : Nat → va_E} {N : Nat} (q : Nat) (e : va_E) : wl ad C N ++ [(q, e)] = wl (va_up ad N q) (va_up C N e) (N + 1) := by
  apply List.ext_getElem?
  intro j
  by_cases hN : j < N
  · rw [List.getElem?_append_left (by rw [wl_len]; exact hN), wl_at hN, wl_at (by omega), va_up_ne _ _ (by omega), va_up_ne _ _ (by omega)]
  · rw [List.getElem?_append_right (by rw [wl_len]; omega), wl_len]
    by_cases h2 : j = N
    · subst h2
      rw [wl_at (by omega), va_up_self, va_up_self, Nat.sub_self]
      rfl
    · rw [List.getElem?_eq_none (by simp; omega), List.getElem?_eq_none (by rw [wl_len]; omega)]
/-- the addresses are apart -/
def adI (ad : Nat → Nat) (N : Nat) : Prop := ∀ i j, i < N → j < N → ad i = ad j → i = j
/-- the cells of a world -/
def wA (ad : Nat → Nat) (N : Nat) : Nat → Prop := fun q => ∃ k, k < N ∧ ad k = q
theorem wA_in {ad : Nat → Nat} {N k : Nat} (h : k < N) : wA ad N (ad k) := ⟨k, h, rfl⟩
theorem wl_D {ad : Nat → Nat} {C : Nat → va_E} {N : Nat} {A : Nat → Prop} (h : adI ad N) (hA : ∀ k, k < N → A (ad k)) : va_D A (wl ad C N) := by
  refine ⟨fun i j p q hp hq e => ?_, fun k q hk => ?_⟩
  · obtain ⟨h1, rfl⟩ := wl_of hp
    obtain ⟨h2, rfl⟩ := wl_of hq
    exact h i j h1 h2 e
  · obtain ⟨h1, rfl⟩ := wl_of hk
    exact hA k h1
theorem wl_I {ad : Nat → Nat} {C : Nat → va_E} {N : Nat} {A : Nat → Prop} (h : va_D A (wl ad C N)) : adI ad N := fun i j hi hj e => h.1 i j _ _ (wl_at hi) (wl_at hj) e
/-- what stays of a world behind something that changed other cells alone -/
theorem wl_keep {D : va_G} {cl : List vw_C} {ad : Nat → Nat} {C : Nat → va_E} {N : Nat} {H H1 : Heap} {A1 : Nat → Prop} (h : va_P D cl (wl ad C N) H) (hk : ∀ q : Nat, q < H.size → ¬ A1 q → H1[q]? = H[q]?) (hA : ∀ k, k < N → ¬ A1 (ad k)) : va_P D cl (wl ad C N) H1 := by
  refine h.kept (fun k q hq => ?_)
  obtain ⟨h1, rfl⟩ := wl_of hq
  exact hk _ (h k _ hq).lt (hA k h1)
theorem wl_lt {D : va_G} {cl : List vw_C} {ad : Nat → Nat} {C : Nat → va_E} {N k : Nat} {H : Heap} (h : va_P D cl (wl ad C N) H) (hk : k < N) : ad k < H.size := (h k _ (wl_at hk)).lt
section Entry
variable {l : Launch} {y : MethodName} {ws ws' : List Cond} {rm : Room} {B : State → Prop} {Qc : Array Value → State → Outcome → State → Prop} {mc ms : Nat} {free : Addr → Prop} {cc : ByteArray} {maxL : Nat} {ret : Option FieldType} {av : List Value}
theorem Met.go (hy : plainName y.cls = true) (hw : ws = Cond.code y cc maxL ret :: ws') (hlen : (lg_sl av).length ≤ maxL)
    (body : ∀ (p : Program) (e : Env) (s : State) (m : MethodId) (below : List Frame) (meth : Method) (c : Code) (ls : Array Slot) (args : Array Value) (Q : State → Prop), CallFix p m c cc maxL s args ws y.cls → meth.sig.returnType = ret → meth.locks = false → (y.name = "<init>" → meth.name = "<init>") → B s → lv_has ls maxL (lv_args 0 av) → Q = MQ below Qc args s mc ms free → W p l e rm s m args below meth c s.heap [] 0 0 Q (F0 m 0 ls [])) : Met l y ws rm (va_Pc av B) Qc mc ms free := by
  refine Met.ofW (cc := cc) (maxL := maxL) (ret := ret) hy hw ?_
  intro p e s m args below meth c s₁ G hml hv
  obtain ⟨rfl, hB⟩ := hv
  have hl := lv_entry av (n := maxL) hlen
  rw [lg_entry_eq]
  generalize (lg_sl av ++ List.replicate (maxL - (lg_sl av).length) Slot.unset).toArray = ls at hl ⊢
  exact body p e s m below meth c ls _ _ ⟨G.exec, G.bytes, hml, findClass_of_methodNamed G.named, atoms_spec (ws := ws) G.pre⟩ G.returns G.notSynchronized (fun h => by rw [(name_of_methodNamed G.named G.method).1, h]) hB hl rfl
end Entry
