/-! What each call does, as functions of the state. -/
theorem ct_lg_cg {Y Y' : Nat → Bool} {E E' : Nat → Nat} {L : Lg} : ∀ k, (∀ x, 1 ≤ x → x ≤ k → Y x = Y' x ∧ (Y x = true → E x = E' x)) → ct_lg Y E L k = ct_lg Y' E' L k
  | 0, _ => rfl
  | k + 1, h => by
    have ih := ct_lg_cg (L := L) k (fun x h1 h2 => h x h1 (by omega))
    obtain ⟨h1, h2⟩ := h (k + 1) (by omega) (by omega)
    unfold ct_lg
    rw [ih, ← h1]
    by_cases q : Y (k + 1) = true
    · rw [if_pos q, if_pos q, h2 q]
    · rw [if_neg q, if_neg q]
theorem ct_add_le {L : Lg} {e : Nat} (h : L.1 ≤ 2000) : (ct_add L e).1 ≤ 2000 := by
  unfold ct_add
  split
  · show L.1 + 1 ≤ 2000
    omega
  · exact h
theorem ct_lg_le {Y : Nat → Bool} {E : Nat → Nat} {L : Lg} (h : L.1 ≤ 2000) : ∀ k, (ct_lg Y E L k).1 ≤ 2000
  | 0 => h
  | k + 1 => by
    unfold ct_lg
    split
    · exact ct_add_le (ct_lg_le h k)
    · exact ct_lg_le h k
theorem ct_wl_L (σ : St) : ct_wl σ (ct_L σ) = σ := by
  refine Prod.ext (funext fun a => funext fun x => ?_) rfl
  simp only [ct_wl, ct_L]
  (repeat' split) <;> simp_all
theorem ct_L_wl (σ : St) (L : Lg) : ct_L (ct_wl σ L) = L := by
  refine Prod.ext ?_ (funext fun x => ?_)
  · simp [ct_wl, ct_L]
  · simp [ct_wl, ct_L]
theorem ct_wl_wl (σ : St) (L L' : Lg) : ct_wl (ct_wl σ L) L' = ct_wl σ L' := by
  refine Prod.ext (funext fun a => funext fun x => ?_) rfl
  simp only [ct_wl]
  (repeat' split) <;> simp_all
theorem ct_Inv_wl {σ : St} (h : ct_Inv σ) {L : Lg} (hL : L.1 ≤ 2000) : ct_Inv (ct_wl σ L) := by
  obtain ⟨ha, hb, hc, hd, he⟩ := h
  refine ⟨⟨by simpa [ct_wl] using ha.1, by simpa [ct_wl] using ha.2.1, by simpa [ct_wl] using hL⟩, fun x hx1 hx2 => ?_, fun x hx => ?_, fun t => by simpa [ct_wl] using hd t, fun t ht => by simpa [ct_wl] using he t ht⟩
  · have := hb x hx1 (by simpa [ct_wl] using hx2)
    simpa [ct_Nd, ct_wl] using this
  · obtain ⟨h1, h2⟩ := hc x (by simpa [ct_wl] using hx)
    refine ⟨fun a h3 h7 => ?_, h2⟩
    have e0 : a ≠ 0 := by omega
    have e1 : a ≠ 10 := by omega
    simpa [ct_wl, e0, e1] using h1 a h3 h7
theorem ct_Inv_mul {σ : St} (h : ct_Inv σ) {X : Nat → Bool} (hX : ∀ x, X x = true → 1 ≤ x ∧ x ≤ σ.1 0 0 ∧ σ.1 4 x = 0) : ct_Inv (ct_mul σ X) := by
  obtain ⟨ha, hb, hc, hd, he⟩ := h
  have hn : (ct_mul σ X).1 0 = σ.1 0 := by funext x; simp [ct_mul]
  refine ⟨by rw [hn]; exact ha, fun x hx1 hx2 => ?_, fun x hx => ⟨fun a h3 h7 => ?_, (hc x (by rw [hn] at hx; exact hx)).2⟩, fun t => ?_, fun t ht => ?_⟩
  · rw [hn] at hx2
    obtain ⟨b1, b2, b3, b4, b5, b6, b7, b8, b9⟩ := hb x hx1 hx2
    refine ⟨by simpa [ct_mul] using b1, by simpa [ct_mul] using b2, by simpa [ct_mul] using b3, ?_, ?_, ?_, ?_, by simpa [ct_mul] using b8, by rw [hn]; exact b9⟩
    · show (if (X x && !ct_fails σ x) = true then σ.1 3 x + 1 else σ.1 3 x) ≤ _
      split
      · rename_i q
        have q1 : X x = true := by simp at q; exact q.1
        have := b5 (hX x q1).2.2
        show _ ≤ σ.1 1 x
        omega
      · exact b4
    · show (if (X x && ct_ends σ x) = true then 1 else σ.1 4 x) = 0 → (if (X x && !ct_fails σ x) = true then σ.1 3 x + 1 else σ.1 3 x) < σ.1 1 x
      intro q
      by_cases q1 : X x = true
      · by_cases q2 : ct_ends σ x = true
        · rw [if_pos (by simp [q1, q2])] at q
          omega
        · have q3 : ct_fails σ x = false := by
            cases q3 : ct_fails σ x
            · rfl
            · exact absurd (ct_fe q3) q2
          have q4 : σ.1 3 x + 1 ≠ σ.1 1 x := by
            intro q4
            apply q2
            simp [ct_ends, q4]
          rw [if_pos (by simp [q1, q3])]
          have := b5 (hX x q1).2.2
          omega
      · rw [if_neg (by simp [q1])] at q ⊢
        exact b5 q
    · show (if (X x && ct_ends σ x) = true then 1 else σ.1 4 x) ≤ 1
      split
      · omega
      · exact b6
    · show (if (X x && ct_fails σ x) = true then 1 else σ.1 5 x) ≤ 1
      split
      · omega
      · exact b7
  · rw [hn] at hx
    have q1 : X x = false := by
      cases q1 : X x
      · rfl
      · have := hX x q1
        omega
    have h9 : a ≠ 9 := by omega
    have := (hc x hx).1 a h3 h7
    simp only [ct_mul, q1, Bool.false_and, Bool.false_eq_true, if_false, h9]
    (repeat' split) <;> simp_all
  · rw [hn]
    show (if _ then 0 else σ.1 9 t) ≤ _
    split
    · omega
    · exact hd t
  · show (if _ then 0 else σ.1 9 t) = 0
    split
    · rfl
    · exact he t ht
theorem ct_X_of {σ : St} {x : Nat} (h : ct_X σ x = true) : 1 ≤ x ∧ x ≤ σ.1 0 0 ∧ σ.1 4 x = 0 := by
  simp [ct_X, ct_go] at h
  exact ⟨h.1.1, h.1.2, h.2.1.1⟩
theorem ct_Inv_sl {σ : St} (h : ct_Inv σ) (i : Nat) (v : Int64) : ct_Inv (ct_sl σ i v) := h
theorem ct_Inv_micro {σ : St} (h : ct_Inv σ) : ct_Inv (ct_micro σ) := ct_Inv_sl (ct_Inv_wl (ct_Inv_mul h (fun _ => ct_X_of)) (ct_lg_le h.1.2.2 _)) _ _
theorem ct_Inv_run : ∀ (f : Nat) (σ : St), ct_Inv σ → ct_Inv (ct_run f σ).2
  | 0, _, h => h
  | f + 1, σ, h => by
    unfold ct_run
    split
    · exact ct_Inv_run f _ (ct_Inv_micro (ct_Inv_cut h _ (Nat.le_refl _)))
    · exact ct_Inv_cut h _ (Nat.le_refl _)
-- the calls
def ct_new (σ : St) (a b : Nat) : St := ct_sl (ct_sg (ct_sg (ct_sg σ 1 (σ.1 0 0 + 1) a) 2 (σ.1 0 0 + 1) b) 0 0 (σ.1 0 0 + 1)) (σ.1 0 0 + 1) (-1)
noncomputable def f_node (σ : St) (a b : Int32) : Int32 × St := if a < 1 ∨ 200 < a ∨ b < 0 ∨ a < b then (-2, σ) else if σ.1 0 0 = 30 then (-4, σ) else (nI (σ.1 0 0 + 1), ct_new σ a.toNatClampNeg b.toNatClampNeg)
def f_waits (σ : St) (x t y : Int32) : Int32 × St := if ct_kn (σ.1 0 0) x = 0 ∨ ct_kn (σ.1 0 0) y = 0 ∨ ct_kn (σ.1 0 0) x = ct_kn (σ.1 0 0) y ∨ σ.1 4 (ct_kn (σ.1 0 0) x) ≠ 0 ∨ t ≤ nI (σ.1 3 (ct_kn (σ.1 0 0) x)) ∨ nI (σ.1 1 (ct_kn (σ.1 0 0) x)) < t then (0, σ) else (1, ct_sw σ (ct_kn (σ.1 0 0) x) t.toNatClampNeg (ct_kn (σ.1 0 0) y))
def f_log (σ : St) (x : Int32) : Int32 := if x < 0 ∨ nI (σ.1 0 2) ≤ x then -1 else nI (σ.1 10 x.toNatClampNeg)
def f_safe (σ : St) (x : Int32) : Int32 := if ct_kn (σ.1 0 0) x = 0 then -1 else nI (σ.1 5 (ct_kn (σ.1 0 0) x))
def f_cut (σ : St) (x : Int32) (v : Int64) : Int32 × St := if ct_kn (σ.1 0 0) x = 0 then (-1, σ) else if v < σ.2.2 0 then (-2, σ) else if σ.1 4 (ct_kn (σ.1 0 0) x) ≠ 0 then (-3, σ) else (1, ct_sl σ (ct_kn (σ.1 0 0) x) v)
def f_int (σ : St) (x : Int32) : Int32 × St := if ct_kn (σ.1 0 0) x = 0 ∨ σ.1 4 (ct_kn (σ.1 0 0) x) ≠ 0 then (0, σ) else (1, ct_sg σ 6 (ct_kn (σ.1 0 0) x) 1)
def ct_cnt (σ : St) (i : Nat) : Nat → Nat
  | 0 => 0
  | k + 1 => if σ.1 9 (k + 1) = i then ct_cnt σ i k + 1 else ct_cnt σ i k
def f_held (σ : St) (x t : Int32) : Int32 × St := if ct_kn (σ.1 0 0) x = 0 then (-1, σ) else if t < 0 ∨ 16 < t then (-2, σ) else if t = 0 then (nI (ct_cnt σ (ct_kn (σ.1 0 0) x) 16), σ) else if σ.1 4 (ct_kn (σ.1 0 0) x) ≠ 0 ∨ σ.1 9 t.toNatClampNeg ≠ 0 then (-3, σ) else (nI (ct_cnt (ct_sg σ 9 t.toNatClampNeg (ct_kn (σ.1 0 0) x)) (ct_kn (σ.1 0 0) x) 16), ct_sg σ 9 t.toNatClampNeg (ct_kn (σ.1 0 0) x))
def f_bar (σ : St) (k : Int32) : Int32 × St := if k < 0 ∨ 200 < k then (-2, σ) else (nI (σ.1 0 1), ct_sg σ 0 1 k.toNatClampNeg)
def f_fin (σ : St) (x : Int32) : Int32 := if ct_kn (σ.1 0 0) x = 0 then -1 else nI (σ.1 7 (ct_kn (σ.1 0 0) x))
def ct_close (σ : St) : Nat → Nat × St
  | 0 => (0, σ)
  | k + 1 => if (ct_close σ k).2.1 4 (k + 1) = 0 then ((ct_close σ k).1 + 1, ct_end (ct_close σ k).2 (k + 1)) else ct_close σ k
theorem ct_close_n (σ : St) (k : Nat) : (ct_close σ k).2.1 0 = σ.1 0 := by
  induction k with
  | zero => rfl
  | succ k ih =>
    unfold ct_close
    split
    · rw [← ih]
      funext x
      simp [ct_end]
    · exact ih
theorem ct_Inv_close {σ : St} (h : ct_Inv σ) : ∀ k, k ≤ σ.1 0 0 → ct_Inv (ct_close σ k).2
  | 0, _ => h
  | k + 1, hk => by
    have ih := ct_Inv_close h k (by omega)
    unfold ct_close
    split
    · exact ct_Inv_end ih (by omega) (by rw [ct_close_n]; exact hk)
    · exact ih
/-- an int between two bounds is a natural number -/
theorem ct_nat {x : Int32} {lo hi : Nat} (hlo : lo < 2 ^ 31) (hhi : hi < 2 ^ 31) (h1 : ¬ x < nI lo) (h2 : ¬ nI hi < x) : ∃ j, x = nI j ∧ lo ≤ j ∧ j ≤ hi ∧ x.toNatClampNeg = j := by
  have t1 : ¬ x.toInt < (nI lo).toInt := fun q => h1 (Int32.lt_iff_toInt_lt.mpr q)
  have t2 : ¬ (nI hi).toInt < x.toInt := fun q => h2 (Int32.lt_iff_toInt_lt.mpr q)
  rw [nI_toInt hhi] at t2
  rw [nI_toInt hlo] at t1
  have h3 : ¬ x < 0 := fun z => by
    have := Int32.lt_iff_toInt_lt.mp z
    simp at this
    omega
  obtain ⟨j, hj, rfl⟩ := nI_of h3
  rw [nI_toInt hj] at t1 t2
  exact ⟨j, rfl, by omega, by omega, nI_clamp hj⟩
theorem ct_Inv_new {σ : St} (h : ct_Inv σ) {a b : Nat} (h1 : 1 ≤ a) (h2 : a ≤ 200) (h3 : b ≤ a) (hn : σ.1 0 0 < 30) : ct_Inv (ct_new σ a b) := by
  obtain ⟨ha, hb, hc, hd, he⟩ := h
  have n1 : (ct_new σ a b).1 0 0 = σ.1 0 0 + 1 := by simp [ct_new, ct_sg, ct_sl]
  refine ⟨⟨by omega, by simpa [ct_new, ct_sg, ct_sl] using ha.2.1, by simpa [ct_new, ct_sg, ct_sl] using ha.2.2⟩, fun x hx1 hx2 => ?_, fun x hx => ⟨fun q h3 h7 => ?_, fun t => ?_⟩, fun t => ?_, fun t ht => ?_⟩
  · rw [n1] at hx2
    by_cases q : x = σ.1 0 0 + 1
    · obtain ⟨z1, z2⟩ := hc x (by omega)
      have y3 : σ.1 3 x = 0 := z1 3 (by omega) (by omega)
      have y4 : σ.1 4 x = 0 := z1 4 (by omega) (by omega)
      have y5 : σ.1 5 x = 0 := z1 5 (by omega) (by omega)
      have y6 : σ.1 6 x = 0 := z1 6 (by omega) (by omega)
      have z2' : ∀ t, σ.2.1 x t = 0 := z2
      subst q
      refine ⟨?_, ?_, ?_, ?_, ?_, ?_, ?_, ?_, fun t => ?_⟩
      all_goals simp [ct_new, ct_sg, ct_sl, y3, y4, y5, y6, z2']
      all_goals omega
    · have := hb x hx1 (by omega)
      obtain ⟨b1, b2, b3, b4, b5, b6, b7, b8, b9⟩ := this
      refine ⟨by simpa [ct_new, ct_sg, ct_sl, q] using b1, by simpa [ct_new, ct_sg, ct_sl, q] using b2, by simpa [ct_new, ct_sg, ct_sl, q] using b3, by simpa [ct_new, ct_sg, ct_sl, q] using b4, by simpa [ct_new, ct_sg, ct_sl, q] using b5, by simpa [ct_new, ct_sg, ct_sl, q] using b6, by simpa [ct_new, ct_sg, ct_sl, q] using b7, by simpa [ct_new, ct_sg, ct_sl, q] using b8, fun t => ?_⟩
      rw [n1]
      have := b9 t
      show σ.2.1 x t ≤ _
      omega
  · rw [n1] at hx
    have := (hc x (by omega)).1 q h3 h7
    have q0 : q ≠ 0 := by omega
    have q1 : q ≠ 1 := by omega
    have q2 : q ≠ 2 := by omega
    simpa [ct_new, ct_sg, ct_sl, q0, q1, q2] using this
  · rw [n1] at hx
    exact (hc x (by omega)).2 t
  · rw [n1]
    have := hd t
    show (ct_new σ a b).1 9 t ≤ _
    have e : (ct_new σ a b).1 9 t = σ.1 9 t := by simp [ct_new, ct_sg, ct_sl]
    omega
  · have e : (ct_new σ a b).1 9 t = σ.1 9 t := by simp [ct_new, ct_sg, ct_sl]
    rw [e]
    exact he t ht
theorem ct_Inv_node {σ : St} (h : ct_Inv σ) (a b : Int32) : ct_Inv (f_node σ a b).2 := by
  unfold f_node
  split
  · exact h
  · rename_i q
    split
    · exact h
    · rename_i q2
      have q3 : ¬ a < nI 1 ∧ ¬ nI 200 < a ∧ ¬ b < nI 0 ∧ ¬ a < b := ⟨fun z => q (Or.inl z), fun z => q (Or.inr (Or.inl z)), fun z => q (Or.inr (Or.inr (Or.inl z))), fun z => q (Or.inr (Or.inr (Or.inr z)))⟩
      obtain ⟨j, rfl, j1, j2, e1⟩ := ct_nat (by omega) (by omega) q3.1 q3.2.1
      obtain ⟨k, rfl, k1, k2, e2⟩ := ct_nat (by omega) (by omega) q3.2.2.1 q3.2.2.2
      rw [e1, e2]
      exact ct_Inv_new h j1 j2 k2 (by have := h.1.1; omega)
theorem ct_Inv_waits {σ : St} (h : ct_Inv σ) (x t y : Int32) : ct_Inv (f_waits σ x t y).2 := by
  unfold f_waits
  split
  · exact h
  · rename_i q
    have hx := ct_kn_some (show σ.1 0 0 < 2 ^ 31 by have := h.1.1; omega) (x := x) (fun z => q (Or.inl z))
    have hy := ct_kn_some (show σ.1 0 0 < 2 ^ 31 by have := h.1.1; omega) (x := y) (fun z => q (Or.inr (Or.inl z)))
    obtain ⟨ha, hb, hc, hd, he⟩ := h
    refine ⟨ha, fun i h1 h2 => ?_, fun i hi => ⟨(hc i hi).1, fun u => ?_⟩, hd, he⟩
    · obtain ⟨b1, b2, b3, b4, b5, b6, b7, b8, b9⟩ := hb i h1 h2
      refine ⟨b1, b2, b3, b4, b5, b6, b7, b8, fun u => ?_⟩
      show (if _ then _ else σ.2.1 i u) ≤ σ.1 0 0
      split
      · exact hy.2.1
      · exact b9 u
    · show (if _ then _ else σ.2.1 i u) = 0
      rw [if_neg]
      · exact (hc i hi).2 u
      · intro z
        have hi' : i = 0 ∨ σ.1 0 0 < i := hi
        omega
theorem ct_Inv_sgN {σ : St} (h : ct_Inv σ) {a i v : Nat} (ha : a = 6) (h1 : 1 ≤ i) (h2 : i ≤ σ.1 0 0) (hv : v ≤ 1) : ct_Inv (ct_sg σ a i v) := by
  subst ha
  obtain ⟨ha, hb, hc, hd, he⟩ := h
  refine ⟨by simpa [ct_sg] using ha, fun x hx1 hx2 => ?_, fun x hx => ⟨fun q h3 h7 => ?_, (hc x (by simpa [ct_sg] using hx)).2⟩, fun t => by simpa [ct_sg] using hd t, fun t ht => by simpa [ct_sg] using he t ht⟩
  · obtain ⟨b1, b2, b3, b4, b5, b6, b7, b8, b9⟩ := hb x hx1 (by simpa [ct_sg] using hx2)
    refine ⟨by simpa [ct_sg] using b1, by simpa [ct_sg] using b2, by simpa [ct_sg] using b3, by simpa [ct_sg] using b4, by simpa [ct_sg] using b5, by simpa [ct_sg] using b6, by simpa [ct_sg] using b7, ?_, by simpa [ct_sg] using b9⟩
    show (if _ then _ else _) ≤ 1
    split
    · exact hv
    · exact b8
  · have hx' : x = 0 ∨ σ.1 0 0 < x := by simpa [ct_sg] using hx
    have := (hc x hx').1 q h3 h7
    have hxi : x ≠ i := by omega
    simpa [ct_sg, hxi] using this
theorem ct_Inv_int {σ : St} (h : ct_Inv σ) (x : Int32) : ct_Inv (f_int σ x).2 := by
  unfold f_int
  split
  · exact h
  · rename_i q
    have hx := ct_kn_some (show σ.1 0 0 < 2 ^ 31 by have := h.1.1; omega) (x := x) (fun z => q (Or.inl z))
    exact ct_Inv_sgN h rfl hx.1 hx.2.1 (Nat.le_refl 1)
theorem ct_Inv_cutC {σ : St} (h : ct_Inv σ) (x : Int32) (v : Int64) : ct_Inv (f_cut σ x v).2 := by
  unfold f_cut
  (repeat' split) <;> first | exact h | exact ct_Inv_sl h _ _
theorem ct_Inv_sg9 {σ : St} (h : ct_Inv σ) {t v : Nat} (h1 : 1 ≤ t) (h2 : t ≤ 16) (hv : v ≤ σ.1 0 0) : ct_Inv (ct_sg σ 9 t v) := by
  obtain ⟨ha, hb, hc, hd, he⟩ := h
  refine ⟨by simpa [ct_sg] using ha, fun x hx1 hx2 => ?_, fun x hx => ⟨fun q h3 h7 => ?_, (hc x (by simpa [ct_sg] using hx)).2⟩, fun u => ?_, fun u hu => ?_⟩
  · have := hb x hx1 (by simpa [ct_sg] using hx2)
    simpa [ct_Nd, ct_sg] using this
  · have q9 : q ≠ 9 := by omega
    simpa [ct_sg, q9] using (hc x (by simpa [ct_sg] using hx)).1 q h3 h7
  · have e : (ct_sg σ 9 t v).1 0 0 = σ.1 0 0 := by simp [ct_sg]
    rw [e]
    show (if _ then _ else _) ≤ _
    split
    · exact hv
    · exact hd u
  · show (if _ then _ else _) = 0
    rw [if_neg (by omega)]
    exact he u hu
theorem ct_Inv_held {σ : St} (h : ct_Inv σ) (x t : Int32) : ct_Inv (f_held σ x t).2 := by
  unfold f_held
  split
  · exact h
  · rename_i q
    have hx := ct_kn_some (show σ.1 0 0 < 2 ^ 31 by have := h.1.1; omega) (x := x) q
    split
    · exact h
    · rename_i q1
      split
      · exact h
      · rename_i q2
        split
        · exact h
        · obtain ⟨j, rfl, j1, j2, e1⟩ := ct_nat (lo := 0) (hi := 16) (by omega) (by omega) (fun z => q1 (Or.inl z)) (fun z => q1 (Or.inr z))
          have j0 : j ≠ 0 := fun z => q2 (by rw [z]; exact nI_0)
          rw [e1]
          exact ct_Inv_sg9 h (by omega) j2 hx.2.1
theorem ct_Inv_bar {σ : St} (h : ct_Inv σ) (k : Int32) : ct_Inv (f_bar σ k).2 := by
  unfold f_bar
  split
  · exact h
  · rename_i q1
    obtain ⟨j, rfl, j1, j2, e1⟩ := ct_nat (lo := 0) (hi := 200) (by omega) (by omega) (fun z => q1 (Or.inl z)) (fun z => q1 (Or.inr z))
    rw [e1]
    obtain ⟨ha, hb, hc, hd, he⟩ := h
    refine ⟨by simp [ct_sg]; omega, fun x hx1 hx2 => ?_, fun x hx => ⟨fun q h3 h7 => ?_, (hc x (by simpa [ct_sg] using hx)).2⟩, fun u => by simpa [ct_sg] using hd u, fun u hu => by simpa [ct_sg] using he u hu⟩
    · have := hb x hx1 (by simpa [ct_sg] using hx2)
      simpa [ct_Nd, ct_sg] using this
    · have q9 : q ≠ 0 := by omega
      simpa [ct_sg, q9] using (hc x (by simpa [ct_sg] using hx)).1 q h3 h7
