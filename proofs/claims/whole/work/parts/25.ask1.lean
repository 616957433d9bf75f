/-! the class's questions -/
theorem p_isWithin (y lo hi : Int64) : B_L_isWithin_0 y lo hi = some (if lo.toInt ≤ y.toInt ∧ y.toInt ≤ hi.toInt then 1 else 0) := by
  unfold B_L_isWithin_0
  by_cases h1 : lg_cmp y lo < 0
  · rw [if_pos h1, if_neg (by rw [lc_lt] at h1; omega)]
  · rw [if_neg h1]
    rw [lc_lt] at h1
    by_cases h2 : 0 < lg_cmp y hi
    · rw [if_pos h2, if_neg (by rw [lc_gt] at h2; omega)]
    · rw [if_neg h2, if_pos (by rw [lc_gt] at h2; omega)]
def isn (x : Int) : Prop := 1 ≤ x ∧ x ≤ 20
theorem p_isNum (y : Int64) : B_L_isNumber_0 y = some (if 1 ≤ y.toInt ∧ y.toInt ≤ 20 then 1 else 0) := by
  unfold B_L_isNumber_0
  rw [p_isWithin, bs, gd_t (by split <;> simp)]
  rfl
theorem p_num (x : Int32) : B_L_isNumber_0 x.toInt64 = some (if 1 ≤ x.toInt ∧ x.toInt ≤ 20 then 1 else 0) := by
  rw [p_isNum, j_of]
theorem if10 {c : Prop} [Decidable c] : ((if c then (1 : Int32) else 0) = 0) ↔ ¬ c := by
  by_cases h : c <;> simp [h]
theorem ne10 : ¬ (1 : Int32) = 0 := by decide
theorem gst_congr {l : List Act} {p q : Nat → Bool} : ∀ k, (∀ j, j < k → p j = q j) → gst l p k = gst l q k
  | 0, _ => rfl
  | k + 1, h => by
    unfold gst
    rw [gst_congr k (fun j hj => h j (by omega)), h k (by omega)]
theorem gok_congr {l : List Act} {p q : Nat → Bool} {k : Nat} (h : ∀ j, j < k → p j = q j) : gok l p k = gok l q k := by
  unfold gok
  rw [gst_congr k h]
theorem gvd_congr {l : List Act} {p q : Nat → Bool} : ∀ k, (∀ j, j < k → p j = q j) → gvd l p k = gvd l q k
  | 0, _ => rfl
  | k + 1, h => by
    unfold gvd
    rw [gvd_congr k (fun j hj => h j (by omega)), h k (by omega), gok_congr (fun j hj => h j (by omega))]
theorem gst_stop {l : List Act} {p : Nat → Bool} {k : Nat} : ∀ m, (∀ j, k ≤ j → j < k + m → p j = false) → gst l p (k + m) = gst l p k
  | 0, _ => rfl
  | m + 1, h => by
    rw [show k + (m + 1) = (k + m) + 1 by omega, gst_n (h (k + m) (by omega) (by omega))]
    exact gst_stop m (fun j h1 h2 => h j h1 (by omega))
def pD (l : List Act) (y : Int64) : Nat → Bool := fun k => match l[k]? with
  | some x => decide ((x.2.2.2 : Int) ≤ y.toInt)
  | none => false
theorem pD_s {l : List Act} {y : Int64} {k : Nat} {x : Act} (h : l[k]? = some x) : pD l y k = decide ((x.2.2.2 : Int) ≤ y.toInt) := by
  simp [pD, h]
def srtd (l : List Act) : Prop := ∀ (i j : Nat) (x z : Act), i ≤ j → l[i]? = some x → l[j]? = some z → x.2.2.2 ≤ z.2.2.2
theorem p_size (u : Lib) : B_R_size_0 u = some (l_sz u) := rfl
theorem p_up {l : List Act} (hv : allv l) (hs : srtd l) (y : Int64) : ∀ (fu k : Nat) (u : Lib), RR u l → k ≤ l.length → l.length - k < fu → RS u (gst l (pD l y) k) → ∃ u2, B_L_performUpTo_9 fu y (nI k) u = some u2 ∧ RS u2 (gst l (pD l y) l.length) ∧ KP u u2
  | 0, k, _, _, _, h2, _ => absurd h2 (by omega)
  | fu + 1, k, u, hL, h1, h2, hR => by
    have h200 := hL.2.1
    show ∃ u2, B_L_performUpTo_9s _ _ _ _ = _ ∧ _
    unfold B_L_performUpTo_9s
    rw [p_size, bs, hL.1]
    by_cases hk : l.length ≤ k
    · rw [if_pos (nI_le hk (by omega))]
      exact ⟨u, rfl, by rw [show l.length = k by omega]; exact hR, KP.rf⟩
    · obtain ⟨x, hx⟩ := get_ex (show k < l.length by omega)
      have hd := (hv k x hx).1
      have hdd := (hL.2.2 k x hx).2.2.2
      rw [if_neg (nI_ge (by omega) (by omega))]
      unfold B_R_dayOf_0
      rw [gd_t (g_in (by omega) (by omega)), bs, nI_clamp (by omega), hdd]
      by_cases hy : 0 < lg_cmp (lN x.2.2.2) y
      · rw [if_pos hy]
        rw [lc_gt, pk_lT (by omega)] at hy
        refine ⟨u, rfl, ?_, KP.rf⟩
        rw [show l.length = k + (l.length - k) by omega, gst_stop]
        · exact hR
        · intro j h3 h4
          obtain ⟨z, hz⟩ := get_ex (show j < l.length by omega)
          have := hs k j x z h3 hx hz
          rw [pD_s hz]
          simp
          omega
      · rw [if_neg hy]
        rw [lc_gt, pk_lT (by omega)] at hy
        obtain ⟨u2, e1, e2, e3⟩ := p_step hL hv hR (show k < l.length by omega) (by rw [pD_s hx]; simp; omega)
        rw [e1, bs, show nI k + (1 : Int32) = nI (k + 1) from nI_1 k]
        obtain ⟨u3, f1, f2, f3⟩ := p_up hv hs y fu (k + 1) u2 (hL.kp e3) (by omega) (by omega) e2
        exact ⟨u3, f1, f2, e3.tr f3⟩
theorem p_upTo {l : List Act} (hv : allv l) (hs : srtd l) (y : Int64) {u : Lib} (hL : RR u l) : ∃ u2, B_L_performUpTo_0 y u = some u2 ∧ RS u2 (gst l (pD l y) l.length) ∧ KP u u2 := by
  unfold B_L_performUpTo_0
  obtain ⟨u1, e1, e2, e3⟩ := p_clear u
  have h200 := hL.2.1
  rw [e1, bs]
  obtain ⟨u3, f1, f2, f3⟩ := p_up hv hs y FU 0 u1 (hL.kp e3) (by omega) (by unfold FU; omega) e2
  exact ⟨u3, f1, f2, e3.tr f3⟩
theorem pD_all {l : List Act} (hv : allv l) : ∀ j, j < l.length → pD l 1000000 j = pA j := by
  intro j hj
  obtain ⟨x, hx⟩ := get_ex hj
  have h := (hv j x hx).1
  rw [pD_s hx]
  have e : (1000000 : Int64).toInt = 1000000 := by decide
  simp [pA]
  omega
def fin9 (l : List Act) : St := gst l pA l.length
theorem p_all {l : List Act} (hv : allv l) (hs : srtd l) {u : Lib} (hL : RR u l) : ∃ u2, B_L_performAll_0 u = some u2 ∧ RS u2 (fin9 l) ∧ KP u u2 := by
  unfold B_L_performAll_0
  obtain ⟨u2, e1, e2, e3⟩ := p_upTo hv hs (1000000 : Int64) hL
  rw [gst_congr _ (pD_all hv)] at e2
  rw [e1, bs]
  exact ⟨u2, rfl, e2, e3⟩
/-- an answer of the class's, its acts and its hits as they were -/
def Ans (m : Option (Int32 × Lib)) (r : Int32) (u : Lib) : Prop := ∃ u2, m = some (r, u2) ∧ KP u u2
def A_counts (l : List Act) (i : Int32) : Int32 := if 0 ≤ i.toInt ∧ i.toInt < l.length then b2 (gok l pA i.toInt.toNat) else -1
theorem p_cnt {l : List Act} (hv : allv l) {n : Nat} (hn : n < l.length) : ∀ (fu k : Nat) (u : Lib), RR u l → k ≤ n → n - k < fu → RS u (gst l pA k) → Ans (B_L_counts_26 fu (nI n) (nI k) u) (b2 (gok l pA n)) u
  | 0, k, _, _, _, h2, _ => absurd h2 (by omega)
  | fu + 1, k, u, hL, h1, h2, hR => by
    have h200 := hL.2.1
    show Ans (B_L_counts_26s _ _ _ _) _ _
    unfold B_L_counts_26s
    obtain ⟨u2, e1, e2, e3⟩ := p_step (p := pA) hL hv hR (show k < l.length by omega) rfl
    by_cases hk : n ≤ k
    · have : k = n := by omega
      subst this
      rw [if_pos (nI_le hk (by omega)), e1, bs]
      by_cases ho : gok l pA k = true
      · rw [b2_t ho, if_neg ne10]
        exact ⟨u2, rfl, e3⟩
      · rw [b2_f ho, if_pos rfl]
        exact ⟨u2, rfl, e3⟩
    · rw [if_neg (nI_ge (by omega) (by omega)), e1, bs, show nI k + (1 : Int32) = nI (k + 1) from nI_1 k]
      obtain ⟨u3, f1, f2⟩ := p_cnt hv hn fu (k + 1) u2 (hL.kp e3) (by omega) (by omega) e2
      exact ⟨u3, f1, e3.tr f2⟩
theorem p_counts {l : List Act} (hv : allv l) {u : Lib} (hL : RR u l) (i : Int32) : Ans (B_L_counts_0 i u) (A_counts l i) u := by
  unfold B_L_counts_0 A_counts
  have h200 := hL.2.1
  have z : (0 : Int32).toInt = 0 := by decide
  by_cases h0 : i < 0
  · rw [if_pos h0]
    rw [i_lt, z] at h0
    rw [if_neg (by omega)]
    exact ⟨u, rfl, KP.rf⟩
  · rw [if_neg h0, p_size, bs, hL.1]
    rw [i_lt, z] at h0
    by_cases h1 : i < nI l.length
    · rw [if_pos h1]
      rw [i_lt, nI_toInt (by omega)] at h1
      rw [if_pos ⟨by omega, h1⟩]
      obtain ⟨u1, e1, e2, e3⟩ := p_clear u
      rw [e1, bs]
      have hi := nI_back (x := i) (by omega)
      obtain ⟨u3, f1, f2⟩ := p_cnt hv (n := i.toInt.toNat) (by omega) FU 0 u1 (hL.kp e3) (by omega) (by unfold FU; omega) e2
      rw [← hi] at f1
      exact ⟨u3, f1, e3.tr f2⟩
    · rw [if_neg h1]
      rw [i_lt, nI_toInt (by omega)] at h1
      rw [if_neg (by omega)]
      exact ⟨u, rfl, KP.rf⟩
theorem p_events {l : List Act} {u : Lib} (hL : RR u l) : B_L_events_0 u = some (nI l.length) := by
  unfold B_L_events_0
  rw [p_size, bs, hL.1]
theorem p_rf {l : List Act} (hv : allv l) : ∀ (fu k : Nat) (u : Lib), RR u l → k ≤ l.length → l.length - k < fu → RS u (gst l pA k) → Ans (B_L_refused_11 fu (nI (gvd l pA k)) (nI k) u) (nI (gvd l pA l.length)) u
  | 0, k, _, _, _, h2, _ => absurd h2 (by omega)
  | fu + 1, k, u, hL, h1, h2, hR => by
    have h200 := hL.2.1
    show Ans (B_L_refused_11s _ _ _ _) _ _
    unfold B_L_refused_11s
    rw [p_size, bs, hL.1]
    by_cases hk : l.length ≤ k
    · rw [if_pos (nI_le hk (by omega)), show l.length = k by omega]
      exact ⟨u, rfl, KP.rf⟩
    · obtain ⟨u2, e1, e2, e3⟩ := p_step (p := pA) hL hv hR (show k < l.length by omega) rfl
      rw [if_neg (nI_ge (by omega) (by omega)), e1, bs]
      unfold B_L_refused_40
      have ih := p_rf hv fu (k + 1) u2 (hL.kp e3) (by omega) (by omega) e2
      by_cases ho : gok l pA k = true
      · rw [b2_t ho, if_neg ne10, show nI k + (1 : Int32) = nI (k + 1) from nI_1 k]
        rw [show gvd l pA (k + 1) = gvd l pA k by simp [gvd, ho]] at ih
        obtain ⟨u3, f1, f2⟩ := ih
        exact ⟨u3, f1, e3.tr f2⟩
      · rw [b2_f ho, if_pos rfl, show nI k + (1 : Int32) = nI (k + 1) from nI_1 k, show nI (gvd l pA k) + (1 : Int32) = nI (gvd l pA k + 1) from nI_1 _]
        rw [show gvd l pA (k + 1) = gvd l pA k + 1 by simp [gvd, ho, pA]] at ih
        obtain ⟨u3, f1, f2⟩ := ih
        exact ⟨u3, f1, e3.tr f2⟩
theorem p_refused {l : List Act} (hv : allv l) {u : Lib} (hL : RR u l) : Ans (B_L_refused_0 u) (nI (gvd l pA l.length)) u := by
  unfold B_L_refused_0
  have h200 := hL.2.1
  obtain ⟨u1, e1, e2, e3⟩ := p_clear u
  rw [e1, bs]
  obtain ⟨u3, f1, f2⟩ := p_rf hv FU 0 u1 (hL.kp e3) (by omega) (by unfold FU; omega) e2
  exact ⟨u3, f1, e3.tr f2⟩
