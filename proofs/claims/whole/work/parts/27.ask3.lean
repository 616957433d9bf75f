def PK (l : List Act) (who : Int32) (y : Int64) (days : Int32) : Nat → Bool := fun k => match l[k]? with
  | some x => decide (x.1 = 4 ∧ nI (s_pe (gst l pA k) x.2.1) = who ∧ ¬ (lN x.2.2.2 + days.toInt64).toInt < y.toInt)
  | none => false
def vK (l : List Act) : Nat → Int32 := fun k => match l[k]? with
  | some x => nI x.2.1
  | none => 0
theorem PK_s {l : List Act} {who days : Int32} {y : Int64} {k : Nat} {x : Act} (h : l[k]? = some x) : PK l who y days k = decide (x.1 = 4 ∧ nI (s_pe (gst l pA k) x.2.1) = who ∧ ¬ (lN x.2.2.2 + days.toInt64).toInt < y.toInt) := by
  simp [PK, h]
theorem vact_le {x : Act} (h : vact x) : x.1 ≤ 10 := by
  obtain ⟨so, a, b, d⟩ := x
  show so ≤ 10
  rcases Nat.lt_or_ge so 11 with q | q
  · omega
  · obtain ⟨k, rfl⟩ : ∃ k, so = k + 11 := ⟨so - 11, by omega⟩
    exact h.2.elim
theorem vact_4 {x : Act} (h : vact x) (h4 : x.1 = 4) : 1 ≤ x.2.1 ∧ x.2.1 ≤ 20 := by
  obtain ⟨so, a, b, d⟩ := x
  have h4 : so = 4 := h4
  subst h4
  exact h.2
theorem p_kp {l : List Act} (hv : allv l) (who i : Int32) (y : Int64) (days : Int32) (hw : 1 ≤ who.toInt) : ∀ (fu m k : Nat) (c : Int32) (u : Lib), RR u l → k + m = l.length → m < fu → RS u (gst l pA k) → Ans (B_L_kept_27 fu who i y days c (nI k) u) (sel (PK l who y days) (vK l) i m k c) u
  | 0, m, k, _, _, _, _, h2, _ => absurd h2 (by omega)
  | fu + 1, 0, k, c, u, hL, h1, h2, hR => by
    have h200 := hL.2.1
    show Ans (B_L_kept_27s _ _ _ _ _ _ _ _) _ _
    unfold B_L_kept_27s
    rw [p_size, bs, hL.1, if_pos (nI_le (by omega) (by omega))]
    exact ⟨u, rfl, KP.rf⟩
  | fu + 1, m + 1, k, c, u, hL, h1, h2, hR => by
    have h200 := hL.2.1
    show Ans (B_L_kept_27s _ _ _ _ _ _ _ _) _ _
    unfold B_L_kept_27s B_L_kept_73 B_L_kept_74 B_L_kept_131 sel
    obtain ⟨x, hx⟩ := get_ex (show k < l.length by omega)
    obtain ⟨a1, a2, a3, a4⟩ := hL.2.2 k x hx
    have hvx := hv k x hx
    have h10 := vact_le hvx
    have hd := hvx.1
    obtain ⟨u2, e1, e2, e3⟩ := p_step (p := pA) hL hv hR (show k < l.length by omega) rfl
    have ih : ∀ c, Ans (B_L_kept_27 fu who i y days c (nI (k + 1)) u2) (sel (PK l who y days) (vK l) i m (k + 1) c) u := fun c => by
      obtain ⟨u3, f1, f2⟩ := p_kp hv who i y days hw fu m (k + 1) c u2 (hL.kp e3) (by omega) (by omega) e2
      exact ⟨u3, f1, e3.tr f2⟩
    rw [p_size, bs, hL.1, if_neg (nI_ge (by omega) (by omega))]
    unfold B_R_copyGivenBackBy_0
    rw [gd_t (g_in (by omega) (by omega)), gd_t (g_in (by omega) (by omega)), nI_clamp (by omega), a1, a2, show nI k + (1 : Int32) = nI (k + 1) from nI_1 k, PK_s hx]
    by_cases q4 : x.1 = 4
    · obtain ⟨b1, b3⟩ := vact_4 hvx q4
      have hpe := (SW_g hv pA k).2.1 x.2.1
      rw [if_pos (by rw [q4]; rfl), bs, if_neg (n_m1 (by omega))]
      unfold B_S_personWith_0
      rw [gd_t (g_in (by omega) (by omega)), bs, nI_clamp (by omega), hR.2.2.1 _ b3, e1, bs, bs]
      by_cases q5 : nI (s_pe (gst l pA k) x.2.1) = who
      · have hne : s_pe (gst l pA k) x.2.1 ≠ 0 := by
          intro z
          rw [z] at q5
          rw [← q5, nI_toInt (by omega)] at hw
          omega
        have ho : gok l pA k = true := by
          rw [gok_s hx]
          obtain ⟨so, a, b, d⟩ := x
          have q4 : so = 4 := q4
          subst q4
          simpa [s_ok] using hne
        rw [if_pos q5, if_neg ne10, b2_t ho, if_neg ne10]
        unfold B_R_dayOf_0
        rw [gd_t (g_in (by omega) (by omega)), bs, nI_clamp (by omega), e3.2.2.2.2.1, a4]
        by_cases q6 : lg_cmp (lN x.2.2.2 + days.toInt64) y < 0
        · rw [if_pos q6]
          rw [lc_lt] at q6
          rw [if_neg (fun z => (of_decide_eq_true z).2.2 q6)]
          exact ih c
        · rw [if_neg q6]
          rw [lc_lt] at q6
          rw [if_pos (decide_eq_true ⟨q4, q5, q6⟩)]
          by_cases q7 : c = i
          · rw [if_pos q7, if_pos q7, show vK l k = nI x.2.1 by simp [vK, hx]]
            exact ⟨u2, rfl, e3⟩
          · rw [if_neg q7, if_neg q7]
            exact ih (c + 1)
      · rw [if_neg q5, if_pos rfl, if_neg (fun z => q5 (of_decide_eq_true z).2.1)]
        exact ih c
    · rw [if_neg (fun e => q4 ((nI_eq (by omega) (by omega)).mp (e.trans (show (4 : Int32) = nI 4 from rfl)))), bs, if_pos rfl, e1, bs, if_pos rfl, if_neg (fun z => q4 (of_decide_eq_true z).1)]
      exact ih c
def A_kept (l : List Act) (who i : Int32) (y : Int64) (days : Int32) : Int32 := if (1 ≤ who.toInt ∧ who.toInt ≤ 20) ∧ 0 ≤ i.toInt then sel (PK l who y days) (vK l) i l.length 0 0 else -1
theorem p_kept {l : List Act} (hv : allv l) {u : Lib} (hL : RR u l) (who i : Int32) (y : Int64) (days : Int32) : Ans (B_L_kept_0 who i y days u) (A_kept l who i y days) u := by
  unfold B_L_kept_0 A_kept
  have h200 := hL.2.1
  rw [p_num, bs]
  by_cases hn : 1 ≤ who.toInt ∧ who.toInt ≤ 20
  · rw [if_pos hn, if_neg ne10]
    by_cases h0 : 0 ≤ i
    · rw [if_pos h0]
      rw [ge0] at h0
      rw [if_pos ⟨hn, h0⟩]
      obtain ⟨u1, e1, e2, e3⟩ := p_clear u
      rw [e1, bs]
      obtain ⟨u3, f1, f2⟩ := p_kp hv who i y days hn.1 FU l.length 0 0 u1 (hL.kp e3) (by omega) (by unfold FU; omega) e2
      exact ⟨u3, f1, e3.tr f2⟩
    · rw [if_neg h0]
      rw [ge0] at h0
      rw [if_neg (fun q => h0 q.2)]
      exact ⟨u, rfl, KP.rf⟩
  · rw [if_neg hn, if_pos rfl, if_neg (fun q => hn q.1)]
    exact ⟨u, rfl, KP.rf⟩
def P_with (s : St) (who : Int32) : Nat → Bool := fun c => decide (nI (s_pe s c) = who)
theorem p_with {u : Lib} {s : St} (hR : RS u s) (who : Int32) : ∀ (fu k : Nat), k ≤ 20 → 20 - k < fu → B_S_copiesWith_4 fu who (nI (cntp (P_with s who) k)) (nI (k + 1)) u = some (nI (cntp (P_with s who) 20))
  | 0, k, _, h2 => absurd h2 (by omega)
  | fu + 1, k, h1, h2 => by
    show B_S_copiesWith_4s _ _ _ _ _ = _
    unfold B_S_copiesWith_4s B_S_copiesWith_23
    by_cases hk : 20 ≤ k
    · rw [if_pos (by rw [show (20 : Int32) = nI 20 from rfl]; exact nI_lt (by omega) (by omega)), show k = 20 by omega]
    · have ih := p_with hR who fu (k + 1) (by omega) (by omega)
      have e1 : nI (k + 1) + (1 : Int32) = nI (k + 1 + 1) := nI_1 _
      have e2 : nI (cntp (P_with s who) k) + (1 : Int32) = nI (cntp (P_with s who) k + 1) := nI_1 _
      rw [if_neg (by rw [show (20 : Int32) = nI 20 from rfl]; exact nI_nlt (by omega) (by omega)), gd_t (g_in (by omega) (by omega)), nI_clamp (by omega), hR.2.2.1 (k + 1) (by omega), e1, e2]
      by_cases q : nI (s_pe s (k + 1)) = who
      · rw [if_pos q]
        rw [show cntp (P_with s who) (k + 1) = cntp (P_with s who) k + 1 by simp [cntp, P_with, q]] at ih
        exact ih
      · rw [if_neg q]
        rw [show cntp (P_with s who) (k + 1) = cntp (P_with s who) k by simp [cntp, P_with, q]] at ih
        exact ih
def gpk (l : List Act) (p : Nat → Bool) (who : Int32) : Nat → Nat
  | 0 => 0
  | k + 1 => if p k = true then max (gpk l p who k) (cntp (P_with (gst l p (k + 1)) who) 20) else gpk l p who k
theorem gpk_le (l : List Act) (p : Nat → Bool) (who : Int32) : ∀ k, gpk l p who k ≤ 20
  | 0 => Nat.zero_le _
  | k + 1 => by
    have ih := gpk_le l p who k
    have := cntp_le (P_with (gst l p (k + 1)) who) 20
    unfold gpk
    split
    · omega
    · exact ih
theorem mx {a b : Nat} (ha : a < 2 ^ 31) (hb : b < 2 ^ 31) : (if nI a < nI b then nI b else nI a) = nI (max a b) := by
  by_cases h : a < b
  · rw [if_pos (nI_lt h hb), show max a b = b by omega]
  · rw [if_neg (nI_nlt (by omega) ha), show max a b = a by omega]
theorem p_ms {l : List Act} (hv : allv l) (who : Int32) : ∀ (fu k : Nat) (u : Lib), RR u l → k ≤ l.length → l.length - k < fu → RS u (gst l pA k) → Ans (B_L_most_36 fu who (nI (gpk l pA who k)) (nI k) u) (nI (gpk l pA who l.length)) u
  | 0, k, _, _, _, h2, _ => absurd h2 (by omega)
  | fu + 1, k, u, hL, h1, h2, hR => by
    have h200 := hL.2.1
    show Ans (B_L_most_36s _ _ _ _ _) _ _
    unfold B_L_most_36s
    rw [p_size, bs, hL.1]
    by_cases hk : l.length ≤ k
    · rw [if_pos (nI_le hk (by omega)), show l.length = k by omega]
      exact ⟨u, rfl, KP.rf⟩
    · obtain ⟨u2, e1, e2, e3⟩ := p_step (p := pA) hL hv hR (show k < l.length by omega) rfl
      have g1 := gpk_le l pA who k
      have g2 := cntp_le (P_with (gst l pA (k + 1)) who) 20
      have hx := p_with e2 who FU 0 (by omega) (by unfold FU; omega)
      have hy : B_S_copiesWith_0 who u2 = some (nI (cntp (P_with (gst l pA (k + 1)) who) 20)) := hx
      rw [if_neg (nI_ge (by omega) (by omega)), e1, bs]
      show Ans ((B_S_copiesWith_0 who u2).bind _) _ _
      rw [hy, bs, mx (by omega) (by omega), show nI k + (1 : Int32) = nI (k + 1) from nI_1 k]
      have ih := p_ms hv who fu (k + 1) u2 (hL.kp e3) (by omega) (by omega) e2
      rw [show gpk l pA who (k + 1) = max (gpk l pA who k) (cntp (P_with (gst l pA (k + 1)) who) 20) by simp [gpk, pA]] at ih
      obtain ⟨u3, f1, f2⟩ := ih
      exact ⟨u3, f1, e3.tr f2⟩
def A_most (l : List Act) (who : Int32) : Int32 := if 1 ≤ who.toInt ∧ who.toInt ≤ 20 then (if l.length ≤ 100 then nI (gpk l pA who l.length) else -9) else -1
theorem p_most {l : List Act} (hv : allv l) {u : Lib} (hL : RR u l) (who : Int32) : Ans (B_L_most_0 who u) (A_most l who) u := by
  unfold B_L_most_0 A_most
  have h200 := hL.2.1
  rw [p_num, bs]
  by_cases hn : 1 ≤ who.toInt ∧ who.toInt ≤ 20
  · rw [if_pos hn, if_neg ne10, if_pos hn, p_size, bs, hL.1]
    by_cases h : l.length ≤ 100
    · rw [if_pos (by rw [show (100 : Int32) = nI 100 from rfl]; exact nI_le h (by omega)), if_pos h]
      obtain ⟨u1, e1, e2, e3⟩ := p_clear u
      rw [e1, bs]
      obtain ⟨u3, f1, f2⟩ := p_ms hv who FU 0 u1 (hL.kp e3) (by omega) (by unfold FU; omega) e2
      exact ⟨u3, f1, e3.tr f2⟩
    · rw [if_neg (by rw [show (100 : Int32) = nI 100 from rfl]; exact nI_ge (by omega) (by omega)), if_neg h]
      exact ⟨u, rfl, KP.rf⟩
  · rw [if_neg hn, if_pos rfl, if_neg hn]
    exact ⟨u, rfl, KP.rf⟩
