theorem tot_hv (s : St) (f : Nat) (h : ∀ b, s_sm s f b ≤ 7) : ∀ k, cntp (fun b => decide (s_sm s f b = 0 + 1)) k + cntp (fun b => decide (s_sm s f b = 1 + 1)) k + cntp (fun b => decide (s_sm s f b = 2 + 1)) k + cntp (fun b => decide (s_sm s f b = 3 + 1)) k + cntp (fun b => decide (s_sm s f b = 4 + 1)) k + cntp (fun b => decide (s_sm s f b = 5 + 1)) k + cntp (fun b => decide (s_sm s f b = 6 + 1)) k = cntp (fun b => decide (s_sm s f b ≠ 0)) k
  | 0 => rfl
  | k + 1 => by
    have ih := tot_hv s f h k
    have hx := h (k + 1)
    have hc : s_sm s f (k + 1) = 0 ∨ s_sm s f (k + 1) = 1 ∨ s_sm s f (k + 1) = 2 ∨ s_sm s f (k + 1) = 3 ∨ s_sm s f (k + 1) = 4 ∨ s_sm s f (k + 1) = 5 ∨ s_sm s f (k + 1) = 6 ∨ s_sm s f (k + 1) = 7 := by omega
    simp only [cntp]
    generalize cntp (fun b => decide (s_sm s f b = 0 + 1)) k = c0 at ih ⊢
    generalize cntp (fun b => decide (s_sm s f b = 1 + 1)) k = c1 at ih ⊢
    generalize cntp (fun b => decide (s_sm s f b = 2 + 1)) k = c2 at ih ⊢
    generalize cntp (fun b => decide (s_sm s f b = 3 + 1)) k = c3 at ih ⊢
    generalize cntp (fun b => decide (s_sm s f b = 4 + 1)) k = c4 at ih ⊢
    generalize cntp (fun b => decide (s_sm s f b = 5 + 1)) k = c5 at ih ⊢
    generalize cntp (fun b => decide (s_sm s f b = 6 + 1)) k = c6 at ih ⊢
    generalize cntp (fun b => decide (s_sm s f b ≠ 0)) k = c9 at ih ⊢
    rcases hc with e | e | e | e | e | e | e | e <;> simp [e] <;> omega
def hv9 (s : St) (f : Nat) : Nat := cntp (fun b => decide (s_sm s f b ≠ 0)) 5
theorem tot_eq (s : St) (f : Nat) (h : ∀ b, s_sm s f b ≤ 7) : tot9 s f 7 = hv9 s f := by
  have := tot_hv s f h 5
  unfold hv9
  rw [← this]
  simp only [tot9, sw9]
  omega
/-- the last that more than half have -/
def bst (s : St) (f t : Nat) : Nat → Int32
  | 0 => 7
  | v + 1 => if 2 * sw9 s f v ≤ t then bst s f t v else nI v
theorem bst_eq (s : St) (f : Nat) : bst s f (tot9 s f 7) 7 = mj9 s f (tot9 s f 7) 7 0 := by
  have e : tot9 s f 7 = 0 + sw9 s f 0 + sw9 s f 1 + sw9 s f 2 + sw9 s f 3 + sw9 s f 4 + sw9 s f 5 + sw9 s f 6 := rfl
  generalize tot9 s f 7 = t at e
  show (if 2 * sw9 s f 6 ≤ t then (if 2 * sw9 s f 5 ≤ t then (if 2 * sw9 s f 4 ≤ t then (if 2 * sw9 s f 3 ≤ t then (if 2 * sw9 s f 2 ≤ t then (if 2 * sw9 s f 1 ≤ t then (if 2 * sw9 s f 0 ≤ t then (7 : Int32) else nI 0) else nI 1) else nI 2) else nI 3) else nI 4) else nI 5) else nI 6) = (if 2 * sw9 s f 0 ≤ t then (if 2 * sw9 s f 1 ≤ t then (if 2 * sw9 s f 2 ≤ t then (if 2 * sw9 s f 3 ≤ t then (if 2 * sw9 s f 4 ≤ t then (if 2 * sw9 s f 5 ≤ t then (if 2 * sw9 s f 6 ≤ t then (7 : Int32) else nI 6) else nI 5) else nI 4) else nI 3) else nI 2) else nI 1) else nI 0)
  generalize sw9 s f 0 = a0 at e ⊢
  generalize sw9 s f 1 = a1 at e ⊢
  generalize sw9 s f 2 = a2 at e ⊢
  generalize sw9 s f 3 = a3 at e ⊢
  generalize sw9 s f 4 = a4 at e ⊢
  generalize sw9 s f 5 = a5 at e ⊢
  generalize sw9 s f 6 = a6 at e ⊢
  by_cases h0 : 2 * a0 ≤ t
  · by_cases h1 : 2 * a1 ≤ t
    · by_cases h2 : 2 * a2 ≤ t
      · by_cases h3 : 2 * a3 ≤ t
        · by_cases h4 : 2 * a4 ≤ t
          · by_cases h5 : 2 * a5 ≤ t
            · simp only [if_pos h0, if_pos h1, if_pos h2, if_pos h3, if_pos h4, if_pos h5]
            · have g6 : 2 * a6 ≤ t := by omega
              simp only [if_pos h0, if_pos h1, if_pos h2, if_pos h3, if_pos h4, if_neg h5, if_pos g6]
          · have g6 : 2 * a6 ≤ t := by omega
            have g5 : 2 * a5 ≤ t := by omega
            simp only [if_pos h0, if_pos h1, if_pos h2, if_pos h3, if_neg h4, if_pos g6, if_pos g5]
        · have g6 : 2 * a6 ≤ t := by omega
          have g5 : 2 * a5 ≤ t := by omega
          have g4 : 2 * a4 ≤ t := by omega
          simp only [if_pos h0, if_pos h1, if_pos h2, if_neg h3, if_pos g6, if_pos g5, if_pos g4]
      · have g6 : 2 * a6 ≤ t := by omega
        have g5 : 2 * a5 ≤ t := by omega
        have g4 : 2 * a4 ≤ t := by omega
        have g3 : 2 * a3 ≤ t := by omega
        simp only [if_pos h0, if_pos h1, if_neg h2, if_pos g6, if_pos g5, if_pos g4, if_pos g3]
    · have g6 : 2 * a6 ≤ t := by omega
      have g5 : 2 * a5 ≤ t := by omega
      have g4 : 2 * a4 ≤ t := by omega
      have g3 : 2 * a3 ≤ t := by omega
      have g2 : 2 * a2 ≤ t := by omega
      simp only [if_pos h0, if_neg h1, if_pos g6, if_pos g5, if_pos g4, if_pos g3, if_pos g2]
  · have g6 : 2 * a6 ≤ t := by omega
    have g5 : 2 * a5 ≤ t := by omega
    have g4 : 2 * a4 ≤ t := by omega
    have g3 : 2 * a3 ≤ t := by omega
    have g2 : 2 * a2 ≤ t := by omega
    have g1 : 2 * a1 ≤ t := by omega
    simp only [if_neg h0, if_pos g6, if_pos g5, if_pos g4, if_pos g3, if_pos g2, if_pos g1]
theorem ix6 {f b : Nat} : (6 : Int32) * nI f + nI b = nI (f * 6 + b) := by rw [show (6 : Int32) = nI 6 from rfl, pk_mul, nI_add, Nat.mul_comm]
theorem m_p79 {w : Mod} {s : St} (hR : RM w s) (hW : SW s) {f t v : Nat} (hf : f ≤ 20) (hv : v ≤ 6) (ht : t ≤ 5) (k66 : Int32 → Int32 → Int32 → Int32 → Mod → Option (Int32 × Mod)) (best : Int32) : ∀ (fu k : Nat), k ≤ 5 → 5 - k < fu → B_M_poll_79 k66 fu (nI f) (nI t) best (nI v) (nI (cntp (fun b => decide (s_sm s f b = v + 1)) k)) (nI (k + 1)) w = k66 (nI f) (nI t) (if 2 * sw9 s f v ≤ t then best else nI v) (nI (v + 1)) w
  | 0, k, _, h2 => absurd h2 (by omega)
  | fu + 1, k, h1, h2 => by
    show B_M_poll_79s _ _ _ _ _ _ _ _ _ = _
    unfold B_M_poll_79s B_M_poll_110 B_M_poll_133
    have hs5 := sw9_le s f v
    by_cases hk : 5 ≤ k
    · have : k = 5 := by omega
      subst this
      rw [if_pos (by rw [show (6 : Int32) = nI 6 from rfl]; exact nI_le (by omega) (by omega)), nI_1]
      show (if (2 : Int32) * nI (sw9 s f v) ≤ nI t then _ else _) = _
      rw [show (2 : Int32) * nI (sw9 s f v) = nI (2 * sw9 s f v) from by rw [show (2 : Int32) = nI 2 from rfl, pk_mul]]
      by_cases q : 2 * sw9 s f v ≤ t
      · rw [if_pos (nI_le q (by omega)), if_pos q]
      · rw [if_neg (nI_ge (by omega) (by omega)), if_neg q]
    · have ih := m_p79 hR hW hf hv ht k66 best fu (k + 1) (by omega) (by omega)
      have hz := hW.2.2.2.2.2.1 f (k + 1)
      have e0 : nI (cntp (fun b => decide (s_sm s f b = v + 1)) k) + (0 : Int32) = nI (cntp (fun b => decide (s_sm s f b = v + 1)) k) := nI_add _ 0
      rw [if_neg (by rw [show (6 : Int32) = nI 6 from rfl]; exact nI_ge (by omega) (by omega)), ix6, gd_t (g_in (by omega) (by omega)), nI_clamp (by omega), hR.2.2.2.2.2.2.2 f (k + 1) hf (by omega), nI_1 (k + 1), nI_1, e0]
      by_cases q : s_sm s f (k + 1) = v + 1
      · rw [if_pos ((sm_eq hz (by omega)).mpr q)]
        rw [show cntp (fun b => decide (s_sm s f b = v + 1)) (k + 1) = cntp (fun b => decide (s_sm s f b = v + 1)) k + 1 by simp [cntp, q]] at ih
        exact ih
      · rw [if_neg (fun e => q ((sm_eq hz (by omega)).mp e))]
        rw [show cntp (fun b => decide (s_sm s f b = v + 1)) (k + 1) = cntp (fun b => decide (s_sm s f b = v + 1)) k by simp [cntp, q]] at ih
        exact ih
theorem m_p66 {w : Mod} {s : St} (hR : RM w s) (hW : SW s) {f t : Nat} (hf : f ≤ 20) (ht : t ≤ 5) : ∀ (fu v : Nat), v ≤ 7 → 7 - v < fu → B_M_poll_66 fu (nI f) (nI t) (bst s f t v) (nI v) w = some (if t = 0 then -1 else bst s f t 7, w)
  | 0, v, _, h2 => absurd h2 (by omega)
  | fu + 1, v, h1, h2 => by
    show B_M_poll_66s _ _ _ _ _ _ = _
    unfold B_M_poll_66s
    by_cases hk : 7 ≤ v
    · have : v = 7 := by omega
      subst this
      rw [if_pos (by rw [show (7 : Int32) = nI 7 from rfl]; exact nI_le (by omega) (by omega))]
      by_cases q : t = 0
      · rw [if_pos ((n0 (by omega)).mpr q), if_pos q]
      · rw [if_neg (fun e => q ((n0 (by omega)).mp e)), if_neg q]
    · rw [if_neg (by rw [show (7 : Int32) = nI 7 from rfl]; exact nI_ge (by omega) (by omega))]
      have hx := m_p79 hR hW (v := v) hf (by omega) ht (B_M_poll_66 fu) (bst s f t v) FU 0 (by omega) (by unfold FU; omega)
      exact hx.trans (m_p66 hR hW hf ht fu (v + 1) (by omega) (by omega))
theorem m_p26 {w : Mod} {s : St} (hR : RM w s) (hW : SW s) {f : Nat} (hf : f ≤ 20) : ∀ (fu k : Nat), k ≤ 5 → 5 - k < fu → B_M_poll_26 fu (nI f) (nI (cntp (fun b => decide (s_sm s f b ≠ 0)) k)) 7 (nI (k + 1)) w = some (if hv9 s f = 0 then -1 else bst s f (hv9 s f) 7, w)
  | 0, k, _, h2 => absurd h2 (by omega)
  | fu + 1, k, h1, h2 => by
    show B_M_poll_26s _ _ _ _ _ _ = _
    unfold B_M_poll_26s B_M_poll_55
    by_cases hk : 5 ≤ k
    · have : k = 5 := by omega
      subst this
      rw [if_pos (by rw [show (6 : Int32) = nI 6 from rfl]; exact nI_le (by omega) (by omega))]
      exact m_p66 hR hW hf (cntp_le _ 5) FU 0 (by omega) (by unfold FU; omega)
    · have ih := m_p26 hR hW hf fu (k + 1) (by omega) (by omega)
      have hz := hW.2.2.2.2.2.1 f (k + 1)
      have e0 : nI (cntp (fun b => decide (s_sm s f b ≠ 0)) k) + (0 : Int32) = nI (cntp (fun b => decide (s_sm s f b ≠ 0)) k) := nI_add _ 0
      rw [if_neg (by rw [show (6 : Int32) = nI 6 from rfl]; exact nI_ge (by omega) (by omega)), ix6, gd_t (g_in (by omega) (by omega)), nI_clamp (by omega), hR.2.2.2.2.2.2.2 f (k + 1) hf (by omega), nI_1 (k + 1), nI_1, e0]
      by_cases q : s_sm s f (k + 1) = 0
      · rw [if_pos (by rw [q]; decide)]
        rw [show cntp (fun b => decide (s_sm s f b ≠ 0)) (k + 1) = cntp (fun b => decide (s_sm s f b ≠ 0)) k by simp [cntp, q]] at ih
        exact ih
      · rw [if_neg (by rw [show (1 : Int32) = nI 1 from rfl, pk_sub (by omega)]; exact n_m1 (by omega))]
        rw [show cntp (fun b => decide (s_sm s f b ≠ 0)) (k + 1) = cntp (fun b => decide (s_sm s f b ≠ 0)) k + 1 by simp [cntp, q]] at ih
        exact ih
theorem m_poll {l : List Act} (hv : allv l) {w : Mod} (hL : RRM w l) (f : Int32) : AnsM (B_M_poll_0 f w) (A_poll l f) w := by
  unfold B_M_poll_0 A_poll
  rw [m_num, bs]
  by_cases hn : 1 ≤ f.toInt ∧ f.toInt ≤ 20
  · rw [if_pos hn, if_neg ne10, if_pos hn]
    obtain ⟨k, k1, k2, rfl⟩ := n_ex hn
    rw [nI_toInt (by omega), show ((k : Int)).toNat = k by omega]
    obtain ⟨w2, e1, ⟨a1, a2, a3, a4, a5, a6⟩, e3⟩ := m_all hv hL
    have hW : SW (fin9 l) := SW_g hv pA l.length
    have hx := m_p26 (s := fin9 l) a2 hW k2 FU 0 (by omega) (by unfold FU; omega)
    have ht := tot_eq (fin9 l) k (hW.2.2.2.2.2.1 k)
    rw [e1, bs, ← bst_eq, ht]
    exact ⟨w2, hx, e3⟩
  · rw [if_neg hn, if_pos rfl, if_neg hn]
    exact ⟨_, rfl, KC.th⟩
theorem m_most {l : List Act} (hv : allv l) {w : Mod} (hL : RRM w l) (who : Int32) : AnsM (B_M_most_0 who w) (A_most l who) w := by
  unfold B_M_most_0 A_most
  have h200 := hL.2.1
  have ec : m_ct (m_th_w w 0) = nI l.length := hL.1
  rw [m_num, bs]
  by_cases hn : 1 ≤ who.toInt ∧ who.toInt ≤ 20
  · rw [if_pos hn, if_neg ne10, if_pos hn, ec]
    by_cases h : l.length ≤ 100
    · rw [if_pos (by rw [show (100 : Int32) = nI 100 from rfl]; exact nI_le h (by omega)), if_pos h]
      obtain ⟨w2, e1, ⟨a1, a2, a3, a4, a5, a6⟩, e3⟩ := m_goA hv (hL.kc KC.th) who
      rw [e1, bs, a4]
      exact ⟨w2, rfl, KC.th.tr e3⟩
    · rw [if_neg (by rw [show (100 : Int32) = nI 100 from rfl]; exact nI_ge (by omega) (by omega)), if_neg h]
      exact ⟨_, rfl, KC.th⟩
  · rw [if_neg hn, if_pos rfl, if_neg hn]
    exact ⟨_, rfl, KC.th⟩
theorem m_hit9 {w : Mod} {q : List Nat} (h : RH (m_hc w) (m_hit w) q) (i : Int32) : AnsM (B_M_hit_0 i w) (A_hit q i) w := by
  unfold B_M_hit_0 B_M_hit_17 A_hit
  obtain ⟨h1, h2, h3⟩ := h
  have ec : m_hc (m_th_w w 0) = nI q.length := h1
  have eh : m_hit (m_th_w w 0) = m_hit w := rfl
  by_cases h0 : i < 0
  · rw [if_pos h0]
    rw [lt0] at h0
    rw [if_neg (by omega)]
    exact ⟨_, rfl, KC.th⟩
  · rw [if_neg h0, ec, eh]
    rw [lt0] at h0
    by_cases h4 : i < nI q.length
    · rw [if_pos h4]
      rw [i_lt, nI_toInt (by omega)] at h4
      rw [gd_t (by omega), if_pos (by omega), show i.toNatClampNeg = i.toInt.toNat from rfl, h3 _ (by omega)]
      exact ⟨_, rfl, KC.th⟩
    · rw [if_neg h4]
      rw [i_lt, nI_toInt (by omega)] at h4
      rw [if_neg (by omega)]
      exact ⟨_, rfl, KC.th⟩
theorem m_kp {l : List Act} (hv : allv l) {w : Mod} (hJ : J l pA (-1) l.length w) {who i : Int32} (y : Int64) (days : Int32) (hw : 1 ≤ who.toInt ∧ who.toInt ≤ 20) (hi : 0 ≤ i.toInt) : ∀ (fu m k : Nat) (c : Int32), k + m = l.length → m < fu → B_M_kept_15 fu who i y days c (nI k) w = some (sel (PK l who y days) (vK l) i m k c, w)
  | 0, m, k, _, _, h2 => absurd h2 (by omega)
  | fu + 1, 0, k, c, h1, h2 => by
    obtain ⟨hL, a2, a3, a4, a5, a6⟩ := hJ
    have h200 := hL.2.1
    show B_M_kept_15s _ _ _ _ _ _ _ _ = _
    unfold B_M_kept_15s
    rw [hL.1, if_pos (nI_le (by omega) (by omega))]
    rfl
  | fu + 1, m + 1, k, c, h1, h2 => by
    have ih := fun c => m_kp hv hJ y days hw hi fu m (k + 1) c (by omega) (by omega)
    obtain ⟨hL, a2, a3, a4, a5, a6⟩ := hJ
    have h200 := hL.2.1
    obtain ⟨x, hx⟩ := get_ex (show k < l.length by omega)
    obtain ⟨b1, b3, b4, b5⟩ := hL.2.2 k x hx
    have h10 := vact_le (hv k x hx)
    have gg := g_in (show k < 200 by omega) (by omega)
    show B_M_kept_15s _ _ _ _ _ _ _ _ = _
    unfold B_M_kept_15s B_M_kept_90 sel
    rw [hL.1, if_neg (nI_ge (by omega) (by omega)), m_num, bs, if_pos hw, if_neg ne10, if_neg (by rw [lt0]; omega), gd_t gg, gd_t gg, gd_t gg, gd_t gg, nI_clamp (by omega), b1, b3, b5, nI_1, PK_s hx]
    by_cases q4 : x.1 = 4
    · rw [if_pos (by rw [q4]; rfl), a6 k x (by omega) rfl hx q4]
      by_cases q5 : nI (s_pe (gst l pA k) x.2.1) = who
      · rw [if_pos q5]
        by_cases q6 : lg_cmp (lN x.2.2.2 + days.toInt64) y < 0
        · rw [if_pos q6]
          rw [lc_lt] at q6
          rw [if_neg (fun z => (of_decide_eq_true z).2.2 q6)]
          exact ih c
        · rw [if_neg q6]
          rw [lc_lt] at q6
          rw [if_pos (decide_eq_true ⟨q4, q5, q6⟩)]
          by_cases q7 : c = i
          · rw [if_pos q7, if_pos q7, show vK l k = nI x.2.1 by simp [vK, hx]]
          · rw [if_neg q7, if_neg q7]
            exact ih (c + 1)
      · rw [if_neg q5, if_neg (fun z => q5 (of_decide_eq_true z).2.1)]
        exact ih c
    · rw [if_neg (fun e => q4 ((nI_eq (by omega) (by omega)).mp (e.trans (show (4 : Int32) = nI 4 from rfl)))), if_neg (fun z => q4 (of_decide_eq_true z).1)]
      exact ih c
theorem m_kept {l : List Act} (hv : allv l) {w : Mod} (hL : RRM w l) (who i : Int32) (y : Int64) (days : Int32) : AnsM (B_M_kept_0 who i y days w) (A_kept l who i y days) w := by
  unfold B_M_kept_0 A_kept
  have h200 := hL.2.1
  obtain ⟨w2, e1, hJ, e3⟩ := m_all hv hL
  rw [e1, bs]
  by_cases hn : (1 ≤ who.toInt ∧ who.toInt ≤ 20) ∧ 0 ≤ i.toInt
  · rw [if_pos hn]
    have hx := m_kp hv hJ y days hn.1 hn.2 FU l.length 0 0 (by omega) (by unfold FU; omega)
    exact ⟨w2, hx, e3⟩
  · rw [if_neg hn]
    have hx : B_M_kept_15s (B_M_kept_15 2999) who i y days 0 0 w2 = some (-1, w2) := by
      unfold B_M_kept_15s
      rw [m_num, bs]
      by_cases h1 : 1 ≤ who.toInt ∧ who.toInt ≤ 20
      · rw [if_pos h1, if_neg ne10, if_pos (show i < 0 by rw [lt0]; omega), ite_self]
      · rw [if_neg h1, if_pos (show (0 : Int32) = 0 from rfl), ite_self]
    exact ⟨w2, hx, e3⟩
