/-! the reference's questions -/
theorem m_num (x : Int32) : B_M_isNumber_0 x = some (if 1 ≤ x.toInt ∧ x.toInt ≤ 20 then 1 else 0) := by
  unfold B_M_isNumber_0
  have z0 : (0 : Int32).toInt = 0 := by decide
  have z1 : (21 : Int32).toInt = 21 := by decide
  by_cases h1 : x ≤ 0
  · rw [if_pos h1, if_neg (by rw [i_le, z0] at h1; omega)]
  · rw [if_neg h1]
    rw [i_le, z0] at h1
    by_cases h2 : 21 ≤ x
    · rw [if_pos h2, if_neg (by rw [i_le, z1] at h2; omega)]
    · rw [if_neg h2, if_pos (by rw [i_le, z1] at h2; omega)]
def AnsM (m : Option (Int32 × Mod)) (r : Int32) (w : Mod) : Prop := ∃ w2, m = some (r, w2) ∧ KC w w2
theorem KC.th {w : Mod} : KC w (m_th_w w 0) := ⟨rfl, rfl, rfl, rfl, rfl, rfl, rfl⟩
theorem pG_d {l : List Act} {y : Int64} {j : Nat} (h : j < 2 ^ 31) : pG l y (-1) (-1) j = pD l y j := by
  have := n_m1 h
  simp [pG, this]
theorem m_goD {l : List Act} (hv : allv l) {w : Mod} (hL : RRM w l) (y : Int64) : ∃ w2, B_M_go_0 y (-1) (-1) (-1) w = some w2 ∧ RM w2 (gst l (pD l y) l.length) ∧ KC w w2 := by
  have h200 := hL.2.1
  obtain ⟨w2, e1, e2, e3⟩ := m_go0 hv hL y (-1) (-1) (-1)
  refine ⟨w2, e1, ?_, e3⟩
  rw [← gst_congr _ (fun j hj => pG_d (y := y) (show j < 2 ^ 31 by omega))]
  exact e2.2.1
theorem m_goA {l : List Act} (hv : allv l) {w : Mod} (hL : RRM w l) (who : Int32) : ∃ w2, B_M_go_0 1000000 (-1) (-1) who w = some w2 ∧ J l pA who l.length w2 ∧ KC w w2 := by
  have h200 := hL.2.1
  obtain ⟨w2, e1, ⟨a1, a2, a3, a4, a5, a6⟩, e3⟩ := m_go0 hv hL 1000000 (-1) (-1) who
  have hc : ∀ j, j < l.length → pG l 1000000 (-1) (-1) j = pA j := fun j hj => by
    rw [pG_d (by omega)]
    exact pD_all hv j hj
  have hgs : ∀ k, k ≤ l.length → gst l (pG l 1000000 (-1) (-1)) k = gst l pA k := fun k hk => gst_congr k (fun j hj => hc j (by omega))
  refine ⟨w2, e1, ⟨a1, ?_, ?_, ?_, fun j hj _ => ?_, fun j x hj _ hx h4 => ?_⟩, e3⟩
  · rw [← hgs _ (Nat.le_refl _)]
    exact a2
  · rw [← gvd_congr _ hc]
    exact a3
  · rw [a4]
    have hg : ∀ k, k ≤ l.length → gpk l (pG l 1000000 (-1) (-1)) who k = gpk l pA who k := by
      intro k
      induction k with
      | zero => intro _; rfl
      | succ k ih =>
        intro hk
        unfold gpk
        rw [ih (by omega), hgs (k + 1) hk, hc k (by omega)]
    rw [hg _ (Nat.le_refl _)]
  · rw [a5 j hj (hc j hj), gok_congr (fun i hi => hc i (by omega))]
  · rw [a6 j x hj (hc j hj) hx h4, hgs j (by omega)]
theorem m_all {l : List Act} (hv : allv l) {w : Mod} (hL : RRM w l) : ∃ w2, B_M_all_0 (m_th_w w 0) = some w2 ∧ J l pA (-1) l.length w2 ∧ KC w w2 := by
  unfold B_M_all_0
  obtain ⟨w2, e1, e2, e3⟩ := m_goA hv (hL.kc KC.th) (-1)
  rw [e1, bs]
  exact ⟨w2, rfl, e2, KC.th.tr e3⟩
theorem m_counts {l : List Act} (hv : allv l) {w : Mod} (hL : RRM w l) (i : Int32) : AnsM (B_M_counts_0 i w) (A_counts l i) w := by
  unfold B_M_counts_0 A_counts
  have h200 := hL.2.1
  have z : (0 : Int32).toInt = 0 := by decide
  have ec : m_ct (m_th_w w 0) = nI l.length := hL.1
  by_cases h0 : i < 0
  · rw [if_pos h0]
    rw [i_lt, z] at h0
    rw [if_neg (by omega)]
    exact ⟨_, rfl, KC.th⟩
  · rw [if_neg h0, ec]
    rw [i_lt, z] at h0
    by_cases h1 : i < nI l.length
    · rw [if_pos h1]
      rw [i_lt, nI_toInt (by omega)] at h1
      rw [if_pos ⟨by omega, h1⟩]
      obtain ⟨w2, e1, ⟨a1, a2, a3, a4, a5, a6⟩, e3⟩ := m_all hv hL
      rw [e1, bs, gd_t (by omega), show i.toNatClampNeg = i.toInt.toNat from rfl, a5 _ (by omega) rfl]
      cases gok l pA i.toInt.toNat
      · rw [if_neg (by decide)]
        exact ⟨w2, rfl, e3⟩
      · rw [if_pos (by decide)]
        exact ⟨w2, rfl, e3⟩
    · rw [if_neg h1]
      rw [i_lt, nI_toInt (by omega)] at h1
      rw [if_neg (by omega)]
      exact ⟨_, rfl, KC.th⟩
theorem m_events {l : List Act} {w : Mod} (hL : RRM w l) : AnsM (B_M_events_0 w) (nI l.length) w := by
  unfold B_M_events_0
  have ec : m_ct (m_th_w w 0) = nI l.length := hL.1
  rw [ec]
  exact ⟨_, rfl, KC.th⟩
theorem m_refused {l : List Act} (hv : allv l) {w : Mod} (hL : RRM w l) : AnsM (B_M_refused_0 w) (nI (gvd l pA l.length)) w := by
  unfold B_M_refused_0
  obtain ⟨w2, e1, ⟨a1, a2, a3, a4, a5, a6⟩, e3⟩ := m_all hv hL
  rw [e1, bs, a3]
  exact ⟨w2, rfl, e3⟩
theorem m_there {w : Mod} {s : St} (hR : RM w s) (hW : SW s) {r : Nat} (hr : r ≤ 20) : ∀ (fu k : Nat), k ≤ 20 → 20 - k < fu → B_M_state_79 fu (nI r) (nI (cntp (P_there s r) k)) (nI (k + 1)) w = some (nI (cntp (P_there s r) 20), w)
  | 0, k, _, h2 => absurd h2 (by omega)
  | fu + 1, k, h1, h2 => by
    show B_M_state_79s _ _ _ _ _ = _
    unfold B_M_state_79s B_M_state_113 B_M_state_114
    by_cases hk : 20 ≤ k
    · rw [if_pos (by rw [show (21 : Int32) = nI 21 from rfl]; exact nI_le (by omega) (by omega)), show k = 20 by omega]
    · have a1 := hW.1 (k + 1)
      have a2 := hW.2.1 (k + 1)
      have ih := m_there hR hW hr fu (k + 1) (by omega) (by omega)
      have e0 : nI (cntp (P_there s r) k) + (0 : Int32) = nI (cntp (P_there s r) k) := nI_add _ 0
      rw [if_neg (by rw [show (21 : Int32) = nI 21 from rfl]; exact nI_ge (by omega) (by omega)), gd_t (g_in (by omega) (by omega)), nI_clamp (by omega), hR.2.1 (k + 1) (by omega), nI_1 (k + 1), nI_1, e0]
      by_cases q1 : s_rc s (k + 1) = r
      · rw [if_pos (by rw [q1]), gd_t (g_in (by omega) (by omega)), hR.2.2.1 (k + 1) (by omega)]
        by_cases q2 : s_pe s (k + 1) = 0
        · rw [if_pos ((n0 (by omega)).mpr q2)]
          rw [show cntp (P_there s r) (k + 1) = cntp (P_there s r) k + 1 by simp [cntp, P_there, q1, q2]] at ih
          exact ih
        · rw [if_neg (fun e => q2 ((n0 (by omega)).mp e))]
          rw [show cntp (P_there s r) (k + 1) = cntp (P_there s r) k by simp [cntp, P_there, q2]] at ih
          exact ih
      · rw [if_neg (fun e => q1 ((nI_eq (by omega) (by omega)).mp e))]
        rw [show cntp (P_there s r) (k + 1) = cntp (P_there s r) k by simp [cntp, P_there, q1]] at ih
        exact ih
theorem m_state {l : List Act} (hv : allv l) {w : Mod} (hL : RRM w l) (what n : Int32) (y : Int64) : AnsM (B_M_state_0 what n y w) (A_state l what n y) w := by
  unfold B_M_state_0 A_state
  rw [m_num, bs]
  by_cases hn : 1 ≤ n.toInt ∧ n.toInt ≤ 20
  · rw [if_pos hn, if_neg ne10, if_pos hn]
    obtain ⟨k, k1, k2, rfl⟩ := n_ex hn
    rw [nI_toInt (by omega)]
    obtain ⟨w2, e1, e2, e3⟩ := m_goD hv (hL.kc KC.th) y
    have e3 := KC.th.tr e3
    have hW := SW_g hv (pD l y) l.length
    rw [e1, bs]
    show AnsM _ (A_st (gst l (pD l y) l.length) what k) w
    generalize gst l (pD l y) l.length = s at e2 hW ⊢
    unfold A_st
    rw [gd_t (show 0 ≤ ((k : Int)) ∧ (k : Int) < (21 : Nat) by omega), gd_t (show 0 ≤ ((k : Int)) ∧ (k : Int) < (21 : Nat) by omega), gd_t (show 0 ≤ ((k : Int)) ∧ (k : Int) < (21 : Nat) by omega), nI_clamp (by omega), e2.2.1 k k2, e2.2.2.1 k k2, e2.2.2.2.2.2.1 k k2]
    by_cases q0 : what = 0
    · rw [if_pos q0, if_pos q0]
      exact ⟨w2, rfl, e3⟩
    rw [if_neg q0, if_neg q0]
    by_cases q1 : what = 1
    · rw [if_pos q1, if_pos q1]
      exact ⟨w2, rfl, e3⟩
    rw [if_neg q1, if_neg q1]
    by_cases q2 : what = 2
    · rw [if_pos q2, if_pos q2]
      exact ⟨w2, rfl, e3⟩
    rw [if_neg q2, if_neg q2]
    by_cases q3 : what = 3
    · rw [if_pos q3, if_pos q3]
      have hx := m_there e2 hW k2 FU 0 (by omega) (by unfold FU; omega)
      exact ⟨w2, hx, e3⟩
    rw [if_neg q3, if_neg q3]
    exact ⟨w2, rfl, e3⟩
  · rw [if_neg hn, if_pos rfl, if_neg hn]
    exact ⟨_, rfl, KC.th⟩
theorem lt0 {i : Int32} : i < 0 ↔ i.toInt < 0 := by
  rw [i_lt]
  exact Iff.rfl
theorem m_hAt {w : Mod} {s : St} (hR : RM w s) {r : Nat} (hr : 1 ≤ r ∧ r ≤ 20) {i : Int32} (hi : 0 ≤ i.toInt) : ∀ (fu m h : Nat) (c : Int32), h + m = 100 → m < fu → B_M_heading_14 fu (nI r) i c (nI h) w = some (sel (s_hd s r) nI i m h c, w)
  | 0, m, h, c, _, h2 => absurd h2 (by omega)
  | fu + 1, 0, h, c, h1, h2 => by
    show B_M_heading_14s _ _ _ _ _ _ = _
    unfold B_M_heading_14s
    rw [if_pos (by rw [show (100 : Int32) = nI 100 from rfl]; exact nI_le (by omega) (by omega))]
    rfl
  | fu + 1, m + 1, h, c, h1, h2 => by
    show B_M_heading_14s _ _ _ _ _ _ = _
    unfold B_M_heading_14s B_M_heading_58 sel
    rw [if_neg (by rw [show (100 : Int32) = nI 100 from rfl]; exact nI_ge (by omega) (by omega)), m_num, bs, nI_toInt (show r < 2 ^ 31 by omega), if_pos (show 1 ≤ (r : Int) ∧ (r : Int) ≤ 20 by omega), if_neg ne10, if_neg (by rw [lt0]; omega), show (100 : Int32) * nI r + nI h = nI (100 * r + h) from by rw [show (100 : Int32) = nI 100 from rfl, pk_mul, nI_add], gd_t (g_in (by omega) (by omega)), nI_clamp (by omega), hR.1 r h hr.2 (by omega), nI_1]
    by_cases q : s_hd s r h = true
    · rw [b2_t q, if_neg ne10, if_pos q]
      by_cases q2 : c = i
      · rw [if_pos q2, if_pos q2]
      · rw [if_neg q2, if_neg q2]
        exact m_hAt hR hr hi fu m (h + 1) (c + 1) (by omega) (by omega)
    · rw [b2_f q, if_pos rfl, if_neg q]
      exact m_hAt hR hr hi fu m (h + 1) c (by omega) (by omega)
theorem m_heading {l : List Act} (hv : allv l) {w : Mod} (hL : RRM w l) (r i : Int32) : AnsM (B_M_heading_0 r i w) (A_heading l r i) w := by
  unfold B_M_heading_0 A_heading
  obtain ⟨w2, e1, ⟨a1, a2, a3, a4, a5, a6⟩, e3⟩ := m_all hv hL
  rw [e1, bs]
  by_cases hn : (1 ≤ r.toInt ∧ r.toInt ≤ 20) ∧ 0 ≤ i.toInt
  · rw [if_pos hn]
    obtain ⟨k, k1, k2, rfl⟩ := n_ex hn.1
    rw [nI_toInt (by omega)]
    have hx := m_hAt (s := fin9 l) a2 ⟨k1, k2⟩ hn.2 FU 99 1 0 (by omega) (by unfold FU; omega)
    exact ⟨w2, hx, e3⟩
  · rw [if_neg hn]
    have hx : B_M_heading_14s (B_M_heading_14 2999) r i 0 1 w2 = some (-1, w2) := by
      unfold B_M_heading_14s
      rw [if_neg (by decide), m_num, bs]
      by_cases h1 : 1 ≤ r.toInt ∧ r.toInt ≤ 20
      · rw [if_pos h1, if_neg ne10, if_pos (by rw [lt0]; omega)]
      · rw [if_neg h1, if_pos rfl]
    exact ⟨w2, hx, e3⟩
theorem m_due9 {l : List Act} (hv : allv l) {w : Mod} (hL : RRM w l) (n : Int32) : ∃ w2, B_M_due_0 n w = some (A_due l n, w2) ∧ KC w w2 := by
  unfold B_M_due_0 A_due
  obtain ⟨w2, e1, ⟨a1, a2, a3, a4, a5, a6⟩, e3⟩ := m_all hv hL
  rw [e1, bs, m_num, bs]
  by_cases hn : 1 ≤ n.toInt ∧ n.toInt ≤ 20
  · rw [if_pos hn, if_neg ne10]
    obtain ⟨k, k1, k2, rfl⟩ := n_ex hn
    have hp := (SW_g hv pA l.length).2.1 k
    rw [gd_t (g_in (by omega) (by omega)), gd_t (g_in (by omega) (by omega)), nI_toInt (by omega), nI_clamp (by omega), a2.2.2.1 k k2, show ((k : Int)).toNat = k by omega]
    by_cases q : s_pe (gst l pA l.length) k = 0
    · rw [if_pos ((n0 (by omega)).mpr q), if_neg (fun z => z.2 q)]
      exact ⟨w2, rfl, e3⟩
    · rw [if_neg (fun e => q ((n0 (by omega)).mp e)), a2.2.2.2.1 k k2 q, if_pos ⟨by omega, q⟩]
      exact ⟨w2, rfl, e3⟩
  · rw [if_neg hn, if_pos rfl, if_neg (fun q => hn q.1)]
    exact ⟨w2, rfl, e3⟩
theorem m_queue {l : List Act} (hv : allv l) {w : Mod} (hL : RRM w l) (r i : Int32) : AnsM (B_M_queue_0 r i w) (A_queue l r i) w := by
  unfold B_M_queue_0 B_M_queue_30 A_queue
  obtain ⟨w2, e1, ⟨a1, a2, a3, a4, a5, a6⟩, e3⟩ := m_all hv hL
  rw [e1, bs, m_num, bs]
  by_cases hn : 1 ≤ r.toInt ∧ r.toInt ≤ 20
  · rw [if_pos hn, if_neg ne10]
    by_cases h0 : i < 0
    · rw [if_pos h0]
      rw [lt0] at h0
      rw [if_neg (fun q => by omega)]
      exact ⟨w2, rfl, e3⟩
    · rw [if_neg h0]
      rw [lt0] at h0
      obtain ⟨k, k1, k2, rfl⟩ := n_ex hn
      have hW : SW (fin9 l) := SW_g hv pA l.length
      obtain ⟨f1, f2⟩ := a2.2.2.2.2.1 k k2
      have f1 : m_qs w2 k = nI (s_qu (fin9 l) k).length := f1
      have f2 : ∀ i, i < (s_qu (fin9 l) k).length → m_qd w2 (k * 20 + i) = nI ((s_qu (fin9 l) k).getD i 0) := f2
      have hl := hW.ql k
      have hi := nI_back (x := i) (by omega)
      rw [nI_toInt (by omega), show ((k : Int)).toNat = k by omega, gd_t (by omega), nI_clamp (by omega), f1]
      by_cases q : i.toInt < (s_qu (fin9 l) k).length
      · rw [if_pos (by rw [i_lt, nI_toInt (by omega)]; exact q), if_pos ⟨by omega, by omega, q⟩]
        have ex : (20 : Int32) * nI k + i = nI (k * 20 + i.toInt.toNat) := by
          rw [hi, show (20 : Int32) = nI 20 from rfl, pk_mul, nI_add, Nat.mul_comm, ← hi]
        rw [ex, gd_t (g_in (by omega) (by omega)), nI_clamp (by omega), f2 _ (by omega)]
        exact ⟨w2, rfl, e3⟩
      · rw [if_neg (by rw [i_lt, nI_toInt (by omega)]; exact q), if_neg (fun z => q z.2.2)]
        exact ⟨w2, rfl, e3⟩
  · rw [if_neg hn, if_pos rfl, if_neg (fun q => hn q.1)]
    exact ⟨w2, rfl, e3⟩
