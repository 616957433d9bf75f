/-! the reference's clear and go -/
theorem m_c94 (w : Mod) : ∀ (fu k : Nat) (f : Nat → Int32), k ≤ 10 → 10 - k < fu → (∀ j, j < k → f j = 28) → ∃ g, B_M_clear_94 fu (nI k) (m_ln_w w f) = some (m_pk_w (m_vd_w (m_ln_w w g) 0) 0) ∧ ∀ j, j < 10 → g j = 28
  | 0, k, _, _, h2, _ => absurd h2 (by omega)
  | fu + 1, k, f, h1, h2, h3 => by
    show ∃ g, B_M_clear_94s _ _ _ = _ ∧ _
    unfold B_M_clear_94s
    by_cases hk : 10 ≤ k
    · rw [if_pos (by rw [show (10 : Int32) = nI 10 from rfl]; exact nI_le hk (by omega))]
      exact ⟨f, rfl, fun j hj => h3 j (by omega)⟩
    · rw [if_neg (by rw [show (10 : Int32) = nI 10 from rfl]; exact nI_ge (by omega) (by omega)), gd_t (g_in (by omega) (by omega)), nI_clamp (by omega), nI_1]
      refine m_c94 w fu (k + 1) (upd f k 28) (by omega) (by omega) (fun j hj => ?_)
      unfold upd
      split
      · rfl
      · exact h3 j (by omega)
theorem m_c73 (w : Mod) : ∀ (fu k : Nat) (f : Nat → Int32), k ≤ 126 → 126 - k < fu → (∀ j, j < k → f j = -1) → ∃ g g2, B_M_clear_73 fu (nI k) (m_sm_w w f) = some (m_pk_w (m_vd_w (m_ln_w (m_sm_w w g) g2) 0) 0) ∧ (∀ j, j < 126 → g j = -1) ∧ (∀ j, j < 10 → g2 j = 28)
  | 0, k, _, _, h2, _ => absurd h2 (by omega)
  | fu + 1, k, f, h1, h2, h3 => by
    show ∃ g g2, B_M_clear_73s _ _ _ = _ ∧ _
    unfold B_M_clear_73s
    by_cases hk : 126 ≤ k
    · rw [if_pos (by rw [show (126 : Int32) = nI 126 from rfl]; exact nI_le hk (by omega))]
      obtain ⟨g2, e1, e2⟩ := m_c94 (m_sm_w w f) FU 0 (m_ln (m_sm_w w f)) (by omega) (by unfold FU; omega) (fun j hj => absurd hj (by omega))
      exact ⟨f, g2, e1, fun j hj => h3 j (by omega), e2⟩
    · rw [if_neg (by rw [show (126 : Int32) = nI 126 from rfl]; exact nI_ge (by omega) (by omega)), gd_t (g_in (by omega) (by omega)), nI_clamp (by omega), nI_1]
      refine m_c73 w fu (k + 1) (upd f k (-1)) (by omega) (by omega) (fun j hj => ?_)
      unfold upd
      split
      · rfl
      · exact h3 j (by omega)
def X5 (w : Mod) (f2 f3 : Nat → Int32) (f4 : Nat → Int64) (f5 f6 : Nat → Int32) : Mod := m_cls_w (m_qs_w (m_due_w (m_per_w (m_rec_w w f2) f3) f4) f5) f6
def Z8 (w : Mod) (f2 f3 : Nat → Int32) (f4 : Nat → Int64) (f5 f6 f7 f8 : Nat → Int32) : Mod := m_pk_w (m_vd_w (m_ln_w (m_sm_w (X5 w f2 f3 f4 f5 f6) f7) f8) 0) 0
theorem X5_step (w : Mod) (f2 f3 : Nat → Int32) (f4 : Nat → Int64) (f5 f6 : Nat → Int32) (k : Nat) : m_cls_w (m_qs_w (m_due_w (m_per_w (m_rec_w (X5 w f2 f3 f4 f5 f6) (upd (m_rec (X5 w f2 f3 f4 f5 f6)) k 0)) (upd (m_per (m_rec_w (X5 w f2 f3 f4 f5 f6) (upd (m_rec (X5 w f2 f3 f4 f5 f6)) k 0))) k 0)) (vp_updL (m_due (m_per_w (m_rec_w (X5 w f2 f3 f4 f5 f6) (upd (m_rec (X5 w f2 f3 f4 f5 f6)) k 0)) (upd (m_per (m_rec_w (X5 w f2 f3 f4 f5 f6) (upd (m_rec (X5 w f2 f3 f4 f5 f6)) k 0))) k 0))) k 0)) (upd (m_qs (m_due_w (m_per_w (m_rec_w (X5 w f2 f3 f4 f5 f6) (upd (m_rec (X5 w f2 f3 f4 f5 f6)) k 0)) (upd (m_per (m_rec_w (X5 w f2 f3 f4 f5 f6) (upd (m_rec (X5 w f2 f3 f4 f5 f6)) k 0))) k 0)) (vp_updL (m_due (m_per_w (m_rec_w (X5 w f2 f3 f4 f5 f6) (upd (m_rec (X5 w f2 f3 f4 f5 f6)) k 0)) (upd (m_per (m_rec_w (X5 w f2 f3 f4 f5 f6) (upd (m_rec (X5 w f2 f3 f4 f5 f6)) k 0))) k 0))) k 0))) k 0)) (upd (m_cls (m_qs_w (m_due_w (m_per_w (m_rec_w (X5 w f2 f3 f4 f5 f6) (upd (m_rec (X5 w f2 f3 f4 f5 f6)) k 0)) (upd (m_per (m_rec_w (X5 w f2 f3 f4 f5 f6) (upd (m_rec (X5 w f2 f3 f4 f5 f6)) k 0))) k 0)) (vp_updL (m_due (m_per_w (m_rec_w (X5 w f2 f3 f4 f5 f6) (upd (m_rec (X5 w f2 f3 f4 f5 f6)) k 0)) (upd (m_per (m_rec_w (X5 w f2 f3 f4 f5 f6) (upd (m_rec (X5 w f2 f3 f4 f5 f6)) k 0))) k 0))) k 0)) (upd (m_qs (m_due_w (m_per_w (m_rec_w (X5 w f2 f3 f4 f5 f6) (upd (m_rec (X5 w f2 f3 f4 f5 f6)) k 0)) (upd (m_per (m_rec_w (X5 w f2 f3 f4 f5 f6) (upd (m_rec (X5 w f2 f3 f4 f5 f6)) k 0))) k 0)) (vp_updL (m_due (m_per_w (m_rec_w (X5 w f2 f3 f4 f5 f6) (upd (m_rec (X5 w f2 f3 f4 f5 f6)) k 0)) (upd (m_per (m_rec_w (X5 w f2 f3 f4 f5 f6) (upd (m_rec (X5 w f2 f3 f4 f5 f6)) k 0))) k 0))) k 0))) k 0))) k 0) = X5 w (upd f2 k 0) (upd f3 k 0) (vp_updL f4 k 0) (upd f5 k 0) (upd f6 k 0) := by
  simp only [X5, m_rec_w, m_per_w, m_due_w, m_qs_w, m_cls_w, m_rec, m_per, m_due, m_qs, m_cls]
theorem X5_id (w : Mod) : X5 w (m_rec w) (m_per w) (m_due w) (m_qs w) (m_cls w) = w := by
  simp only [X5, m_rec_w, m_per_w, m_due_w, m_qs_w, m_cls_w, m_rec, m_per, m_due, m_qs, m_cls]
theorem up0 {f : Nat → Int32} {k : Nat} (h : ∀ j, j < k → f j = 0) : ∀ j, j < k + 1 → upd f k 0 j = 0 := fun j hj => by
  unfold upd
  split
  · rfl
  · exact h j (by omega)
theorem m_c24 (w : Mod) : ∀ (fu k : Nat) (f2 f3 : Nat → Int32) (f4 : Nat → Int64) (f5 f6 : Nat → Int32), k ≤ 21 → 21 - k < fu → (∀ j, j < k → f2 j = 0) → (∀ j, j < k → f3 j = 0) → (∀ j, j < k → f5 j = 0) → (∀ j, j < k → f6 j = 0) → ∃ g2 g3 g4 g5 g6 g7 g8, B_M_clear_24 fu (nI k) (X5 w f2 f3 f4 f5 f6) = some (Z8 w g2 g3 g4 g5 g6 g7 g8) ∧ (∀ j, j < 21 → g2 j = 0) ∧ (∀ j, j < 21 → g3 j = 0) ∧ (∀ j, j < 21 → g5 j = 0) ∧ (∀ j, j < 21 → g6 j = 0) ∧ (∀ j, j < 126 → g7 j = -1) ∧ (∀ j, j < 10 → g8 j = 28)
  | 0, k, _, _, _, _, _, _, h2, _, _, _, _ => absurd h2 (by omega)
  | fu + 1, k, f2, f3, f4, f5, f6, h1, h2, a2, a3, a5, a6 => by
    show ∃ g2 g3 g4 g5 g6 g7 g8, B_M_clear_24s _ _ _ = _ ∧ _
    unfold B_M_clear_24s
    by_cases hk : 21 ≤ k
    · rw [if_pos (by rw [show (21 : Int32) = nI 21 from rfl]; exact nI_le hk (by omega))]
      obtain ⟨g7, g8, e1, e2, e3⟩ := m_c73 (X5 w f2 f3 f4 f5 f6) FU 0 (m_sm (X5 w f2 f3 f4 f5 f6)) (by omega) (by unfold FU; omega) (fun j hj => absurd hj (by omega))
      exact ⟨f2, f3, f4, f5, f6, g7, g8, e1, fun j hj => a2 j (by omega), fun j hj => a3 j (by omega), fun j hj => a5 j (by omega), fun j hj => a6 j (by omega), e2, e3⟩
    · have gg := g_in (show k < 21 by omega) (by omega)
      rw [if_neg (by rw [show (21 : Int32) = nI 21 from rfl]; exact nI_ge (by omega) (by omega)), gd_t gg, gd_t gg, bs, gd_t gg, gd_t gg, bs, gd_t gg, nI_clamp (by omega), nI_1, X5_step]
      exact m_c24 w fu (k + 1) (upd f2 k 0) (upd f3 k 0) (vp_updL f4 k 0) (upd f5 k 0) (upd f6 k 0) (by omega) (by omega) (up0 a2) (up0 a3) (up0 a5) (up0 a6)
theorem m_c2 (w : Mod) : ∀ (fu k : Nat) (f : Nat → Int32), k ≤ 2100 → 2100 - k < fu → (∀ j, j < k → f j = 0) → ∃ g1 g2 g3 g4 g5 g6 g7 g8, B_M_clear_2 fu (nI k) (m_hd_w w f) = some (Z8 (m_hd_w w g1) g2 g3 g4 g5 g6 g7 g8) ∧ (∀ j, j < 2100 → g1 j = 0) ∧ (∀ j, j < 21 → g2 j = 0) ∧ (∀ j, j < 21 → g3 j = 0) ∧ (∀ j, j < 21 → g5 j = 0) ∧ (∀ j, j < 21 → g6 j = 0) ∧ (∀ j, j < 126 → g7 j = -1) ∧ (∀ j, j < 10 → g8 j = 28)
  | 0, k, _, _, h2, _ => absurd h2 (by omega)
  | fu + 1, k, f, h1, h2, h3 => by
    show ∃ g1 g2 g3 g4 g5 g6 g7 g8, B_M_clear_2s _ _ _ = _ ∧ _
    unfold B_M_clear_2s
    by_cases hk : 2100 ≤ k
    · rw [if_pos (by rw [show (2100 : Int32) = nI 2100 from rfl]; exact nI_le hk (by omega))]
      obtain ⟨g2, g3, g4, g5, g6, g7, g8, e1, e2⟩ := m_c24 (m_hd_w w f) FU 0 (m_rec (m_hd_w w f)) (m_per (m_hd_w w f)) (m_due (m_hd_w w f)) (m_qs (m_hd_w w f)) (m_cls (m_hd_w w f)) (by omega) (by unfold FU; omega) (fun j hj => absurd hj (by omega)) (fun j hj => absurd hj (by omega)) (fun j hj => absurd hj (by omega)) (fun j hj => absurd hj (by omega))
      rw [X5_id] at e1
      exact ⟨f, g2, g3, g4, g5, g6, g7, g8, e1, fun j hj => h3 j (by omega), e2⟩
    · rw [if_neg (by rw [show (2100 : Int32) = nI 2100 from rfl]; exact nI_ge (by omega) (by omega)), gd_t (g_in (by omega) (by omega)), nI_clamp (by omega), nI_1, nar0]
      exact m_c2 w fu (k + 1) (upd f k 0) (by omega) (by omega) (up0 h3)
def KC (w v : Mod) : Prop := m_srt v = m_srt w ∧ m_as v = m_as w ∧ m_bs v = m_bs w ∧ m_dys v = m_dys w ∧ m_ct v = m_ct w ∧ m_hit v = m_hit w ∧ m_hc v = m_hc w
theorem KC.rf {w : Mod} : KC w w := ⟨rfl, rfl, rfl, rfl, rfl, rfl, rfl⟩
theorem KC.tr {u v w : Mod} (h : KC u v) (k : KC v w) : KC u w := ⟨k.1.trans h.1, k.2.1.trans h.2.1, k.2.2.1.trans h.2.2.1, k.2.2.2.1.trans h.2.2.2.1, k.2.2.2.2.1.trans h.2.2.2.2.1, k.2.2.2.2.2.1.trans h.2.2.2.2.2.1, k.2.2.2.2.2.2.trans h.2.2.2.2.2.2⟩
theorem K0.kc {w v : Mod} (k : K0 w v) : KC w v := ⟨k.1, k.2.1, k.2.2.1, k.2.2.2.1, k.2.2.2.2.1, k.2.2.2.2.2.2.2.2.1, k.2.2.2.2.2.2.2.2.2⟩
theorem Z_hd (w : Mod) (g1 g2 g3 : Nat → Int32) (g4 : Nat → Int64) (g5 g6 g7 g8 : Nat → Int32) : m_hd (Z8 (m_hd_w w g1) g2 g3 g4 g5 g6 g7 g8) = g1 := by
  simp only [Z8, X5, m_pk_w, m_vd_w, m_ln_w, m_sm_w, m_cls_w, m_qs_w, m_due_w, m_per_w, m_rec_w, m_hd_w, m_hd]
theorem Z_rec (w : Mod) (g1 g2 g3 : Nat → Int32) (g4 : Nat → Int64) (g5 g6 g7 g8 : Nat → Int32) : m_rec (Z8 (m_hd_w w g1) g2 g3 g4 g5 g6 g7 g8) = g2 := by
  simp only [Z8, X5, m_pk_w, m_vd_w, m_ln_w, m_sm_w, m_cls_w, m_qs_w, m_due_w, m_per_w, m_rec_w, m_hd_w, m_rec]
theorem Z_per (w : Mod) (g1 g2 g3 : Nat → Int32) (g4 : Nat → Int64) (g5 g6 g7 g8 : Nat → Int32) : m_per (Z8 (m_hd_w w g1) g2 g3 g4 g5 g6 g7 g8) = g3 := by
  simp only [Z8, X5, m_pk_w, m_vd_w, m_ln_w, m_sm_w, m_cls_w, m_qs_w, m_due_w, m_per_w, m_rec_w, m_hd_w, m_per]
theorem Z_due (w : Mod) (g1 g2 g3 : Nat → Int32) (g4 : Nat → Int64) (g5 g6 g7 g8 : Nat → Int32) : m_due (Z8 (m_hd_w w g1) g2 g3 g4 g5 g6 g7 g8) = g4 := by
  simp only [Z8, X5, m_pk_w, m_vd_w, m_ln_w, m_sm_w, m_cls_w, m_qs_w, m_due_w, m_per_w, m_rec_w, m_hd_w, m_due]
theorem Z_qs (w : Mod) (g1 g2 g3 : Nat → Int32) (g4 : Nat → Int64) (g5 g6 g7 g8 : Nat → Int32) : m_qs (Z8 (m_hd_w w g1) g2 g3 g4 g5 g6 g7 g8) = g5 := by
  simp only [Z8, X5, m_pk_w, m_vd_w, m_ln_w, m_sm_w, m_cls_w, m_qs_w, m_due_w, m_per_w, m_rec_w, m_hd_w, m_qs]
theorem Z_cls (w : Mod) (g1 g2 g3 : Nat → Int32) (g4 : Nat → Int64) (g5 g6 g7 g8 : Nat → Int32) : m_cls (Z8 (m_hd_w w g1) g2 g3 g4 g5 g6 g7 g8) = g6 := by
  simp only [Z8, X5, m_pk_w, m_vd_w, m_ln_w, m_sm_w, m_cls_w, m_qs_w, m_due_w, m_per_w, m_rec_w, m_hd_w, m_cls]
theorem Z_sm (w : Mod) (g1 g2 g3 : Nat → Int32) (g4 : Nat → Int64) (g5 g6 g7 g8 : Nat → Int32) : m_sm (Z8 (m_hd_w w g1) g2 g3 g4 g5 g6 g7 g8) = g7 := by
  simp only [Z8, X5, m_pk_w, m_vd_w, m_ln_w, m_sm_w, m_cls_w, m_qs_w, m_due_w, m_per_w, m_rec_w, m_hd_w, m_sm]
theorem Z_ln (w : Mod) (g1 g2 g3 : Nat → Int32) (g4 : Nat → Int64) (g5 g6 g7 g8 : Nat → Int32) : m_ln (Z8 (m_hd_w w g1) g2 g3 g4 g5 g6 g7 g8) = g8 := by
  simp only [Z8, X5, m_pk_w, m_vd_w, m_ln_w, m_sm_w, m_cls_w, m_qs_w, m_due_w, m_per_w, m_rec_w, m_hd_w, m_ln]
theorem Z_vd (w : Mod) (g1 g2 g3 : Nat → Int32) (g4 : Nat → Int64) (g5 g6 g7 g8 : Nat → Int32) : m_vd (Z8 (m_hd_w w g1) g2 g3 g4 g5 g6 g7 g8) = 0 := by
  simp only [Z8, X5, m_pk_w, m_vd_w, m_ln_w, m_sm_w, m_cls_w, m_qs_w, m_due_w, m_per_w, m_rec_w, m_hd_w, m_vd]
theorem Z_pk (w : Mod) (g1 g2 g3 : Nat → Int32) (g4 : Nat → Int64) (g5 g6 g7 g8 : Nat → Int32) : m_pk (Z8 (m_hd_w w g1) g2 g3 g4 g5 g6 g7 g8) = 0 := by
  simp only [Z8, X5, m_pk_w, m_vd_w, m_ln_w, m_sm_w, m_cls_w, m_qs_w, m_due_w, m_per_w, m_rec_w, m_hd_w, m_pk]
theorem Z_srt (w : Mod) (g1 g2 g3 : Nat → Int32) (g4 : Nat → Int64) (g5 g6 g7 g8 : Nat → Int32) : m_srt (Z8 (m_hd_w w g1) g2 g3 g4 g5 g6 g7 g8) = m_srt w := by
  simp only [Z8, X5, m_pk_w, m_vd_w, m_ln_w, m_sm_w, m_cls_w, m_qs_w, m_due_w, m_per_w, m_rec_w, m_hd_w, m_srt]
theorem Z_as (w : Mod) (g1 g2 g3 : Nat → Int32) (g4 : Nat → Int64) (g5 g6 g7 g8 : Nat → Int32) : m_as (Z8 (m_hd_w w g1) g2 g3 g4 g5 g6 g7 g8) = m_as w := by
  simp only [Z8, X5, m_pk_w, m_vd_w, m_ln_w, m_sm_w, m_cls_w, m_qs_w, m_due_w, m_per_w, m_rec_w, m_hd_w, m_as]
theorem Z_bs (w : Mod) (g1 g2 g3 : Nat → Int32) (g4 : Nat → Int64) (g5 g6 g7 g8 : Nat → Int32) : m_bs (Z8 (m_hd_w w g1) g2 g3 g4 g5 g6 g7 g8) = m_bs w := by
  simp only [Z8, X5, m_pk_w, m_vd_w, m_ln_w, m_sm_w, m_cls_w, m_qs_w, m_due_w, m_per_w, m_rec_w, m_hd_w, m_bs]
theorem Z_dys (w : Mod) (g1 g2 g3 : Nat → Int32) (g4 : Nat → Int64) (g5 g6 g7 g8 : Nat → Int32) : m_dys (Z8 (m_hd_w w g1) g2 g3 g4 g5 g6 g7 g8) = m_dys w := by
  simp only [Z8, X5, m_pk_w, m_vd_w, m_ln_w, m_sm_w, m_cls_w, m_qs_w, m_due_w, m_per_w, m_rec_w, m_hd_w, m_dys]
theorem Z_ct (w : Mod) (g1 g2 g3 : Nat → Int32) (g4 : Nat → Int64) (g5 g6 g7 g8 : Nat → Int32) : m_ct (Z8 (m_hd_w w g1) g2 g3 g4 g5 g6 g7 g8) = m_ct w := by
  simp only [Z8, X5, m_pk_w, m_vd_w, m_ln_w, m_sm_w, m_cls_w, m_qs_w, m_due_w, m_per_w, m_rec_w, m_hd_w, m_ct]
theorem Z_hit (w : Mod) (g1 g2 g3 : Nat → Int32) (g4 : Nat → Int64) (g5 g6 g7 g8 : Nat → Int32) : m_hit (Z8 (m_hd_w w g1) g2 g3 g4 g5 g6 g7 g8) = m_hit w := by
  simp only [Z8, X5, m_pk_w, m_vd_w, m_ln_w, m_sm_w, m_cls_w, m_qs_w, m_due_w, m_per_w, m_rec_w, m_hd_w, m_hit]
theorem Z_hc (w : Mod) (g1 g2 g3 : Nat → Int32) (g4 : Nat → Int64) (g5 g6 g7 g8 : Nat → Int32) : m_hc (Z8 (m_hd_w w g1) g2 g3 g4 g5 g6 g7 g8) = m_hc w := by
  simp only [Z8, X5, m_pk_w, m_vd_w, m_ln_w, m_sm_w, m_cls_w, m_qs_w, m_due_w, m_per_w, m_rec_w, m_hd_w, m_hc]
theorem m_clear (w : Mod) : ∃ w2, B_M_clear_0 w = some w2 ∧ RM w2 st0 ∧ m_vd w2 = 0 ∧ m_pk w2 = 0 ∧ KC w w2 := by
  obtain ⟨g1, g2, g3, g4, g5, g6, g7, g8, e, k1, k2, k3, k5, k6, k7, k8⟩ := m_c2 w FU 0 (m_hd w) (by omega) (by unfold FU; omega) (fun j hj => absurd hj (by omega))
  have ew : m_hd_w w (m_hd w) = w := rfl
  rw [ew] at e
  refine ⟨_, e, ?_, Z_vd .., Z_pk .., ⟨Z_srt .., Z_as .., Z_bs .., Z_dys .., Z_ct .., Z_hit .., Z_hc ..⟩⟩
  unfold RM
  rw [Z_hd, Z_rec, Z_per, Z_due, Z_qs, Z_cls, Z_ln, Z_sm]
  refine ⟨?_, ?_, ?_, ?_, ?_, ?_, ?_, ?_⟩
  · exact fun r h hr hh => k1 _ (by omega)
  · exact fun c hc => k2 c (by omega)
  · exact fun c hc => k3 c (by omega)
  · exact fun c hc hne => absurd rfl hne
  · exact fun r hr => ⟨k5 r (by omega), fun i hi => absurd hi (by simp [st0, s_qu])⟩
  · exact fun c hc => k6 c (by omega)
  · exact fun c hc => k8 c (by omega)
  · intro a b ha hb
    show g7 (a * 6 + b) = nI 0 - 1
    rw [k7 _ (by omega)]
    decide
theorem RRM.kc {u v : Mod} {l : List Act} (h : RRM u l) (k : KC u v) : RRM v l := by
  unfold RRM
  rw [k.1, k.2.1, k.2.2.1, k.2.2.2.1, k.2.2.2.2.1]
  exact h
def pG (l : List Act) (y : Int64) (a b : Int32) : Nat → Bool := fun k => pD l y k && decide (¬ nI k = a ∧ ¬ nI k = b)
theorem m_g92 {s : St} {w : Mod} (hR : Rn (m_per w) (s_pe s) 20) {pk : Nat} (hpk : pk ≤ 20) (hp : m_pk w = nI pk) (k7 : Int64 → Int32 → Int32 → Int32 → Int32 → Mod → Option Mod) (y : Int64) (a b who x6 : Int32) : ∀ (fu c : Nat), c ≤ 20 → 20 - c < fu → B_M_go_92 k7 fu y a b who x6 (nI (cntp (P_with s who) c)) (nI (c + 1)) w = k7 y a b who (x6 + 1) (m_pk_w w (nI (max pk (cntp (P_with s who) 20))))
  | 0, c, _, h2 => absurd h2 (by omega)
  | fu + 1, c, h1, h2 => by
    show B_M_go_92s _ _ _ _ _ _ _ _ _ _ = _
    unfold B_M_go_92s B_M_go_146 B_M_go_149 B_M_go_118
    have hc := cntp_le (P_with s who) 20
    by_cases hk : 20 ≤ c
    · have : c = 20 := by omega
      subst this
      rw [if_pos (by rw [show (21 : Int32) = nI 21 from rfl]; exact nI_le (by omega) (by omega)), hp]
      by_cases q : cntp (P_with s who) 20 ≤ pk
      · rw [if_pos (nI_le q (by omega)), show max pk (cntp (P_with s who) 20) = pk by omega]
      · rw [if_neg (nI_ge (by omega) (by omega)), show max pk (cntp (P_with s who) 20) = cntp (P_with s who) 20 by omega]
    · have ih := m_g92 hR hpk hp k7 y a b who x6 fu (c + 1) (by omega) (by omega)
      rw [if_neg (by rw [show (21 : Int32) = nI 21 from rfl]; exact nI_ge (by omega) (by omega)), gd_t (g_in (by omega) (by omega)), nI_clamp (by omega), hR (c + 1) (by omega), nI_1, nI_1]
      by_cases q : nI (s_pe s (c + 1)) = who
      · rw [if_pos q]
        rw [show cntp (P_with s who) (c + 1) = cntp (P_with s who) c + 1 by simp [cntp, P_with, q]] at ih
        exact ih
      · rw [if_neg q]
        rw [show cntp (P_with s who) (c + 1) = cntp (P_with s who) c by simp [cntp, P_with, q]] at ih
        rw [show nI (cntp (P_with s who) c) + (0 : Int32) = nI (cntp (P_with s who) c) from by rw [show (0 : Int32) = nI 0 from rfl, nI_add]; rfl]
        exact ih
/-- what the reference knows behind the first k acts -/
def J (l : List Act) (p : Nat → Bool) (who : Int32) (k : Nat) (w : Mod) : Prop := RRM w l ∧ RM w (gst l p k) ∧ m_vd w = nI (gvd l p k) ∧ m_pk w = nI (gpk l p who k) ∧ (∀ j, j < k → p j = true → m_vo w j = b2 (!gok l p j)) ∧ (∀ j x, j < k → p j = true → l[j]? = some x → x.1 = 4 → m_bk w j = nI (s_pe (gst l p j) x.2.1))
theorem m_go {l : List Act} (hv : allv l) (y : Int64) (a b who : Int32) : ∀ (fu k : Nat) (w : Mod), k ≤ l.length → l.length - k < fu → J l (pG l y a b) who k w → ∃ w2, B_M_go_7 fu y a b who (nI k) w = some w2 ∧ J l (pG l y a b) who l.length w2 ∧ KC w w2
  | 0, k, _, _, h2, _ => absurd h2 (by omega)
  | fu + 1, k, w, h1, h2, hJ => by
    obtain ⟨hL, hR, j3, j4, j5, j6⟩ := hJ
    have h200 := hL.2.1
    show ∃ w2, B_M_go_7s _ _ _ _ _ _ _ = _ ∧ _
    unfold B_M_go_7s B_M_go_149
    rw [hL.1]
    by_cases hk : l.length ≤ k
    · have : k = l.length := by omega
      subst this
      rw [if_pos (nI_le hk (by omega))]
      exact ⟨w, rfl, ⟨hL, hR, j3, j4, j5, j6⟩, KC.rf⟩
    · obtain ⟨x, hx⟩ := get_ex (show k < l.length by omega)
      have hdx := (hv k x hx).1
      obtain ⟨a1, a2, a3, a4⟩ := hL.2.2 k x hx
      have skip : pG l y a b k = false → ∃ w2, B_M_go_7 fu y a b who (nI (k + 1)) w = some w2 ∧ J l (pG l y a b) who l.length w2 ∧ KC w w2 := by
        intro hp
        refine m_go hv y a b who fu (k + 1) w (by omega) (by omega) ⟨hL, by rw [gst_n hp]; exact hR, by rw [j3]; simp [gvd, hp], by rw [j4]; simp [gpk, hp], fun j hj hpj => ?_, fun j z hj hpj => ?_⟩
        · by_cases e : j = k
          · rw [e, hp] at hpj
            cases hpj
          · exact j5 j (by omega) hpj
        · by_cases e : j = k
          · rw [e, hp] at hpj
            cases hpj
          · exact j6 j z (by omega) hpj
      rw [if_neg (nI_ge (by omega) (by omega)), gd_t (g_in (by omega) (by omega)), nI_clamp (by omega), a4, nI_1]
      by_cases q1 : 0 < lg_cmp (lN x.2.2.2) y
      · rw [if_pos q1]
        rw [lc_gt, pk_lT (by omega)] at q1
        exact skip (by simp only [pG, pD_s hx]; simp; intro z; omega)
      rw [if_neg q1]
      rw [lc_gt, pk_lT (by omega)] at q1
      by_cases q2 : nI k = a
      · rw [if_pos q2]
        exact skip (by simp [pG, q2])
      rw [if_neg q2]
      by_cases q3 : nI k = b
      · rw [if_pos q3]
        exact skip (by simp [pG, q3])
      rw [if_neg q3]
      have hp : pG l y a b k = true := by
        simp only [pG, pD_s hx]
        simp [q2, q3]
        omega
      obtain ⟨w1, e1, e2, e3, e4, e5⟩ := m_does hL hR (SW_g hv _ k) hv hx
      have hok : gok l (pG l y a b) k = s_ok x (gst l (pG l y a b) k) := gok_s hx
      have hst := gst_s hx hp
      have hvl := gvd_le l (pG l y a b) k
      have hpl := gpk_le l (pG l y a b) who k
      -- what comes behind the act
      have key : ∀ (t : Bool), t = (!gok l (pG l y a b) k) → ∃ w2, B_M_go_61 (B_M_go_7 fu) y a b who (nI k) (b2 t) (nI k) w1 = some w2 ∧ J l (pG l y a b) who l.length w2 ∧ KC w w2 := by
        intro t ht
        unfold B_M_go_61 B_M_go_82
        have hn : vp_nar .boolean (b2 t) = b2 t := by cases t <;> decide
        have ev : m_vo (m_vo_w w1 (upd (m_vo w1) k (b2 t))) k = b2 t := by
          show upd (m_vo w1) k (b2 t) k = _
          simp [upd]
        have ed : m_vd (m_vo_w w1 (upd (m_vo w1) k (b2 t))) = nI (gvd l (pG l y a b) k) := e3.2.2.2.2.2.2.1.trans j3
        rw [gd_t (g_in (by omega) (by omega)), gd_t (g_in (by omega) (by omega)), nI_clamp (by omega), hn, ev, ed]
        have h92 := fun v : Int32 => m_g92 (s := gst l (pG l y a b) (k + 1)) (w := m_vd_w (m_vo_w w1 (upd (m_vo w1) k (b2 t))) v) (by rw [hst]; exact e2.2.2.1) hpl (e3.2.2.2.2.2.2.2.1.trans j4) (B_M_go_7 fu) y a b who (nI k) FU 0 (by omega) (by unfold FU; omega)
        have hv2 : nI (gvd l (pG l y a b) k) + b2 t = nI (gvd l (pG l y a b) (k + 1)) := by
          rw [ht, show gvd l (pG l y a b) (k + 1) = gvd l (pG l y a b) k + (if pG l y a b k = true ∧ gok l (pG l y a b) k = false then 1 else 0) from rfl]
          cases hg : gok l (pG l y a b) k
          · rw [if_pos ⟨hp, rfl⟩]
            exact nI_1 _
          · rw [if_neg (fun z => by cases z.2)]
            exact (nI_add _ 0)
        have hmain : (if b2 t = 0 then B_M_go_92 (B_M_go_7 fu) FU y a b who (nI k) 0 1 (m_vd_w (m_vo_w w1 (upd (m_vo w1) k (b2 t))) (nI (gvd l (pG l y a b) k) + 0)) else B_M_go_92 (B_M_go_7 fu) FU y a b who (nI k) 0 1 (m_vd_w (m_vo_w w1 (upd (m_vo w1) k (b2 t))) (nI (gvd l (pG l y a b) k) + 1))) = B_M_go_7 fu y a b who (nI (k + 1)) (m_pk_w (m_vd_w (m_vo_w w1 (upd (m_vo w1) k (b2 t))) (nI (gvd l (pG l y a b) (k + 1)))) (nI (gpk l (pG l y a b) who (k + 1)))) := by
          rw [show gpk l (pG l y a b) who (k + 1) = max (gpk l (pG l y a b) who k) (cntp (P_with (gst l (pG l y a b) (k + 1)) who) 20) by simp [gpk, hp], ← hv2, ← nI_1 k]
          cases t
          · rw [if_pos (show b2 false = 0 from rfl)]
            exact h92 _
          · rw [if_neg (show ¬ b2 true = 0 from ne10)]
            exact h92 _
        rw [hmain]
        have hkc : KC w (m_pk_w (m_vd_w (m_vo_w w1 (upd (m_vo w1) k (b2 t))) (nI (gvd l (pG l y a b) (k + 1)))) (nI (gpk l (pG l y a b) who (k + 1)))) := e3.kc
        obtain ⟨w2, f1, f2, f3⟩ := m_go hv y a b who fu (k + 1) _ (by omega) (by omega) (show J l (pG l y a b) who (k + 1) (m_pk_w (m_vd_w (m_vo_w w1 (upd (m_vo w1) k (b2 t))) (nI (gvd l (pG l y a b) (k + 1)))) (nI (gpk l (pG l y a b) who (k + 1)))) from by
          refine ⟨hL.kc hkc, by rw [hst]; exact e2, rfl, rfl, fun j hj hpj => ?_, fun j z hj hpj hz h4 => ?_⟩
          · show upd (m_vo w1) k (b2 t) j = _
            unfold upd
            by_cases e : j = k
            · rw [if_pos e, ht, e]
            · rw [if_neg e, e3.2.2.2.2.2.1]
              exact j5 j (by omega) hpj
          · show m_bk w1 j = _
            by_cases e : j = k
            · subst e
              rw [hx] at hz
              cases hz
              exact e5 h4
            · rw [e4 j e]
              exact j6 j z (by omega) hpj hz h4)
        exact ⟨w2, f1, f2, hkc.tr f3⟩
      rw [e1, bs, ← hok]
      cases hg : gok l (pG l y a b) k
      · rw [if_pos (show (b2 false, w1).1 = 0 from rfl)]
        exact key true (by rw [hg]; rfl)
      · rw [if_neg (show ¬ (b2 true, w1).1 = 0 from ne10)]
        exact key false (by rw [hg]; rfl)
theorem m_go0 {l : List Act} (hv : allv l) {w : Mod} (hL : RRM w l) (y : Int64) (a b who : Int32) : ∃ w2, B_M_go_0 y a b who w = some w2 ∧ J l (pG l y a b) who l.length w2 ∧ KC w w2 := by
  unfold B_M_go_0
  have h200 := hL.2.1
  obtain ⟨w1, e1, e2, e3, e4, e5⟩ := m_clear w
  rw [e1, bs]
  obtain ⟨w2, f1, f2, f3⟩ := m_go hv y a b who FU 0 w1 (by omega) (by unfold FU; omega) ⟨hL.kc e5, e2, e3, e4, fun j hj => absurd hj (by omega), fun j _ hj => absurd hj (by omega)⟩
  exact ⟨w2, f1, f2, e5.tr f3⟩
