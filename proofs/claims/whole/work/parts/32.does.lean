theorem m_lend48 {w : Mod} {s : St} (hR : RM w s) (hW : SW s) {a b d r : Nat} (ha : a ≤ 20) (hb : 1 ≤ b ∧ b ≤ 20) (hd : d ≤ 1000000) (hr : r = s_rc s a) : ∃ w2, B_M_lend_48 (nI a) (nI b) (lN d) (nI r) w = some (1, w2) ∧ RM w2 (s_do (3, a, b, d) s) ∧ KM w w2 := by
  unfold B_M_lend_48 B_M_lend_100
  have hr2 : r ≤ 20 := by rw [hr]; exact hW.1 a
  obtain ⟨w2, h1, h2, k1, k2, k3, k4, k5, k6, k7, k8⟩ := m_leave hR.2.2.2.2.1 hW.ql hW.qe hr2 hb.2
  have hc := hW.2.2.2.1 r
  have hl := hW.2.2.2.2.1 (s_cs s r)
  rw [h1, bs]
  have e1 : m_cls (m_per_w w2 (upd (m_per w2) (nI a).toNatClampNeg (nI b))) = m_cls w := k5
  have e2 : m_ln (m_per_w w2 (upd (m_per w2) (nI a).toNatClampNeg (nI b))) = m_ln w := k6
  have e3 : m_due (m_per_w w2 (upd (m_per w2) (nI a).toNatClampNeg (nI b))) = m_due w := k4
  simp only []
  rw [e1, e2, e3, gd_t (g_in (by omega) (by omega)), gd_t (g_in (by omega) (by omega)), nI_clamp (show r < 2 ^ 31 by omega), hR.2.2.2.2.2.1 r hr2, gd_t (g_in (by omega) (by omega)), gd_t (g_in (by omega) (by omega)), nI_clamp (show s_cs s r < 2 ^ 31 by omega), hR.2.2.2.2.2.2.1 (s_cs s r) hc, nI_l (by omega), lN_add, nI_clamp (show a < 2 ^ 31 by omega), bs, gd_t (g_in (by omega) (by omega))]
  have e4 : m_per (m_due_w (m_per_w w2 (upd (m_per w2) a (nI b))) (vp_updL (m_due w) a (lN (d + s_ln s (s_cs s r))))) a = nI b := by
    show upd (m_per w2) a (nI b) a = nI b
    simp [upd]
  rw [if_pos e4, ite_self]
  refine ⟨_, rfl, ?_, k8⟩
  subst hr
  refine ⟨?_, ?_, ?_, ?_, ?_, ?_, ?_, ?_⟩
  · show Rhe (m_hd w2) (s_hd s)
    rw [k1]
    exact hR.1
  · show Rn (m_rec w2) (s_rc s) 20
    rw [k2]
    exact hR.2.1
  · show Rn (upd (m_per w2) a (nI b)) (va_up (s_pe s) a b) 20
    rw [k3]
    exact Rn_up hR.2.2.1 a b
  · show Rdu (vp_updL (m_due w) a (lN (d + s_ln s (s_cs s (s_rc s a))))) (va_up (s_pe s) a b) (va_up (s_du s) a (d + s_ln s (s_cs s (s_rc s a))))
    intro c hc2 hne
    rw [vu_i] at hne
    rw [vu_i]
    unfold vp_updL
    by_cases e : c = a
    · rw [if_pos e, if_pos e]
    · rw [if_neg e] at hne
      rw [if_neg e, if_neg e]
      exact hR.2.2.2.1 c hc2 hne
  · exact h2
  · show Rn (m_cls w2) (s_cs s) 20
    rw [k5]
    exact hR.2.2.2.2.2.1
  · show Rn (m_ln w2) (s_ln s) 9
    rw [k6]
    exact hR.2.2.2.2.2.2.1
  · show Rsm (m_sm w2) (s_sm s)
    rw [k7]
    exact hR.2.2.2.2.2.2.2
theorem m_d3 {w : Mod} {s : St} (hR : RM w s) (hW : SW s) {a b d : Nat} (ha : a ≤ 20) (hb : 1 ≤ b ∧ b ≤ 20) (hd : d ≤ 1000000) : ∃ w2, B_M_lend_0 (nI a) (nI b) (lN d) w = some (b2 (s_ok (3, a, b, d) s), w2) ∧ RM w2 (s_st (3, a, b, d) s) ∧ KM w w2 := by
  unfold B_M_lend_0
  have hr := hW.1 a
  have hp := hW.2.1 a
  rw [gd_t (g_in (by omega) (by omega)), nI_clamp (by omega), hR.2.1 a ha]
  by_cases q1 : s_rc s a = 0
  · have ho : ¬ s_ok (3, a, b, d) s = true := by simp [s_ok, q1]
    rw [if_pos ((n0 (by omega)).mpr q1), b2_f ho, st_n ho]
    exact ⟨_, rfl, hR, KM.rf⟩
  rw [if_neg (fun e => q1 ((n0 (by omega)).mp e)), gd_t (g_in (by omega) (by omega)), hR.2.2.1 a ha]
  by_cases q2 : s_pe s a = 0
  · obtain ⟨f1, f2⟩ := hR.2.2.2.2.1 (s_rc s a) hr
    have hl := hW.ql (s_rc s a)
    rw [if_pos ((n0 (by omega)).mpr q2), gd_t (g_in (by omega) (by omega)), nI_clamp (show s_rc s a < 2 ^ 31 by omega), f1]
    by_cases q3 : 0 < (s_qu s (s_rc s a)).length
    · have hz := hW.qe (s_rc s a) _ (getD_mem q3)
      have ex : (20 : Int32) * nI (s_rc s a) = nI (s_rc s a * 20 + 0) := by rw [show (20 : Int32) = nI 20 from rfl, pk_mul, Nat.mul_comm, Nat.add_zero]
      rw [if_neg (nI_nle q3 (by omega)), ex, gd_t (g_in (by omega) (by omega)), nI_clamp (by omega), f2 0 q3]
      by_cases q4 : (s_qu s (s_rc s a)).getD 0 0 = b
      · have ho : s_ok (3, a, b, d) s = true := by simp only [s_ok, hD_0 q3, q4]; simp [q1, q2]
        rw [if_pos (by rw [q4]), b2_t ho, st_y ho]
        exact m_lend48 hR hW ha hb hd rfl
      · have ho : ¬ s_ok (3, a, b, d) s = true := by
          simp only [s_ok, hD_0 q3]
          simp only [Bool.and_eq_true, not_and]
          intro _ _ e
          exact q4 (by simpa using e)
        rw [if_neg (fun e => q4 ((nI_eq (by omega) (by omega)).mp e)), b2_f ho, st_n ho]
        exact ⟨_, rfl, hR, KM.rf⟩
    · have hnil : s_qu s (s_rc s a) = [] := List.eq_nil_of_length_eq_zero (by omega)
      have ho : s_ok (3, a, b, d) s = true := by simp [s_ok, q1, q2, hnil]
      rw [if_pos (by rw [hnil]; decide), b2_t ho, st_y ho]
      exact m_lend48 hR hW ha hb hd rfl
  · have ho : ¬ s_ok (3, a, b, d) s = true := by simp [s_ok, q2]
    rw [if_neg (fun e => q2 ((n0 (by omega)).mp e)), b2_f ho, st_n ho]
    exact ⟨_, rfl, hR, KM.rf⟩
def RRM (w : Mod) (l : List Act) : Prop := m_ct w = nI l.length ∧ l.length ≤ 200 ∧ ∀ (k : Nat) (x : Act), l[k]? = some x → m_srt w k = nI x.1 ∧ m_as w k = nI x.2.1 ∧ (x.1 ≠ 4 → m_bs w k = lN x.2.2.1) ∧ m_dys w k = lN x.2.2.2
theorem va_up_self3 {g : Nat → Nat → Nat} {a b : Nat} {v : Nat} (h : g a b = v) : va_up g a (va_up (g a) b v) = g := by
  rw [← h, va_up_id, va_up_id]
/-- THE REFERENCE'S does -/
theorem m_does {w : Mod} {l : List Act} {s : St} (hL : RRM w l) (hR : RM w s) (hW : SW s) (hv : allv l) {k : Nat} {x : Act} (hx : l[k]? = some x) : ∃ w2, B_M_does_0 (nI k) w = some (b2 (s_ok x s), w2) ∧ RM w2 (s_st x s) ∧ K0 w w2 ∧ (∀ j, j ≠ k → m_bk w2 j = m_bk w j) ∧ (x.1 = 4 → m_bk w2 k = nI (s_pe s x.2.1)) := by
  have hk : k < l.length := (List.getElem?_eq_some_iff.mp hx).1
  have h200 := hL.2.1
  obtain ⟨a1, a2, a3, a4⟩ := hL.2.2 k x hx
  have hvx := hv k x hx
  obtain ⟨so, a, b, d⟩ := x
  obtain ⟨hd, hvx⟩ := hvx
  have hd : d ≤ 1000000 := hd
  have a1 : m_srt w k = nI so := a1
  have a2 : m_as w k = nI a := a2
  have a3 : so ≠ 4 → m_bs w k = lN b := a3
  have a4 : m_dys w k = lN d := a4
  have fin : ∀ (m : Option (Int32 × Mod)) (q : Nat), q ≠ 4 → (∃ w2, m = some (b2 (s_ok (q, a, b, d) s), w2) ∧ RM w2 (s_st (q, a, b, d) s) ∧ KM w w2) → ∃ w2, (m.bind fun v => gd (v.1 = 0 ∨ v.1 = 1) (some (v.1, v.2))) = some (b2 (s_ok (q, a, b, d) s), w2) ∧ RM w2 (s_st (q, a, b, d) s) ∧ K0 w w2 ∧ (∀ j, j ≠ k → m_bk w2 j = m_bk w j) ∧ (q = 4 → m_bk w2 k = nI (s_pe s a)) := by
    intro m q hq h
    obtain ⟨w2, h1, h2, h3⟩ := h
    rw [h1, bs, gd_t (b2_01 _)]
    exact ⟨w2, rfl, h2, h3.1, fun j _ => by rw [h3.2], fun z => absurd z hq⟩
  unfold B_M_does_0
  rw [gd_t (g_in (by omega) (by omega)), gd_t (g_in (by omega) (by omega)), gd_t (g_in (by omega) (by omega)), nI_clamp (show k < 2 ^ 31 by omega), a1, a2, a4]
  match so, hvx, a3 with
  | 0, hvx, a3 =>
    have hvx : 1 ≤ a ∧ a ≤ 20 ∧ 1 ≤ b ∧ b ≤ 99 := hvx
    rw [a3 (by decide), lN_i, if_pos (by decide), show (100 : Int32) * nI a + nI b = nI (100 * a + b) from by rw [show (100 : Int32) = nI 100 from rfl, pk_mul, nI_add]]
    refine fin _ 0 (by decide) ?_
    obtain ⟨w2, h1, h2, h3⟩ := m_sets hR (a := a) (b := b) (by omega) (by omega) true
    refine ⟨w2, ?_, ?_, h3⟩
    · rw [show (1 : Int32) = b2 true from rfl, h1, show s_ok (0, a, b, d) s = (s_hd s a b != true) from by show (!s_hd s a b) = _; cases s_hd s a b <;> rfl]
    · by_cases ho : s_ok (0, a, b, d) s = true
      · rw [st_y ho]
        exact h2
      · rw [st_n ho]
        rw [va_up_self2 (by simpa [s_ok] using ho)] at h2
        exact h2
  | 1, hvx, a3 =>
    have hvx : 1 ≤ a ∧ a ≤ 20 ∧ 1 ≤ b ∧ b ≤ 99 := hvx
    rw [a3 (by decide), lN_i, if_neg (by decide), if_pos (by decide), show (100 : Int32) * nI a + nI b = nI (100 * a + b) from by rw [show (100 : Int32) = nI 100 from rfl, pk_mul, nI_add]]
    refine fin _ 1 (by decide) ?_
    obtain ⟨w2, h1, h2, h3⟩ := m_sets hR (a := a) (b := b) (by omega) (by omega) false
    refine ⟨w2, ?_, ?_, h3⟩
    · rw [show (0 : Int32) = b2 false from rfl, h1, show s_ok (1, a, b, d) s = (s_hd s a b != false) from by show (s_hd s a b) = _; cases s_hd s a b <;> rfl]
    · by_cases ho : s_ok (1, a, b, d) s = true
      · rw [st_y ho]
        exact h2
      · rw [st_n ho]
        rw [va_up_self2 (by simpa [s_ok] using ho)] at h2
        exact h2
  | 2, hvx, a3 =>
    have hvx : 1 ≤ a ∧ a ≤ 20 ∧ 1 ≤ b ∧ b ≤ 20 := hvx
    have hp := hW.2.1 a
    rw [a3 (by decide), lN_i, if_neg (by decide), if_neg (by decide), if_pos (by decide), gd_t (g_in (by omega) (by omega)), gd_t (g_in (by omega) (by omega)), nI_clamp (by omega), hR.2.2.1 a (by omega)]
    by_cases q : s_pe s a = 0
    · have ho : s_ok (2, a, b, d) s = true := by simp [s_ok, q]
      rw [if_pos ((n0 (by omega)).mpr q), b2_t ho, st_y ho]
      exact ⟨_, rfl, ⟨hR.1, Rn_up hR.2.1 a b, hR.2.2⟩, K0.rf, fun _ _ => rfl, fun z => absurd (show 2 = 4 from z) (by decide)⟩
    · have ho : ¬ s_ok (2, a, b, d) s = true := by simp [s_ok, q]
      rw [if_neg (fun e => q ((n0 (by omega)).mp e)), b2_f ho, st_n ho]
      exact ⟨_, rfl, hR, K0.rf, fun _ _ => rfl, fun z => absurd (show 2 = 4 from z) (by decide)⟩
  | 3, hvx, a3 =>
    have hvx : 1 ≤ a ∧ a ≤ 20 ∧ 1 ≤ b ∧ b ≤ 20 := hvx
    rw [a3 (by decide), lN_i, if_neg (by decide), if_neg (by decide), if_neg (by decide), if_pos (by decide), gd_t (g_in (by omega) (by omega))]
    exact fin _ 3 (by decide) (m_d3 hR hW (by omega) (by omega) hd)
  | 4, hvx, a3 =>
    have hvx : 1 ≤ a ∧ a ≤ 20 := hvx
    have hp := hW.2.1 a
    rw [if_neg (by decide), if_neg (by decide), if_neg (by decide), if_neg (by decide), if_pos (by decide), gd_t (g_in (by omega) (by omega)), gd_t (g_in (by omega) (by omega)), gd_t (g_in (by omega) (by omega)), bs, gd_t (g_in (by omega) (by omega)), nI_clamp (by omega), hR.2.2.1 a (by omega)]
    have eb : m_bk (m_per_w (m_bk_w w (upd (m_bk w) k (nI (s_pe s a)))) (upd (m_per (m_bk_w w (upd (m_bk w) k (nI (s_pe s a))))) a 0)) k = nI (s_pe s a) := by
      show upd (m_bk w) k (nI (s_pe s a)) k = _
      simp [upd]
    have hR2 : RM (m_per_w (m_bk_w w (upd (m_bk w) k (nI (s_pe s a)))) (upd (m_per (m_bk_w w (upd (m_bk w) k (nI (s_pe s a))))) a 0)) (s_do (4, a, b, d) s) := by
      refine ⟨hR.1, hR.2.1, Rn_up hR.2.2.1 a 0, ?_, hR.2.2.2.2⟩
      intro c hc hne
      show m_due w c = lN (s_du s c)
      refine hR.2.2.2.1 c hc ?_
      have hne : va_up (s_pe s) a 0 c ≠ 0 := hne
      rw [vu_i] at hne
      split at hne
      · exact absurd rfl hne
      · exact hne
    have hK : ∀ j, j ≠ k → m_bk (m_per_w (m_bk_w w (upd (m_bk w) k (nI (s_pe s a)))) (upd (m_per (m_bk_w w (upd (m_bk w) k (nI (s_pe s a))))) a 0)) j = m_bk w j := by
      intro j hj
      show upd (m_bk w) k (nI (s_pe s a)) j = _
      simp [upd, hj]
    rw [eb]
    by_cases q : s_pe s a = 0
    · have ho : ¬ s_ok (4, a, b, d) s = true := by simp [s_ok, q]
      rw [if_pos ((n0 (by omega)).mpr q), b2_f ho, st_n ho]
      refine ⟨_, rfl, ?_, K0.rf, hK, fun _ => eb⟩
      have e : s_do (4, a, b, d) s = s := by
        show (s_hd s, s_rc s, va_up (s_pe s) a 0, s.2.2.2) = s
        rw [show va_up (s_pe s) a 0 = s_pe s from by rw [← q, va_up_id]]
        rfl
      rw [e] at hR2
      exact hR2
    · have ho : s_ok (4, a, b, d) s = true := by simp [s_ok, q]
      rw [if_neg (fun e => q ((n0 (by omega)).mp e)), b2_t ho, st_y ho]
      exact ⟨_, rfl, hR2, K0.rf, hK, fun _ => eb⟩
  | 5, hvx, a3 =>
    have hvx : 1 ≤ a ∧ a ≤ 20 ∧ 1 ≤ b ∧ b ≤ 20 := hvx
    rw [a3 (by decide), lN_i, if_neg (by decide), if_neg (by decide), if_neg (by decide), if_neg (by decide), if_neg (by decide), if_pos (by decide)]
    exact fin _ 5 (by decide) (m_d5 hR hW (by omega) (by omega))
  | 6, hvx, a3 =>
    have hvx : 1 ≤ a ∧ a ≤ 20 ∧ 1 ≤ b ∧ b ≤ 20 := hvx
    rw [a3 (by decide), lN_i, if_neg (by decide), if_neg (by decide), if_neg (by decide), if_neg (by decide), if_neg (by decide), if_neg (by decide), if_pos (by decide)]
    exact fin _ 6 (by decide) (m_d6 hR hW (by omega) (by omega))
  | 7, hvx, a3 =>
    have hvx : 1 ≤ a ∧ a ≤ 20 ∧ 1 ≤ b ∧ b ≤ 5 := hvx
    rw [a3 (by decide), lN_i, if_neg (by decide), if_neg (by decide), if_neg (by decide), if_neg (by decide), if_neg (by decide), if_neg (by decide), if_neg (by decide), if_pos (by decide), gd_t (g_in (by omega) (by omega)), show (6 : Int32) * nI a + nI b = nI (a * 6 + b) from by rw [show (6 : Int32) = nI 6 from rfl, pk_mul, nI_add, Nat.mul_comm]]
    refine fin _ 7 (by decide) ?_
    obtain ⟨w2, h1, h2, h3⟩ := m_st hR hW (a := a) (b := b) (by omega) (by omega) (d % 7 + 1) (by omega) (p_mod7 hd)
    refine ⟨w2, ?_, h2, h3⟩
    rw [h1, b2_t (by simp)]
    rfl
  | 8, hvx, a3 =>
    have hvx : 1 ≤ a ∧ a ≤ 20 ∧ 1 ≤ b ∧ b ≤ 5 := hvx
    rw [a3 (by decide), lN_i, if_neg (by decide), if_neg (by decide), if_neg (by decide), if_neg (by decide), if_neg (by decide), if_neg (by decide), if_neg (by decide), if_neg (by decide), if_pos (by decide), show (6 : Int32) * nI a + nI b = nI (a * 6 + b) from by rw [show (6 : Int32) = nI 6 from rfl, pk_mul, nI_add, Nat.mul_comm]]
    refine fin _ 8 (by decide) ?_
    obtain ⟨w2, h1, h2, h3⟩ := m_st hR hW (a := a) (b := b) (by omega) (by omega) 0 (by omega) (show (-1 : Int32) = nI 0 - 1 by decide)
    by_cases q : s_sm s a b = 0
    · have ho : ¬ s_ok (8, a, b, d) s = true := by simp [s_ok, q]
      refine ⟨w2, by rw [h1, b2_f ho, b2_f (by simp [q])], ?_, h3⟩
      rw [st_n ho]
      rw [va_up_self3 q] at h2
      exact h2
    · have ho : s_ok (8, a, b, d) s = true := by simp [s_ok, q]
      refine ⟨w2, by rw [h1, b2_t ho, b2_t (by simp [q])], ?_, h3⟩
      rw [st_y ho]
      exact h2
  | 9, hvx, a3 =>
    have hvx : 1 ≤ a ∧ a ≤ 20 ∧ b ≤ 9 := hvx
    rw [a3 (by decide), lN_i, if_neg (by decide), if_neg (by decide), if_neg (by decide), if_neg (by decide), if_neg (by decide), if_neg (by decide), if_neg (by decide), if_neg (by decide), if_neg (by decide), if_pos (by decide), gd_t (g_in (by omega) (by omega)), nI_clamp (by omega)]
    exact ⟨_, rfl, ⟨hR.1, hR.2.1, hR.2.2.1, hR.2.2.2.1, hR.2.2.2.2.1, Rn_up hR.2.2.2.2.2.1 a b, hR.2.2.2.2.2.2⟩, K0.rf, fun _ _ => rfl, fun z => absurd (show 9 = 4 from z) (by decide)⟩
  | 10, hvx, a3 =>
    have hvx : a ≤ 9 ∧ 1 ≤ b ∧ b ≤ 365 := hvx
    rw [a3 (by decide), lN_i, if_neg (by decide), if_neg (by decide), if_neg (by decide), if_neg (by decide), if_neg (by decide), if_neg (by decide), if_neg (by decide), if_neg (by decide), if_neg (by decide), if_neg (by decide), gd_t (g_in (by omega) (by omega)), nI_clamp (by omega)]
    exact ⟨_, rfl, ⟨hR.1, hR.2.1, hR.2.2.1, hR.2.2.2.1, hR.2.2.2.2.1, hR.2.2.2.2.2.1, Rn_up hR.2.2.2.2.2.2.1 a b, hR.2.2.2.2.2.2.2⟩, K0.rf, fun _ _ => rfl, fun z => absurd (show 10 = 4 from z) (by decide)⟩
  | q + 11, hvx, a3 => exact hvx.elim
