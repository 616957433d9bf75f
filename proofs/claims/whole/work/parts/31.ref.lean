/-! the reference's state -/
def Rhe (f : Nat → Int32) (g : Nat → Nat → Bool) : Prop := ∀ r h, r ≤ 20 → h ≤ 99 → f (100 * r + h) = b2 (g r h)
def RM (w : Mod) (s : St) : Prop := Rhe (m_hd w) (s_hd s) ∧ Rn (m_rec w) (s_rc s) 20 ∧ Rn (m_per w) (s_pe s) 20 ∧ Rdu (m_due w) (s_pe s) (s_du s) ∧ Rqu (m_qs w) (m_qd w) (s_qu s) ∧ Rn (m_cls w) (s_cs s) 20 ∧ Rn (m_ln w) (s_ln s) 9 ∧ Rsm (m_sm w) (s_sm s)
def K0 (w v : Mod) : Prop := m_srt v = m_srt w ∧ m_as v = m_as w ∧ m_bs v = m_bs w ∧ m_dys v = m_dys w ∧ m_ct v = m_ct w ∧ m_vo v = m_vo w ∧ m_vd v = m_vd w ∧ m_pk v = m_pk w ∧ m_hit v = m_hit w ∧ m_hc v = m_hc w
def KM (w v : Mod) : Prop := K0 w v ∧ m_bk v = m_bk w
theorem K0.rf {w : Mod} : K0 w w := ⟨rfl, rfl, rfl, rfl, rfl, rfl, rfl, rfl, rfl, rfl⟩
theorem KM.rf {w : Mod} : KM w w := ⟨K0.rf, rfl⟩
theorem Rhe_up {f : Nat → Int32} {g : Nat → Nat → Bool} (h : Rhe f g) {a b : Nat} (hb : b ≤ 99) (v : Bool) {x : Int32} (hx : x = b2 v) : Rhe (upd f (100 * a + b) x) (va_up g a (va_up (g a) b v)) := by
  intro r j hr hj
  unfold upd
  rw [vu_i]
  by_cases e : r = a
  · subst e
    rw [if_pos rfl, vu_i]
    by_cases e3 : j = b
    · subst e3
      rw [if_pos rfl, if_pos rfl, hx]
    · rw [if_neg (by omega), if_neg e3]
      exact h r j hr hj
  · rw [if_neg e, if_neg (by omega)]
    exact h r j hr hj
theorem va_up_self2 {g : Nat → Nat → Bool} {a b : Nat} {v : Bool} (h : g a b = v) : va_up g a (va_up (g a) b v) = g := by
  rw [← h, va_up_id, va_up_id]
theorem nar0 : vp_nar .boolean (0 : Int32) = 0 := by decide
theorem nar1 : vp_nar .boolean (1 : Int32) = 1 := by decide
theorem m_sets {w : Mod} {s : St} (hR : RM w s) {a b : Nat} (ha : a ≤ 20) (hb : b ≤ 99) (v : Bool) : ∃ w2, B_M_sets_0 (nI (100 * a + b)) (b2 v) w = some (b2 (s_hd s a b != v), w2) ∧ RM w2 (va_up (s_hd s) a (va_up (s_hd s a) b v), s.2) ∧ KM w w2 := by
  unfold B_M_sets_0
  have hn : vp_nar .boolean (b2 v) = b2 v := by cases v <;> decide
  rw [gd_t (g_in (by omega) (by omega)), gd_t (g_in (by omega) (by omega)), nI_clamp (by omega), hR.1 a b ha hb, hn]
  have hx : RM (m_hd_w w (upd (m_hd w) (100 * a + b) (b2 v))) (va_up (s_hd s) a (va_up (s_hd s a) b v), s.2) := ⟨Rhe_up hR.1 hb v rfl, hR.2⟩
  cases hq : s_hd s a b <;> cases v
  · rw [if_pos rfl]
    exact ⟨_, rfl, hx, KM.rf⟩
  · rw [if_neg (by decide)]
    exact ⟨_, rfl, hx, KM.rf⟩
  · rw [if_neg (by decide)]
    exact ⟨_, rfl, hx, KM.rf⟩
  · rw [if_pos rfl]
    exact ⟨_, rfl, hx, KM.rf⟩
theorem m_leaveL {w0 : Mod} {f0 : Nat → Int32} {r p n : Nat} (hr : r ≤ 20) (hn : n ≤ 19) (hq : m_qs w0 r = nI n) : ∀ (fu k : Nat) (f : Nat → Int32), p ≤ k → k ≤ n → n - k < fu → (∀ i, i < 20 → f (r * 20 + i) = if p ≤ i ∧ i < k then f0 (r * 20 + (i + 1)) else f0 (r * 20 + i)) → (∀ q i, q ≠ r → i < 20 → f (q * 20 + i) = f0 (q * 20 + i)) → ∃ g, B_M_leave_27 fu (nI r) (nI k) (m_qd_w w0 f) = some (1, m_qd_w w0 g) ∧ (∀ i, i < 20 → g (r * 20 + i) = if p ≤ i ∧ i < n then f0 (r * 20 + (i + 1)) else f0 (r * 20 + i)) ∧ (∀ q i, q ≠ r → i < 20 → g (q * 20 + i) = f0 (q * 20 + i))
  | 0, k, f, _, _, h2, _, _ => absurd h2 (by omega)
  | fu + 1, k, f, h0, h1, h2, h3, h4 => by
    show ∃ g, B_M_leave_27s _ _ _ _ = _ ∧ _
    unfold B_M_leave_27s
    have e0 : m_qs (m_qd_w w0 f) = m_qs w0 := rfl
    rw [gd_t (g_in (by omega) (by omega)), e0, nI_clamp (show r < 2 ^ 31 by omega), hq]
    by_cases hk : n ≤ k
    · rw [if_pos (nI_le hk (by omega))]
      have : k = n := by omega
      subst this
      exact ⟨f, rfl, h3, h4⟩
    · have e1 : (20 : Int32) * nI r + nI k = nI (r * 20 + k) := by rw [show (20 : Int32) = nI 20 from rfl, pk_mul, nI_add, Nat.mul_comm]
      have e2 : nI (r * 20 + k) + (1 : Int32) = nI (r * 20 + (k + 1)) := nI_1 _
      have e3 : m_qd (m_qd_w w0 f) = f := rfl
      rw [if_neg (nI_ge (by omega) (by omega)), e1, e2, gd_t (g_in (by omega) (by omega)), gd_t (g_in (by omega) (by omega)), bs, e3, nI_clamp (by omega), nI_clamp (by omega), nI_1]
      refine m_leaveL hr hn hq fu (k + 1) (upd f (r * 20 + k) (f (r * 20 + (k + 1)))) (by omega) (by omega) (by omega) (fun i hi => ?_) (fun q i hq2 hi => ?_)
      · unfold upd
        by_cases e : i = k
        · subst e
          rw [if_pos rfl, if_pos (by omega), h3 (i + 1) (by omega), if_neg (by omega)]
        · rw [if_neg (by omega), h3 i hi]
          by_cases z : p ≤ i ∧ i < k
          · rw [if_pos z, if_pos (by omega)]
          · rw [if_neg z, if_neg (by omega)]
      · unfold upd
        rw [if_neg (by omega)]
        exact h4 q i hq2 hi
def KQM (w v : Mod) : Prop := m_hd v = m_hd w ∧ m_rec v = m_rec w ∧ m_per v = m_per w ∧ m_due v = m_due w ∧ m_cls v = m_cls w ∧ m_ln v = m_ln w ∧ m_sm v = m_sm w ∧ KM w v
theorem m_leave {w : Mod} {q : Nat → List Nat} (H : Rqu (m_qs w) (m_qd w) q) (hq : ∀ r, (q r).length ≤ 20) (hq2 : ∀ r, ∀ z ∈ q r, z ≤ 20) {r b : Nat} (hr : r ≤ 20) (hb : b ≤ 20) : ∃ w2, B_M_leave_0 (nI r) (nI b) w = some (b2 ((q r).contains b), w2) ∧ Rqu (m_qs w2) (m_qd w2) (va_up q r ((q r).erase b)) ∧ KQM w w2 := by
  unfold B_M_leave_0
  have hl := hq r
  obtain ⟨e1, e2⟩ := H r hr
  rw [p_M_place H hq hq2 hr hb, bs, plc]
  by_cases hm : b ∈ q r
  · have hi : (q r).idxOf b < (q r).length := List.idxOf_lt_length_of_mem hm
    have he : (q r).erase b = (q r).eraseIdx ((q r).idxOf b) := List.erase_eq_eraseIdx_of_idxOf rfl
    generalize hp : (q r).idxOf b = p at hi he
    have hc : (q r).contains b = true := by simpa using hm
    have ey : nI (q r).length - (1 : Int32) = nI ((q r).length - 1) := by rw [show (1 : Int32) = nI 1 from rfl, pk_sub (by omega)]
    rw [if_pos hm, if_neg (n_m1 (by omega)), gd_t (g_in (by omega) (by omega)), gd_t (g_in (by omega) (by omega)), nI_clamp (by omega), e1, ey, b2_t hc]
    obtain ⟨g, f1, f2, f3⟩ := m_leaveL (w0 := m_qs_w w (upd (m_qs w) r (nI ((q r).length - 1)))) (f0 := m_qd w) (r := r) (p := p) (n := (q r).length - 1) hr (by omega) (by show upd (m_qs w) r _ r = _; simp [upd]) FU p (m_qd w) (by omega) (by omega) (by unfold FU; omega) (fun i hi => by rw [if_neg (by omega)]) (fun _ _ _ _ => rfl)
    refine ⟨_, f1, ?_, rfl, rfl, rfl, rfl, rfl, rfl, rfl, KM.rf⟩
    rw [he]
    refine Rqu_leave H hq hi (fun i hi2 => ?_) (fun k i hk hi2 => f3 k i hk hi2)
    show g (r * 20 + i) = _
    rw [f2 i (by omega)]
    by_cases z : i < p
    · rw [if_neg (by omega), if_pos z]
    · rw [if_pos (by omega), if_neg z]
  · have hc : ¬ (q r).contains b = true := by simpa using hm
    rw [if_neg hm, if_pos rfl, b2_f hc, List.erase_of_not_mem hm, va_up_id]
    exact ⟨_, rfl, H, rfl, rfl, rfl, rfl, rfl, rfl, rfl, KM.rf⟩
theorem m_d6 {w : Mod} {s : St} (hR : RM w s) (hW : SW s) {a b d : Nat} (ha : a ≤ 20) (hb : b ≤ 20) : ∃ w2, B_M_leave_0 (nI a) (nI b) w = some (b2 (s_ok (6, a, b, d) s), w2) ∧ RM w2 (s_st (6, a, b, d) s) ∧ KM w w2 := by
  obtain ⟨w2, h1, h2, k1, k2, k3, k4, k5, k6, k7, k8⟩ := m_leave hR.2.2.2.2.1 hW.ql hW.qe ha hb
  refine ⟨w2, h1, ?_, k8⟩
  have hs : ∀ x : St, (s_hd x = s_hd s ∧ s_rc x = s_rc s ∧ s_pe x = s_pe s ∧ s_du x = s_du s ∧ s_cs x = s_cs s ∧ s_ln x = s_ln s ∧ s_sm x = s_sm s) → Rqu (m_qs w2) (m_qd w2) (s_qu x) → RM w2 x := by
    intro x hx hq
    obtain ⟨x1, x2, x3, x4, x5, x6, x7⟩ := hx
    unfold RM
    rw [k1, k2, k3, k4, k5, k6, k7, x1, x2, x3, x4, x5, x6, x7]
    exact ⟨hR.1, hR.2.1, hR.2.2.1, hR.2.2.2.1, hq, hR.2.2.2.2.2⟩
  by_cases ho : s_ok (6, a, b, d) s = true
  · rw [st_y ho]
    exact hs _ ⟨rfl, rfl, rfl, rfl, rfl, rfl, rfl⟩ h2
  · rw [st_n ho]
    refine hs _ ⟨rfl, rfl, rfl, rfl, rfl, rfl, rfl⟩ ?_
    have hm : b ∉ s_qu s a := by simpa [s_ok] using ho
    rw [List.erase_of_not_mem hm, va_up_id] at h2
    exact h2
theorem m_d5 {w : Mod} {s : St} (hR : RM w s) (hW : SW s) {a b d : Nat} (ha : a ≤ 20) (hb : 1 ≤ b ∧ b ≤ 20) : ∃ w2, B_M_stand_0 (nI a) (nI b) w = some (b2 (s_ok (5, a, b, d) s), w2) ∧ RM w2 (s_st (5, a, b, d) s) ∧ KM w w2 := by
  unfold B_M_stand_0
  have hl := hW.ql a
  have hQ := hR.2.2.2.2.1
  obtain ⟨e1, e2⟩ := hQ a ha
  rw [p_M_place hQ hW.ql hW.qe ha hb.2, bs, plc]
  by_cases hm : b ∈ s_qu s a
  · have ho : ¬ s_ok (5, a, b, d) s = true := by simp [s_ok, hm]
    have hi : (s_qu s a).idxOf b < (s_qu s a).length := List.idxOf_lt_length_of_mem hm
    rw [if_pos hm, if_neg (n_m1 (by omega)), b2_f ho, st_n ho]
    exact ⟨_, rfl, hR, KM.rf⟩
  · have ho : s_ok (5, a, b, d) s = true := by simp [s_ok, hm]
    have hl2 := qu_len2 (hW.2.2.1 a).1 (hW.2.2.1 a).2 hm hb
    have ex1 : (20 : Int32) * nI a + nI (s_qu s a).length = nI (a * 20 + (s_qu s a).length) := by rw [show (20 : Int32) = nI 20 from rfl, pk_mul, nI_add, Nat.mul_comm]
    have ex2 : nI (s_qu s a).length + (1 : Int32) = nI ((s_qu s a).length + 1) := nI_1 _
    rw [if_neg hm, if_pos rfl, gd_t (g_in (by omega) (by omega)), nI_clamp (show a < 2 ^ 31 by omega), e1, ex1, gd_t (g_in (by omega) (by omega)), gd_t (g_in (by omega) (by omega)), gd_t (g_in (by omega) (by omega)), bs, b2_t ho, st_y ho, nI_clamp (by omega)]
    have e9 : m_qs (m_qd_w w (upd (m_qd w) (a * 20 + (s_qu s a).length) (nI b))) = m_qs w := rfl
    rw [e9, e1, ex2]
    refine ⟨_, rfl, ⟨hR.1, hR.2.1, hR.2.2.1, hR.2.2.2.1, ?_, hR.2.2.2.2.2⟩, KM.rf⟩
    exact Rqu_join hQ hW.ql hl2
theorem m_st {w : Mod} {s : St} (hR : RM w s) (hW : SW s) {a b : Nat} (ha : a ≤ 20) (hb : b ≤ 5) (v : Nat) (hv : v ≤ 7) {x : Int32} (hx : x = nI v - 1) : ∃ w2, B_M_stores_0 (nI (a * 6 + b)) x w = some (b2 (decide (s_sm s a b ≠ 0 ∨ v ≠ 0)), w2) ∧ RM w2 (s_hd s, s_rc s, s_pe s, s_du s, s_qu s, s_cs s, s_ln s, va_up (s_sm s) a (va_up (s_sm s a) b v)) ∧ KM w w2 := by
  unfold B_M_stores_0 B_M_stores_15 B_M_stores_32
  have hz := hW.2.2.2.2.2.1 a b
  have m1 : ∀ k, k ≤ 7 → (nI k - 1 = (-1 : Int32) ↔ k = 0) := by
    intro k hk
    constructor
    · intro e
      by_cases z : k = 0
      · exact z
      · rw [show (1 : Int32) = nI 1 from rfl, pk_sub (by omega)] at e
        exact absurd e (n_m1 (by omega))
    · intro e
      rw [e]
      decide
  have hR2 : RM (m_sm_w w (upd (m_sm w) (a * 6 + b) x)) (s_hd s, s_rc s, s_pe s, s_du s, s_qu s, s_cs s, s_ln s, va_up (s_sm s) a (va_up (s_sm s a) b v)) := ⟨hR.1, hR.2.1, hR.2.2.1, hR.2.2.2.1, hR.2.2.2.2.1, hR.2.2.2.2.2.1, hR.2.2.2.2.2.2.1, Rsm_up hR.2.2.2.2.2.2.2 hb v hx⟩
  rw [gd_t (g_in (by omega) (by omega)), gd_t (g_in (by omega) (by omega)), gd_t (g_in (by omega) (by omega)), nI_clamp (by omega), hR.2.2.2.2.2.2.2 a b ha hb]
  by_cases q1 : s_sm s a b = 0
  · rw [if_pos ((m1 _ hz).mpr q1), if_pos rfl]
    by_cases q2 : v = 0
    · rw [if_pos (hx.trans ((m1 v hv).mpr q2)), b2_f (by simp [q1, q2])]
      exact ⟨_, rfl, hR2, KM.rf⟩
    · rw [if_neg (fun e => q2 ((m1 v hv).mp (hx.symm.trans e))), b2_t (by simp [q2])]
      exact ⟨_, rfl, hR2, KM.rf⟩
  · rw [if_neg (fun e => q1 ((m1 _ hz).mp e)), if_neg ne10, b2_t (by simp [q1])]
    exact ⟨_, rfl, hR2, KM.rf⟩
