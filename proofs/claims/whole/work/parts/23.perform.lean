theorem p_perf6 {u : Lib} {s : St} (hR : RS u s) (hW : SW s) {a b d : Nat} (ha : a ≤ 20) (hb : b ≤ 20) : ∃ u2, B_S_leaveQueue_0 (nI a) (nI b) u = some (b2 (s_ok (6, a, b, d) s), u2) ∧ RS u2 (s_st (6, a, b, d) s) ∧ KP u u2 := by
  obtain ⟨u2, h1, h2, k1, k2, k3, k4, k5, k6, k7, k8⟩ := p_leave hR.2.2.2.2.1 hW.ql hW.qe ha hb
  refine ⟨u2, h1, ?_, k8⟩
  have hs : ∀ x : St, (s_hd x = s_hd s ∧ s_rc x = s_rc s ∧ s_pe x = s_pe s ∧ s_du x = s_du s ∧ s_cs x = s_cs s ∧ s_ln x = s_ln s ∧ s_sm x = s_sm s) → Rqu (l_ql u2) (l_qd u2) (s_qu x) → RS u2 x := by
    intro x hx hq
    obtain ⟨x1, x2, x3, x4, x5, x6, x7⟩ := hx
    unfold RS
    rw [k1, k2, k3, k4, k5, k6, k7, x1, x2, x3, x4, x5, x6, x7]
    exact ⟨hR.1, hR.2.1, hR.2.2.1, hR.2.2.2.1, hq, hR.2.2.2.2.2⟩
  by_cases ho : s_ok (6, a, b, d) s = true
  · rw [st_y ho]
    exact hs _ ⟨rfl, rfl, rfl, rfl, rfl, rfl, rfl⟩ h2
  · rw [st_n ho]
    refine hs _ ⟨rfl, rfl, rfl, rfl, rfl, rfl, rfl⟩ ?_
    have hm : b ∉ s_qu s a := by simpa [s_ok] using ho
    rw [List.erase_of_not_mem hm, va_up_id] at h2
    exact h2
theorem p_perf5 {u : Lib} {s : St} (hR : RS u s) (hW : SW s) {a b d : Nat} (ha : a ≤ 20) (hb : 1 ≤ b ∧ b ≤ 20) : ∃ u2, B_S_joinQueue_0 (nI a) (nI b) u = some (b2 (s_ok (5, a, b, d) s), u2) ∧ RS u2 (s_st (5, a, b, d) s) ∧ KP u u2 := by
  unfold B_S_joinQueue_0
  have hl := hW.ql a
  have hQ := hR.2.2.2.2.1
  obtain ⟨e1, e2⟩ := hQ a ha
  rw [gd_t (g_in (by omega) (by omega)), nI_clamp (by omega), e1, p_S_place hQ hW.ql hW.qe ha hb.2, bs, plc]
  by_cases hm : b ∈ s_qu s a
  · have ho : ¬ s_ok (5, a, b, d) s = true := by simp [s_ok, hm]
    have hi : (s_qu s a).idxOf b < (s_qu s a).length := List.idxOf_lt_length_of_mem hm
    rw [if_pos hm, if_neg (n_m1 (by omega)), b2_f ho, st_n ho, ite_self]
    exact ⟨_, rfl, hR, KP.rf⟩
  · have ho : s_ok (5, a, b, d) s = true := by simp [s_ok, hm]
    have hl2 := qu_len2 (hW.2.2.1 a).1 (hW.2.2.1 a).2 hm hb
    have ex1 : nI a * (20 : Int32) + nI (s_qu s a).length = nI (a * 20 + (s_qu s a).length) := by rw [show (20 : Int32) = nI 20 from rfl, pk_mul, nI_add]
    have ex2 : nI (s_qu s a).length + (1 : Int32) = nI ((s_qu s a).length + 1) := nI_1 _
    rw [if_neg hm, if_neg (by rw [show (20 : Int32) = nI 20 from rfl]; exact nI_ge hl2 (by omega)), if_pos rfl, ex1, ex2, gd_t (g_in (by omega) (by omega)), gd_t (g_in (by omega) (by omega)), bs, b2_t ho, st_y ho, nI_clamp (by omega)]
    refine ⟨_, rfl, ⟨hR.1, hR.2.1, hR.2.2.1, hR.2.2.2.1, ?_, hR.2.2.2.2.2⟩, KP.rf⟩
    exact Rqu_join hQ hW.ql hl2
theorem p_perf8 {u : Lib} {s : St} (hR : RS u s) (hW : SW s) {a b d : Nat} (ha : a ≤ 20) (hb : b ≤ 5) : ∃ u2, B_S_loseFile_0 (nI a) (nI b) u = some (b2 (s_ok (8, a, b, d) s), u2) ∧ RS u2 (s_st (8, a, b, d) s) ∧ KP u u2 := by
  unfold B_S_loseFile_0 B_S_sumIndex_0
  have hv := hW.2.2.2.2.2.1 a b
  rw [bs, show nI a * (6 : Int32) + nI b = nI (a * 6 + b) from by rw [show (6 : Int32) = nI 6 from rfl, pk_mul, nI_add], gd_t (g_in (by omega) (by omega)), nI_clamp (by omega), hR.2.2.2.2.2.2.2 a b ha hb]
  by_cases q : s_sm s a b = 0
  · have ho : ¬ s_ok (8, a, b, d) s = true := by simp [s_ok, q]
    rw [if_pos (by rw [q]; decide), b2_f ho, st_n ho]
    exact ⟨_, rfl, hR, KP.rf⟩
  · have ho : s_ok (8, a, b, d) s = true := by simp [s_ok, q]
    rw [if_neg (by rw [show (1 : Int32) = nI 1 from rfl, pk_sub (by omega)]; exact n_m1 (by omega)), gd_t (g_in (by omega) (by omega)), b2_t ho, st_y ho]
    exact ⟨_, rfl, ⟨hR.1, hR.2.1, hR.2.2.1, hR.2.2.2.1, hR.2.2.2.2.1, hR.2.2.2.2.2.1, hR.2.2.2.2.2.2.1, Rsm_up hR.2.2.2.2.2.2.2 hb 0 (by decide)⟩, KP.rf⟩
theorem p_lend47 {u : Lib} {s : St} (hR : RS u s) (hW : SW s) {a b d r : Nat} (ha : a ≤ 20) (hb : 1 ≤ b ∧ b ≤ 20) (hd : d ≤ 1000000) (hr : r = s_rc s a) (ho : s_ok (3, a, b, d) s = true) : ∃ u2, B_S_lend_47 (nI a) (nI b) (lN d) (nI r) u = some (1, u2) ∧ RS u2 (s_do (3, a, b, d) s) ∧ KP u u2 := by
  unfold B_S_lend_47
  have hr2 : r ≤ 20 := by rw [hr]; exact hW.1 a
  obtain ⟨u2, h1, h2, k1, k2, k3, k4, k5, k6, k7, k8⟩ := p_leave hR.2.2.2.2.1 hW.ql hW.qe hr2 hb.2
  have hc := hW.2.2.2.1 r
  have hl := hW.2.2.2.2.1 (s_cs s r)
  rw [h1, bs]
  have e1 : l_cls (l_per_w u2 (upd (l_per u2) (nI a).toNatClampNeg (nI b))) = l_cls u := k5
  have e2 : l_ln (l_per_w u2 (upd (l_per u2) (nI a).toNatClampNeg (nI b))) = l_ln u := k6
  have e3 : l_due (l_per_w u2 (upd (l_per u2) (nI a).toNatClampNeg (nI b))) = l_due u := k4
  simp only []
  rw [e1, e2, e3, gd_t (g_in (by omega) (by omega)), gd_t (g_in (by omega) (by omega)), nI_clamp (show r < 2 ^ 31 by omega), hR.2.2.2.2.2.1 r hr2, gd_t (g_in (by omega) (by omega)), gd_t (g_in (by omega) (by omega)), nI_clamp (show s_cs s r < 2 ^ 31 by omega), hR.2.2.2.2.2.2.1 (s_cs s r) hc, nI_l (by omega), lN_add, nI_clamp (show a < 2 ^ 31 by omega), bs]
  refine ⟨_, rfl, ?_, k8⟩
  subst hr
  refine ⟨?_, ?_, ?_, ?_, ?_, ?_, ?_, ?_⟩
  · show Rhd (l_hb u2) (s_hd s)
    rw [k1]
    exact hR.1
  · show Rn (l_rec u2) (s_rc s) 20
    rw [k2]
    exact hR.2.1
  · show Rn (upd (l_per u2) a (nI b)) (va_up (s_pe s) a b) 20
    rw [k3]
    exact Rn_up hR.2.2.1 a b
  · show Rdu (vp_updL (l_due u) a (lN (d + s_ln s (s_cs s (s_rc s a))))) (va_up (s_pe s) a b) (va_up (s_du s) a (d + s_ln s (s_cs s (s_rc s a))))
    intro c hc2 hne
    rw [vu_i] at hne
    rw [vu_i]
    unfold vp_updL
    by_cases e : c = a
    · rw [if_pos e, if_pos e]
    · rw [if_neg e] at hne
      rw [if_neg e, if_neg e]
      exact hR.2.2.2.1 c hc2 hne
  · exact h2
  · show Rn (l_cls u2) (s_cs s) 20
    rw [k5]
    exact hR.2.2.2.2.2.1
  · show Rn (l_ln u2) (s_ln s) 9
    rw [k6]
    exact hR.2.2.2.2.2.2.1
  · show Rsm (l_sm u2) (s_sm s)
    rw [k7]
    exact hR.2.2.2.2.2.2.2
theorem hD_0 {l : List Nat} {b : Nat} (h : 0 < l.length) : l.headD b = l.getD 0 0 := by
  cases l with
  | nil => simp at h
  | cons x t => simp
theorem p_perf3 {u : Lib} {s : St} (hR : RS u s) (hW : SW s) {a b d : Nat} (ha : a ≤ 20) (hb : 1 ≤ b ∧ b ≤ 20) (hd : d ≤ 1000000) : ∃ u2, B_S_lend_0 (nI a) (nI b) (lN d) u = some (b2 (s_ok (3, a, b, d) s), u2) ∧ RS u2 (s_st (3, a, b, d) s) ∧ KP u u2 := by
  unfold B_S_lend_0
  have hr := hW.1 a
  have hp := hW.2.1 a
  rw [gd_t (g_in (by omega) (by omega)), nI_clamp (by omega), hR.2.1 a ha]
  by_cases q1 : s_rc s a = 0
  · have ho : ¬ s_ok (3, a, b, d) s = true := by simp [s_ok, q1]
    rw [if_pos ((n0 (by omega)).mpr q1), b2_f ho, st_n ho]
    exact ⟨_, rfl, hR, KP.rf⟩
  rw [if_neg (fun e => q1 ((n0 (by omega)).mp e)), gd_t (g_in (by omega) (by omega)), hR.2.2.1 a ha]
  by_cases q2 : s_pe s a = 0
  · rw [if_pos ((n0 (by omega)).mpr q2), show (0 : Int32) = nI 0 from rfl, p_personAt hR.2.2.2.2.1 hW.ql hr (by omega), bs]
    by_cases q3 : 0 < (s_qu s (s_rc s a)).length
    · have hz := hW.qe (s_rc s a) _ (getD_mem q3)
      rw [if_pos q3, if_neg (n_m1 (by omega))]
      by_cases q4 : (s_qu s (s_rc s a)).getD 0 0 = b
      · have ho : s_ok (3, a, b, d) s = true := by simp only [s_ok, hD_0 q3, q4]; simp [q1, q2]
        rw [if_pos (by rw [q4]), b2_t ho, st_y ho]
        exact p_lend47 hR hW ha hb hd rfl ho
      · have ho : ¬ s_ok (3, a, b, d) s = true := by
          simp only [s_ok, hD_0 q3]
          simp only [Bool.and_eq_true, not_and]
          intro _ _ e
          exact q4 (by simpa using e)
        rw [if_neg (fun e => q4 ((nI_eq (by omega) (by omega)).mp e)), b2_f ho, st_n ho]
        exact ⟨_, rfl, hR, KP.rf⟩
    · have hnil : s_qu s (s_rc s a) = [] := List.eq_nil_of_length_eq_zero (by omega)
      have ho : s_ok (3, a, b, d) s = true := by simp [s_ok, q1, q2, hnil]
      rw [if_neg q3, if_pos rfl, b2_t ho, st_y ho]
      exact p_lend47 hR hW ha hb hd rfl ho
  · have ho : ¬ s_ok (3, a, b, d) s = true := by simp [s_ok, q2]
    rw [if_neg (fun e => q2 ((n0 (by omega)).mp e)), b2_f ho, st_n ho]
    exact ⟨_, rfl, hR, KP.rf⟩
theorem p_mod7 {d : Nat} (hd : d ≤ 1000000) : (lN d - lN d / (7 : Int64) * (7 : Int64)).toInt32 = nI (d % 7 + 1) - 1 := by
  rw [show (7 : Int64) = lN 7 from rfl, pk_lRem (by omega) (by omega) (by omega), lN_i, show (1 : Int32) = nI 1 from rfl, pk_sub (by omega)]
  rfl
theorem p_pair {α : Type} (v : Int32 × α) : (v.1, v.2) = v := rfl
/-- THE CLASS'S perform: an act done, or not, as the document's value says -/
theorem p_perform {u : Lib} {s : St} (hR : RS u s) (hW : SW s) {x : Act} (hv : vact x) : ∃ u2, B_S_perform_0 (nI x.1) (nI x.2.1) (nI x.2.2.1) (lN x.2.2.2) u = some (b2 (s_ok x s), u2) ∧ RS u2 (s_st x s) ∧ KP u u2 := by
  obtain ⟨so, a, b, d⟩ := x
  obtain ⟨hd, hv⟩ := hv
  have hd : d ≤ 1000000 := hd
  have fin : ∀ (m : Option (Int32 × Lib)) (k : Nat), (∃ u2, m = some (b2 (s_ok (k, a, b, d) s), u2) ∧ RS u2 (s_st (k, a, b, d) s) ∧ KP u u2) → ∃ u2, (m.bind fun v => gd (v.1 = 0 ∨ v.1 = 1) (some (v.1, v.2))) = some (b2 (s_ok (k, a, b, d) s), u2) ∧ RS u2 (s_st (k, a, b, d) s) ∧ KP u u2 := by
    intro m k h
    obtain ⟨u2, h1, h2, h3⟩ := h
    rw [h1, bs, gd_t (b2_01 _)]
    exact ⟨u2, rfl, h2, h3⟩
  show ∃ u2, B_S_perform_0 (nI so) (nI a) (nI b) (lN d) u = _ ∧ _
  unfold B_S_perform_0
  match so, hv with
  | 0, hv =>
    have hv : 1 ≤ a ∧ a ≤ 20 ∧ 1 ≤ b ∧ b ≤ 99 := hv
    rw [if_pos (by decide)]
    exact fin _ 0 (p_perf0 hR (by omega) (by omega))
  | 1, hv =>
    have hv : 1 ≤ a ∧ a ≤ 20 ∧ 1 ≤ b ∧ b ≤ 99 := hv
    rw [if_neg (by decide), if_pos (by decide)]
    exact fin _ 1 (p_perf1 hR (by omega) (by omega))
  | 2, hv =>
    have hv : 1 ≤ a ∧ a ≤ 20 ∧ 1 ≤ b ∧ b ≤ 20 := hv
    rw [if_neg (by decide), if_neg (by decide), if_pos (by decide)]
    exact fin _ 2 (p_perf2 hR hW (by omega) (by omega))
  | 3, hv =>
    have hv : 1 ≤ a ∧ a ≤ 20 ∧ 1 ≤ b ∧ b ≤ 20 := hv
    rw [if_neg (by decide), if_neg (by decide), if_neg (by decide), if_pos (by decide)]
    exact fin _ 3 (p_perf3 hR hW (by omega) (by omega) hd)
  | 4, hv =>
    have hv : 1 ≤ a ∧ a ≤ 20 := hv
    rw [if_neg (by decide), if_neg (by decide), if_neg (by decide), if_neg (by decide), if_pos (by decide)]
    exact fin _ 4 (p_perf4 hR hW (by omega))
  | 5, hv =>
    have hv : 1 ≤ a ∧ a ≤ 20 ∧ 1 ≤ b ∧ b ≤ 20 := hv
    rw [if_neg (by decide), if_neg (by decide), if_neg (by decide), if_neg (by decide), if_neg (by decide), if_pos (by decide)]
    exact fin _ 5 (p_perf5 hR hW (by omega) (by omega))
  | 6, hv =>
    have hv : 1 ≤ a ∧ a ≤ 20 ∧ 1 ≤ b ∧ b ≤ 20 := hv
    rw [if_neg (by decide), if_neg (by decide), if_neg (by decide), if_neg (by decide), if_neg (by decide), if_neg (by decide), if_pos (by decide)]
    exact fin _ 6 (p_perf6 hR hW (by omega) (by omega))
  | 7, hv =>
    have hv : 1 ≤ a ∧ a ≤ 20 ∧ 1 ≤ b ∧ b ≤ 5 := hv
    rw [if_neg (by decide), if_neg (by decide), if_neg (by decide), if_neg (by decide), if_neg (by decide), if_neg (by decide), if_neg (by decide), if_pos (by decide)]
    unfold B_S_sumIndex_0
    rw [bs, show nI a * (6 : Int32) + nI b = nI (a * 6 + b) from by rw [show (6 : Int32) = nI 6 from rfl, pk_mul, nI_add], gd_t (g_in (by omega) (by omega)), nI_clamp (by omega)]
    exact ⟨_, rfl, ⟨hR.1, hR.2.1, hR.2.2.1, hR.2.2.2.1, hR.2.2.2.2.1, hR.2.2.2.2.2.1, hR.2.2.2.2.2.2.1, Rsm_up hR.2.2.2.2.2.2.2 (by omega) (d % 7 + 1) (p_mod7 hd)⟩, KP.rf⟩
  | 8, hv =>
    have hv : 1 ≤ a ∧ a ≤ 20 ∧ 1 ≤ b ∧ b ≤ 5 := hv
    rw [if_neg (by decide), if_neg (by decide), if_neg (by decide), if_neg (by decide), if_neg (by decide), if_neg (by decide), if_neg (by decide), if_neg (by decide), if_pos (by decide)]
    exact fin _ 8 (p_perf8 hR hW (by omega) (by omega))
  | 9, hv =>
    have hv : 1 ≤ a ∧ a ≤ 20 ∧ b ≤ 9 := hv
    rw [if_neg (by decide), if_neg (by decide), if_neg (by decide), if_neg (by decide), if_neg (by decide), if_neg (by decide), if_neg (by decide), if_neg (by decide), if_neg (by decide), if_pos (by decide), gd_t (g_in (by omega) (by omega)), nI_clamp (by omega)]
    exact ⟨_, rfl, ⟨hR.1, hR.2.1, hR.2.2.1, hR.2.2.2.1, hR.2.2.2.2.1, Rn_up hR.2.2.2.2.2.1 a b, hR.2.2.2.2.2.2⟩, KP.rf⟩
  | 10, hv =>
    have hv : a ≤ 9 ∧ 1 ≤ b ∧ b ≤ 365 := hv
    rw [if_neg (by decide), if_neg (by decide), if_neg (by decide), if_neg (by decide), if_neg (by decide), if_neg (by decide), if_neg (by decide), if_neg (by decide), if_neg (by decide), if_neg (by decide), if_pos (by decide), gd_t (g_in (by omega) (by omega)), nI_clamp (by omega)]
    exact ⟨_, rfl, ⟨hR.1, hR.2.1, hR.2.2.1, hR.2.2.2.1, hR.2.2.2.2.1, hR.2.2.2.2.2.1, Rn_up hR.2.2.2.2.2.2.1 a b, hR.2.2.2.2.2.2.2⟩, KP.rf⟩
  | k + 11, hv => exact hv.elim
