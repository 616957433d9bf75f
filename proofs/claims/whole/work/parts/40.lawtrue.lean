/-! THE LAW: class and reference, call by call -/
def R9 (l : List Act) (q : List Nat) (u : Lib) (w : Mod) : Prop := allv l ∧ srtd l ∧ RR u l ∧ RRM w l ∧ RH (l_hc u) (l_hit u) q ∧ RH (m_hc w) (m_hit w) q
def Rel (u : Lib) (w : Mod) : Prop := ∃ l q, R9 l q u w
theorem R9.kp {l : List Act} {q : List Nat} {u u2 : Lib} {w w2 : Mod} (h : R9 l q u w) (a : KP u u2) (b : KC w w2) : R9 l q u2 w2 := by
  obtain ⟨h1, h2, h3, h4, h5, h6⟩ := h
  refine ⟨h1, h2, h3.kp a, h4.kc b, ?_, ?_⟩
  · rw [a.2.2.2.2.2.1, a.2.2.2.2.2.2]
    exact h5
  · rw [b.2.2.2.2.2.2, b.2.2.2.2.2.1]
    exact h6
theorem bo {l : List Act} {q : List Nat} {u : Lib} {w : Mod} (h : R9 l q u w) {mL : Option (Int32 × Lib)} {mM : Option (Int32 × Mod)} {r : Int32} (a : Ans mL r u) (b : AnsM mM r w) : ∃ r u2 w2, mL = some (r, u2) ∧ mM = some (r, w2) ∧ Rel u2 w2 := by
  obtain ⟨u2, a1, a2⟩ := a
  obtain ⟨w2, b1, b3⟩ := b
  exact ⟨r, u2, w2, a1, b1, l, q, h.kp a2 b3⟩
theorem b_event {u : Lib} {w : Mod} (h : Rel u w) (s : Int32) (a b d : Int64) : ∃ r u2 w2, B_L_event_0 s a b d u = some (r, u2) ∧ B_M_event_0 s a b d w = some (r, w2) ∧ Rel u2 w2 := by
  obtain ⟨l, q, h1, h2, h3, h4, h5, h6⟩ := h
  by_cases ok : okE l s a b d
  · obtain ⟨u2, a1, a2, a3, a4⟩ := p_event h1 h3 ok
    obtain ⟨w2, b1, b3, b4, b5⟩ := m_event h1 h4 ok
    have hx := (mk_v ok.2.1 ok.1).1
    refine ⟨_, u2, w2, a1, b1, newl l (mkA s a b d), q, ins_allv h1 (plcf_le _ _ _) hx, ins_srtd h2, a2, b3, ?_, ?_⟩
    · rw [a3, a4]
      exact h5
    · rw [b4, b5]
      exact h6
  · exact bo ⟨h1, h2, h3, h4, h5, h6⟩ ⟨u, p_eventN h3 ok, KP.rf⟩ (m_eventN h4 ok)
theorem b_question {u : Lib} {w : Mod} (h : Rel u w) (a b : Int32) : ∃ r u2 w2, B_L_question_0 a b u = some (r, u2) ∧ B_M_question_0 a b w = some (r, w2) ∧ Rel u2 w2 := by
  obtain ⟨l, q, h1, h2, h3, h4, h5, h6⟩ := h
  by_cases ok : okq a b
  · obtain ⟨u2, a1, a2, a3⟩ := p_question h1 h2 h3 a b ok
    obtain ⟨w2, b1, b3, b4⟩ := m_question h1 h4 a b ok
    exact ⟨_, u2, w2, a1, b1, l, _, h1, h2, a2, b3, a3, b4⟩
  · exact bo ⟨h1, h2, h3, h4, h5, h6⟩ ⟨u, p_questionN a b ok, KP.rf⟩ (m_questionN a b ok)
theorem b_least {u : Lib} {w : Mod} (h : Rel u w) : ∃ r u2 w2, B_L_least_0 u = some (r, u2) ∧ B_M_least_0 w = some (r, w2) ∧ Rel u2 w2 := by
  obtain ⟨l, q, h9⟩ := h
  obtain ⟨h1, h2, h3, h4, h5, h6⟩ := id h9
  by_cases ok : l.length ≤ 30
  · obtain ⟨r, u2, a1, a2, a3⟩ := p_least h1 h3 ok
    obtain ⟨r2, w2, b1, b3, b4⟩ := m_least h1 h4 ok
    have e := LA_u a3 b4
    subst e
    exact ⟨r, u2, w2, a1, b1, l, q, h9.kp a2 b3⟩
  · exact bo h9 ⟨u, p_leastN h3 ok, KP.rf⟩ (m_leastN h4 ok)
theorem rel0 : Rel lib0 mod0 := by
  refine ⟨[], [], fun k x h => by simp at h, fun i j x z _ h => by simp at h, ⟨rfl, by simp, fun k x h => by simp at h⟩, ⟨rfl, by simp, fun k x h => by simp at h⟩, ⟨rfl, by simp, fun i h => by simp at h⟩, ⟨rfl, by simp, fun i h => by simp at h⟩⟩
set_option maxHeartbeats 4000000 in
set_option maxRecDepth 100000 in
theorem law_step (L : Nat) (xs : Nat → Int32) (hL : L ≤ 4096) : ∀ (fu n : Nat) (u : Lib) (w : Mod), Rel u w → n ≤ L + 8 → L + 8 - n < 8 * fu → B_W_law_18 L xs fu (nI n) (u, w) = some 1
  | 0, n, _, _, _, _, h2 => absurd h2 (by omega)
  | fu + 1, n, u, w, hR, h1, h2 => by
    show B_W_law_18s _ _ _ _ _ = _
    unfold B_W_law_18s B_W_law_661
    have ew : (nI L - (8 : Int32)).toInt = (L : Int) - 8 := by
      rw [show (8 : Int32) = nI 8 from rfl, pk_sub_toInt (by omega) (by omega)]
      rfl
    by_cases hn : nI L - (8 : Int32) < nI n
    · rw [if_pos hn]
    · rw [if_neg hn]
      rw [i_lt, ew, nI_toInt (by omega)] at hn
      have ih : ∀ u2 w2, Rel u2 w2 → B_W_law_18 L xs fu (nI n + (8 : Int32)) (u2, w2) = some 1 := by
        intro u2 w2 h
        rw [show nI n + (8 : Int32) = nI (n + 8) from by rw [show (8 : Int32) = nI 8 from rfl, nI_add]]
        exact law_step L xs hL fu (n + 8) u2 w2 h (by omega) (by omega)
      have g0 : 0 ≤ (nI n).toInt ∧ (nI n).toInt < L := by
        rw [nI_toInt (by omega)]
        omega
      have gj : ∀ j, j ≤ 7 → 0 ≤ (nI n + nI j).toInt ∧ (nI n + nI j).toInt < L := by
        intro j hj
        rw [nI_add, nI_toInt (by omega)]
        omega
      have g1 : 0 ≤ (nI n + (1 : Int32)).toInt ∧ (nI n + (1 : Int32)).toInt < L := gj 1 (by omega)
      have g2 : 0 ≤ (nI n + (2 : Int32)).toInt ∧ (nI n + (2 : Int32)).toInt < L := gj 2 (by omega)
      have g3 : 0 ≤ (nI n + (3 : Int32)).toInt ∧ (nI n + (3 : Int32)).toInt < L := gj 3 (by omega)
      have g4 : 0 ≤ (nI n + (4 : Int32)).toInt ∧ (nI n + (4 : Int32)).toInt < L := gj 4 (by omega)
      have g5 : 0 ≤ (nI n + (5 : Int32)).toInt ∧ (nI n + (5 : Int32)).toInt < L := gj 5 (by omega)
      have g6 : 0 ≤ (nI n + (6 : Int32)).toInt ∧ (nI n + (6 : Int32)).toInt < L := gj 6 (by omega)
      have g7 : 0 ≤ (nI n + (7 : Int32)).toInt ∧ (nI n + (7 : Int32)).toInt < L := gj 7 (by omega)
      simp only [gd_t g0, gd_t g1, gd_t g2, gd_t g3, gd_t g4, gd_t g5, gd_t g6, gd_t g7]
      clear g0 gj g1 g2 g3 g4 g5 g6 g7
      generalize xs (nI n).toNatClampNeg &&& (15 : Int32) = z
      obtain ⟨l, q, h9⟩ := id hR
      obtain ⟨k1, k2, k3, k4, k5, k6⟩ := id h9
      by_cases c0 : z = 0
      · rw [if_pos c0]
        obtain ⟨r, u2, w2, f1, f2, f3⟩ := b_event hR _ _ _ _
        rw [f1, bs, f2, bs, if_pos rfl]
        exact ih u2 w2 f3
      rw [if_neg c0]
      by_cases c1 : z = 1
      · rw [if_pos c1]
        obtain ⟨r, u2, w2, f1, f2, f3⟩ := bo h9 (p_counts k1 k3 _) (m_counts k1 k4 _)
        rw [f1, bs, f2, bs, if_pos rfl]
        exact ih u2 w2 f3
      rw [if_neg c1]
      by_cases c2 : z = 2
      · rw [if_pos c2]
        obtain ⟨w2, f2, f3⟩ := m_events k4
        rw [p_events k3, bs, f2, bs, if_pos rfl]
        exact ih u w2 ⟨l, q, h9.kp KP.rf f3⟩
      rw [if_neg c2]
      by_cases c3 : z = 3
      · rw [if_pos c3]
        obtain ⟨r, u2, w2, f1, f2, f3⟩ := bo h9 (p_refused k1 k3) (m_refused k1 k4)
        rw [f1, bs, f2, bs, if_pos rfl]
        exact ih u2 w2 f3
      rw [if_neg c3]
      by_cases c4 : z = 4
      · rw [if_pos c4]
        obtain ⟨r, u2, w2, f1, f2, f3⟩ := bo h9 (p_state k1 k2 k3 _ _ _) (m_state k1 k4 _ _ _)
        rw [f1, bs, f2, bs, if_pos rfl]
        exact ih u2 w2 f3
      rw [if_neg c4]
      by_cases c5 : z = 5
      · rw [if_pos c5]
        obtain ⟨r, u2, w2, f1, f2, f3⟩ := bo h9 (p_heading k1 k2 k3 _ _) (m_heading k1 k4 _ _)
        rw [f1, bs, f2, bs, if_pos rfl]
        exact ih u2 w2 f3
      rw [if_neg c5]
      by_cases c6 : z = 6
      · rw [if_pos c6]
        obtain ⟨r, u2, w2, f1, f2, f3⟩ := b_question hR _ _
        rw [f1, bs, f2, bs, if_pos rfl]
        exact ih u2 w2 f3
      rw [if_neg c6]
      by_cases c7 : z = 7
      · rw [if_pos c7]
        obtain ⟨w2, f2, f3⟩ := m_hit9 k6 _
        rw [p_hit k5, bs, f2, bs, if_pos rfl]
        exact ih u w2 ⟨l, q, h9.kp KP.rf f3⟩
      rw [if_neg c7]
      by_cases c8 : z = 8
      · rw [if_pos c8]
        obtain ⟨u2, f1, e1⟩ := p_due k1 k2 k3 _
        obtain ⟨w2, f2, e2⟩ := m_due9 k1 k4 _
        rw [f1, bs, f2, bs, if_pos ((lg_cmp_eq _ _).mpr rfl)]
        exact ih u2 w2 ⟨l, q, h9.kp e1 e2⟩
      rw [if_neg c8]
      by_cases c9 : z = 9
      · rw [if_pos c9]
        obtain ⟨r, u2, w2, f1, f2, f3⟩ := bo h9 (p_queue k1 k2 k3 _ _) (m_queue k1 k4 _ _)
        rw [f1, bs, f2, bs, if_pos rfl]
        exact ih u2 w2 f3
      rw [if_neg c9]
      by_cases c10 : z = 10
      · rw [if_pos c10]
        obtain ⟨r, u2, w2, f1, f2, f3⟩ := bo h9 (p_poll k1 k2 k3 _) (m_poll k1 k4 _)
        rw [f1, bs, f2, bs, if_pos rfl]
        exact ih u2 w2 f3
      rw [if_neg c10]
      by_cases c11 : z = 11
      · rw [if_pos c11]
        obtain ⟨r, u2, w2, f1, f2, f3⟩ := bo h9 (p_kept k1 k3 _ _ _ _) (m_kept k1 k4 _ _ _ _)
        rw [f1, bs, f2, bs, if_pos rfl]
        exact ih u2 w2 f3
      rw [if_neg c11]
      by_cases c12 : z = 12
      · rw [if_pos c12]
        obtain ⟨r, u2, w2, f1, f2, f3⟩ := bo h9 (p_most k1 k3 _) (m_most k1 k4 _)
        rw [f1, bs, f2, bs, if_pos rfl]
        exact ih u2 w2 f3
      rw [if_neg c12]
      by_cases c13 : z = 13
      · rw [if_pos c13]
        obtain ⟨r, u2, w2, f1, f2, f3⟩ := b_least hR
        rw [f1, bs, f2, bs, if_pos rfl]
        exact ih u2 w2 f3
      rw [if_neg c13]
      exact ih u w hR
theorem law_true (L : Nat) (xs : Nat → Int32) (hL : L ≤ 4096) : B_W_law_18 L xs FU (0 : Int32) (lib0, mod0) = some 1 :=
  law_step L xs hL FU 0 lib0 mod0 rel0 (by omega) (by unfold FU; omega)
