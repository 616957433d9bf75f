theorem ixh {r h : Nat} : (100 : Int32) * nI r + nI h = nI (100 * r + h) := by rw [show (100 : Int32) = nI 100 from rfl, pk_mul, nI_add]
def KD (w v : Mod) : Prop := m_srt v = m_srt w ∧ m_as v = m_as w ∧ m_bs v = m_bs w ∧ m_dys v = m_dys w ∧ m_ct v = m_ct w
theorem RRM.kd {u v : Mod} {l : List Act} (h : RRM u l) (k : KD u v) : RRM v l := by
  unfold RRM
  rw [k.1, k.2.1, k.2.2.1, k.2.2.2.1, k.2.2.2.2]
  exact h
theorem m_qst {s : St} {h w : Nat} (hh : h ≤ 99) (hw : w ≤ 99) : ∀ (fu m r : Nat) (q : List Nat) (u : Mod), Rhe (m_hd u) (s_hd s) → RH (m_hc u) (m_hit u) q → q.length + 1 ≤ r → r + m = 21 → m < fu → ∃ u2, B_M_question_39 fu (nI h) (nI w) (nI r) u = some (nI (qs9 s h w m r q).length, u2) ∧ RH (m_hc u2) (m_hit u2) (qs9 s h w m r q) ∧ KD u u2
  | 0, m, r, q, u, _, _, _, _, h2 => absurd h2 (by omega)
  | fu + 1, 0, r, q, u, hR, hq, h0, h1, h2 => by
    show ∃ u2, B_M_question_39s _ _ _ _ _ = _ ∧ _
    unfold B_M_question_39s
    rw [if_pos (by rw [show (21 : Int32) = nI 21 from rfl]; exact nI_le (by omega) (by omega)), hq.1]
    exact ⟨u, rfl, hq, rfl, rfl, rfl, rfl, rfl⟩
  | fu + 1, m + 1, r, q, u, hR, hq, h0, h1, h2 => by
    show ∃ u2, B_M_question_39s _ _ _ _ _ = _ ∧ _
    unfold B_M_question_39s B_M_question_93 qs9
    rw [if_neg (by rw [show (21 : Int32) = nI 21 from rfl]; exact nI_ge (by omega) (by omega)), ixh, ixh, gd_t (g_in (by omega) (by omega)), gd_t (g_in (by omega) (by omega)), nI_clamp (by omega), nI_clamp (by omega), hR r h (by omega) hh, hR r w (by omega) hw, nI_1]
    by_cases q1 : s_hd s r h = true
    · rw [b2_t q1, if_neg ne10]
      by_cases q2 : s_hd s r w = true
      · rw [b2_t q2, if_neg ne10, if_neg (fun z => z.2 q2)]
        exact m_qst hh hw fu m (r + 1) q u hR hq (by omega) (by omega) (by omega)
      · rw [b2_f q2, if_pos rfl, if_pos ⟨q1, q2⟩, hq.1, gd_t (g_in (by omega) (by omega)), bs, nI_clamp (by omega)]
        have e : m_hc (m_hit_w u (upd (m_hit u) q.length (nI r))) = nI q.length := hq.1
        rw [e, nI_1]
        obtain ⟨u2, f1, f2, f3⟩ := m_qst hh hw fu m (r + 1) (q ++ [r]) (m_hc_w (m_hit_w u (upd (m_hit u) q.length (nI r))) (nI (q.length + 1))) hR (RH_app hq (by omega) r) (by simp; omega) (by omega) (by omega)
        exact ⟨u2, f1, f2, f3⟩
    · rw [b2_f q1, if_pos rfl, if_neg (fun z => q1 z.1)]
      exact m_qst hh hw fu m (r + 1) q u hR hq (by omega) (by omega) (by omega)
theorem m_question {l : List Act} (hv : allv l) {u : Mod} (hL : RRM u l) (h w : Int32) (ok : okq h w) : ∃ u2, B_M_question_0 h w u = some (nI (qsl l h w).length, u2) ∧ RRM u2 l ∧ RH (m_hc u2) (m_hit u2) (qsl l h w) := by
  obtain ⟨o1, o2⟩ := ok
  unfold B_M_question_0 qsl
  obtain ⟨u2, e1, ⟨a1, e2, a3, a4, a5, a6⟩, e3⟩ := m_all hv hL
  obtain ⟨a, b1, b2', rfl⟩ := nI_ex (a := 1) (b := 99) (x := h) (by omega) (by omega)
  obtain ⟨b, b3, b4, rfl⟩ := nI_ex (a := 0) (b := 99) (x := w) (by omega) (by omega)
  rw [nI_toInt (show a < 2 ^ 31 by omega), nI_toInt (show b < 2 ^ 31 by omega), show ((a : Int)).toNat = a by omega, show ((b : Int)).toNat = b by omega, if_neg (by rw [show (1 : Int32) = nI 1 from rfl]; exact nI_nlt (by omega) (by omega)), if_neg (by rw [show (99 : Int32) = nI 99 from rfl]; exact nI_nlt (by omega) (by omega)), if_neg (nI_pos (by omega)), if_pos (by rw [show (99 : Int32) = nI 99 from rfl]; exact nI_le (by omega) (by omega)), e1, bs]
  obtain ⟨u3, f1, f2, f3⟩ := m_qst (s := fin9 l) (h := a) (w := b) b2' b4 FU 20 1 [] (m_hc_w u2 0) e2.1 ⟨rfl, by simp, fun i hi => absurd hi (by simp)⟩ (by simp) (by omega) (by unfold FU; omega)
  refine ⟨u3, f1, ?_, f2⟩
  exact ((hL.kc e3).kd (v := m_hc_w u2 0) ⟨rfl, rfl, rfl, rfl, rfl⟩).kd f3
theorem m_questionN {u : Mod} (h w : Int32) (ok : ¬ okq h w) : AnsM (B_M_question_0 h w u) (-1) u := by
  unfold B_M_question_0
  have z1 : (1 : Int32).toInt = 1 := by decide
  have z2 : (99 : Int32).toInt = 99 := by decide
  by_cases h1 : h < 1
  · rw [if_pos h1]
    exact ⟨_, rfl, KC.th⟩
  rw [if_neg h1]
  by_cases h2 : 99 < h
  · rw [if_pos h2]
    exact ⟨_, rfl, KC.th⟩
  rw [if_neg h2]
  by_cases h3 : w < 0
  · rw [if_pos h3]
    exact ⟨_, rfl, KC.th⟩
  rw [if_neg h3]
  by_cases h4 : w ≤ 99
  · exfalso
    rw [i_lt, z1] at h1
    rw [i_lt, z2] at h2
    rw [lt0] at h3
    rw [i_le, z2] at h4
    exact ok ⟨by omega, by omega⟩
  · rw [if_neg h4]
    exact ⟨_, rfl, KC.th⟩
/-- a row while its end is moved up to make place at k -/
def Sh {α : Type} (f0 f : Nat → α) (k n : Nat) : Prop := (∀ j, j < k → f j = f0 j) ∧ ∀ j, k < j → j ≤ n → f j = f0 (j - 1)
theorem Sh_i {f0 f : Nat → Int32} {k n : Nat} (h : Sh f0 f (k + 1) n) : Sh f0 (upd f (k + 1) (f k)) k n := by
  refine ⟨fun j hj => ?_, fun j h1 h2 => ?_⟩
  · unfold upd
    rw [if_neg (by omega)]
    exact h.1 j (by omega)
  · unfold upd
    by_cases e : j = k + 1
    · rw [if_pos e, h.1 k (by omega), e]
      rfl
    · rw [if_neg e]
      exact h.2 j (by omega) h2
theorem Sh_l {f0 f : Nat → Int64} {k n : Nat} (h : Sh f0 f (k + 1) n) : Sh f0 (vp_updL f (k + 1) (f k)) k n := by
  refine ⟨fun j hj => ?_, fun j h1 h2 => ?_⟩
  · unfold vp_updL
    rw [if_neg (by omega)]
    exact h.1 j (by omega)
  · unfold vp_updL
    by_cases e : j = k + 1
    · rw [if_pos e, h.1 k (by omega), e]
      rfl
    · rw [if_neg e]
      exact h.2 j (by omega) h2
theorem Sh_gi {f0 f : Nat → Int32} {k n : Nat} (h : Sh f0 f k n) (v : Int32) : Gs f0 (upd f k v) k n v := by
  refine ⟨fun j hj => ?_, by simp [upd], fun j h1 h2 => ?_⟩
  · unfold upd
    rw [if_neg (by omega)]
    exact h.1 j hj
  · unfold upd
    rw [if_neg (by omega)]
    exact h.2 j h1 h2
theorem Sh_gl {f0 f : Nat → Int64} {k n : Nat} (h : Sh f0 f k n) (v : Int64) : Gs f0 (vp_updL f k v) k n v := by
  refine ⟨fun j hj => ?_, by simp [vp_updL], fun j h1 h2 => ?_⟩
  · unfold vp_updL
    rw [if_neg (by omega)]
    exact h.1 j hj
  · unfold vp_updL
    rw [if_neg (by omega)]
    exact h.2 j h1 h2
def E4 (w : Mod) (f1 f2 : Nat → Int32) (f3 f4 : Nat → Int64) : Mod := m_dys_w (m_bs_w (m_as_w (m_srt_w w f1) f2) f3) f4
theorem E4_id (w : Mod) : E4 w (m_srt w) (m_as w) (m_bs w) (m_dys w) = w := by
  simp only [E4, m_srt_w, m_as_w, m_bs_w, m_dys_w, m_srt, m_as, m_bs, m_dys]
theorem E4_st (w : Mod) (f1 f2 : Nat → Int32) (f3 f4 : Nat → Int64) : m_srt (E4 w f1 f2 f3 f4) = f1 ∧ m_as (E4 w f1 f2 f3 f4) = f2 ∧ m_bs (E4 w f1 f2 f3 f4) = f3 ∧ m_dys (E4 w f1 f2 f3 f4) = f4 ∧ m_ct (E4 w f1 f2 f3 f4) = m_ct w ∧ m_hit (E4 w f1 f2 f3 f4) = m_hit w ∧ m_hc (E4 w f1 f2 f3 f4) = m_hc w := by
  simp only [E4, m_srt_w, m_as_w, m_bs_w, m_dys_w, m_srt, m_as, m_bs, m_dys, m_ct, m_hit, m_hc, and_self]
theorem E4_put (w : Mod) (f1 f2 : Nat → Int32) (f3 f4 : Nat → Int64) (g1 g2 : Nat → Int32) (g3 g4 : Nat → Int64) : m_dys_w (m_bs_w (m_as_w (m_srt_w (E4 w f1 f2 f3 f4) g1) g2) g3) g4 = E4 w g1 g2 g3 g4 := by
  simp only [E4, m_srt_w, m_as_w, m_bs_w, m_dys_w]
theorem a_as (u : Mod) (v : Nat → Int32) : m_as (m_srt_w u v) = m_as u := rfl
theorem a_bs (u : Mod) (v : Nat → Int32) (v2 : Nat → Int32) : m_bs (m_as_w (m_srt_w u v) v2) = m_bs u := by simp only [m_as_w, m_srt_w, m_bs]
theorem a_dys (u : Mod) (v : Nat → Int32) (v2 : Nat → Int32) (v3 : Nat → Int64) : m_dys (m_bs_w (m_as_w (m_srt_w u v) v2) v3) = m_dys u := by simp only [m_as_w, m_srt_w, m_bs_w, m_dys]
theorem m_ev {l : List Act} (hv : allv l) {w0 : Mod} (hL : RRM w0 l) (hlt : l.length < 200) {x : Act} (hx : vact x) {s : Int32} {a b d : Int64} (e1 : s = nI x.1) (e2 : a.toInt32 = nI x.2.1) (e3 : ¬ s = 4 → b = lN x.2.2.1) (e4 : d = lN x.2.2.2) : ∀ (fu k : Nat) (f1 f2 : Nat → Int32) (f3 f4 : Nat → Int64), k ≤ l.length → k < fu → Sh (m_srt w0) f1 k l.length → Sh (m_as w0) f2 k l.length → Sh (m_bs w0) f3 k l.length → Sh (m_dys w0) f4 k l.length → plcf l x.2.2.2 l.length = plcf l x.2.2.2 k → ∃ w2, B_M_event_45 fu s a b d (nI k) (E4 w0 f1 f2 f3 f4) = some (nI (l.length + 1), w2) ∧ RRM w2 (newl l x) ∧ m_hc w2 = m_hc w0 ∧ m_hit w2 = m_hit w0 := by
  have hdx := hx.1
  have endd : ∀ (k : Nat) (f1 f2 : Nat → Int32) (f3 f4 : Nat → Int64), k ≤ l.length → Sh (m_srt w0) f1 k l.length → Sh (m_as w0) f2 k l.length → Sh (m_bs w0) f3 k l.length → Sh (m_dys w0) f4 k l.length → plcf l x.2.2.2 l.length = k → ∃ w2, B_M_event_135 s a b d (nI k) (E4 w0 f1 f2 f3 f4) = some (nI (l.length + 1), w2) ∧ RRM w2 (newl l x) ∧ m_hc w2 = m_hc w0 ∧ m_hit w2 = m_hit w0 := by
    intro k f1 f2 f3 f4 hk s1 s2 s3 s4 hpl
    unfold B_M_event_135 newl
    obtain ⟨q1, q2, q3, q4, q5, q6, q7⟩ := E4_st w0 f1 f2 f3 f4
    have gg := g_in (show k < 200 by omega) (by omega)
    rw [gd_t gg, gd_t gg, bs, gd_t gg, gd_t gg, bs, nI_clamp (by omega), a_as, a_bs, a_dys, q1, q2, q3, q4, E4_put]
    obtain ⟨p1, p2, p3, p4, p5, p6, p7⟩ := E4_st w0 (upd f1 k s) (upd f2 k a.toInt32) (vp_updL f3 k b) (vp_updL f4 k d)
    generalize E4 w0 (upd f1 k s) (upd f2 k a.toInt32) (vp_updL f3 k b) (vp_updL f4 k d) = w3 at p1 p2 p3 p4 p5 p6 p7 ⊢
    have pc : m_ct (m_ct_w w3 (m_ct w3 + 1)) = nI (l.length + 1) := by
      show m_ct w3 + 1 = _
      rw [p5, hL.1, nI_1]
    rw [pc, hpl]
    refine ⟨_, rfl, ⟨?_, by rw [insl_len hk]; omega, ?_⟩, p7, p6⟩
    · rw [insl_len hk]
      exact pc
    · intro j z hz
      show m_srt w3 j = _ ∧ m_as w3 j = _ ∧ (_ → m_bs w3 j = _) ∧ m_dys w3 j = _
      rw [p1, p2, p3, p4]
      refine ⟨?_, ?_, ?_, ?_⟩
      · exact Gs_at (F := fun z v => v = nI z.1) hk (Sh_gi s1 s) (fun k z h => (hL.2.2 k z h).1) e1 j z hz
      · exact Gs_at (F := fun z v => v = nI z.2.1) hk (Sh_gi s2 a.toInt32) (fun k z h => (hL.2.2 k z h).2.1) e2 j z hz
      · refine Gs_at (F := fun z v => z.1 ≠ 4 → v = lN z.2.2.1) hk (Sh_gl s3 b) (fun k z h => (hL.2.2 k z h).2.2.1) (fun h4 => e3 (fun z => h4 ?_)) j z hz
        rw [z] at e1
        have h10 := vact_le hx
        exact (nI_eq (by omega) (by omega)).mp (e1.symm.trans (show (4 : Int32) = nI 4 from rfl))
      · exact Gs_at (F := fun z v => v = lN z.2.2.2) hk (Sh_gl s4 d) (fun k z h => (hL.2.2 k z h).2.2.2) e4 j z hz
  intro fu
  induction fu with
  | zero =>
    intro k f1 f2 f3 f4 _ h2
    exact absurd h2 (by omega)
  | succ fu ih =>
    intro k f1 f2 f3 f4 hk h2 s1 s2 s3 s4 hpl
    show ∃ w2, B_M_event_45s _ _ _ _ _ _ _ = _ ∧ _
    unfold B_M_event_45s
    obtain ⟨q1, q2, q3, q4, q5, q6, q7⟩ := E4_st w0 f1 f2 f3 f4
    cases k with
    | zero =>
      rw [if_pos (by decide)]
      exact endd 0 f1 f2 f3 f4 hk s1 s2 s3 s4 hpl
    | succ k =>
      obtain ⟨z, hz⟩ := get_ex (show k < l.length by omega)
      have hdz := (hv k z hz).1
      have gg := g_in (show k < 200 by omega) (by omega)
      have gg2 := g_in (show k + 1 < 200 by omega) (by omega)
      have hpf : plcf l x.2.2.2 (k + 1) = if x.2.2.2 < z.2.2.2 then plcf l x.2.2.2 k else k + 1 := by
        rw [← dy_s hz]
        rfl
      rw [if_neg (nI_nle (by omega) (by omega)), nI_pred, gd_t gg, nI_clamp (show k < 2 ^ 31 by omega), q4, s4.1 k (by omega), (hL.2.2 k z hz).2.2.2, e4]
      by_cases q : x.2.2.2 < z.2.2.2
      · rw [if_neg (by rw [lc_le, pk_lT (by omega), pk_lT (by omega)]; omega), gd_t gg, gd_t gg2, gd_t gg, gd_t gg2, bs, gd_t gg, gd_t gg2, gd_t gg, gd_t gg2, bs, pk_m1, nI_clamp (show k + 1 < 2 ^ 31 by omega), a_as, a_bs, a_dys, q1, q2, q3, q4, E4_put, ← e4]
        rw [if_pos q] at hpf
        exact ih k _ _ _ _ (by omega) (by omega) (Sh_i s1) (Sh_i s2) (Sh_l s3) (Sh_l s4) (hpl.trans hpf)
      · rw [if_pos (by rw [lc_le, pk_lT (by omega), pk_lT (by omega)]; omega), ← e4]
        rw [if_neg q] at hpf
        exact endd (k + 1) f1 f2 f3 f4 hk s1 s2 s3 s4 (hpl.trans hpf)
theorem Sh_0 {α : Type} (f : Nat → α) (n : Nat) : Sh f f n n := ⟨fun _ _ => rfl, fun j h1 h2 => by omega⟩
theorem m_event {l : List Act} (hv : allv l) {u : Mod} (hL : RRM u l) {s : Int32} {a b d : Int64} (ok : okE l s a b d) : ∃ u2, B_M_event_0 s a b d u = some (nI (l.length + 1), u2) ∧ RRM u2 (newl l (mkA s a b d)) ∧ m_hc u2 = m_hc u ∧ m_hit u2 = m_hit u := by
  obtain ⟨o1, o2, o3⟩ := ok
  obtain ⟨m1, m2, m3, m4, m5⟩ := mk_v o2 o1
  have z0 : (0 : Int64).toInt = 0 := by decide
  have z1 : (1000000 : Int64).toInt = 1000000 := by decide
  have ec : m_ct (m_th_w u 0) = nI l.length := hL.1
  unfold B_M_event_0
  rw [p_can, bs, b2_t o2, if_neg ne10, p_in, bs, z0, z1, if_pos o1, if_neg ne10, ec, if_neg (by rw [show (200 : Int32) = nI 200 from rfl, nI_eq (by omega) (by omega)]; omega)]
  have hx := m_ev hv (hL.kc KC.th) o3 m1 m2 m3 m4 m5 FU l.length (m_srt (m_th_w u 0)) (m_as (m_th_w u 0)) (m_bs (m_th_w u 0)) (m_dys (m_th_w u 0)) (Nat.le_refl _) (by unfold FU; omega) (Sh_0 _ _) (Sh_0 _ _) (Sh_0 _ _) (Sh_0 _ _) rfl
  rw [E4_id] at hx
  exact hx
theorem m_eventN {l : List Act} {u : Mod} (hL : RRM u l) {s : Int32} {a b d : Int64} (ok : ¬ okE l s a b d) : AnsM (B_M_event_0 s a b d u) 0 u := by
  have z0 : (0 : Int64).toInt = 0 := by decide
  have z1 : (1000000 : Int64).toInt = 1000000 := by decide
  have ec : m_ct (m_th_w u 0) = nI l.length := hL.1
  have h200 := hL.2.1
  unfold B_M_event_0
  rw [p_can, bs]
  by_cases o2 : vok s a b = true
  · rw [b2_t o2, if_neg ne10, p_in, bs, z0, z1]
    by_cases o1 : 0 ≤ d.toInt ∧ d.toInt ≤ 1000000
    · have o3 : ¬ l.length < 200 := fun z => ok ⟨o1, o2, z⟩
      rw [if_pos o1, if_neg ne10, ec, if_pos (by rw [show l.length = 200 by omega]; rfl)]
      exact ⟨_, rfl, KC.th⟩
    · rw [if_neg o1, if_pos rfl]
      exact ⟨_, rfl, KC.th⟩
  · rw [b2_f o2, if_pos rfl]
    exact ⟨_, rfl, KC.th⟩
