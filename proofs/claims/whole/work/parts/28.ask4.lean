/-! poll, question, hit, event of the class -/
def sw9 (s : St) (f v : Nat) : Nat := cntp (fun b => decide (s_sm s f b = v + 1)) 5
theorem sw9_le (s : St) (f v : Nat) : sw9 s f v ≤ 5 := cntp_le _ 5
theorem sm_eq {k v : Nat} (hk : k ≤ 7) (hv : v ≤ 7) : nI k - 1 = nI v ↔ k = v + 1 := by
  by_cases h : k = 0
  · subst h
    constructor
    · intro e
      exact absurd (e.symm.trans (show nI 0 - 1 = (-1 : Int32) by decide)) (n_m1 (by omega))
    · intro e
      omega
  · rw [show (1 : Int32) = nI 1 from rfl, pk_sub (by omega), nI_eq (by omega) (by omega)]
    omega
theorem p_stw {u : Lib} {s : St} (hR : RS u s) (hW : SW s) {f v : Nat} (hf : f ≤ 20) (hv : v ≤ 7) : ∀ (fu k : Nat), k ≤ 5 → 5 - k < fu → B_S_storesWith_5 fu (nI f) (nI v) (nI (cntp (fun b => decide (s_sm s f b = v + 1)) k)) (nI (k + 1)) u = some (nI (sw9 s f v))
  | 0, k, _, h2 => absurd h2 (by omega)
  | fu + 1, k, h1, h2 => by
    show B_S_storesWith_5s _ _ _ _ _ _ = _
    unfold B_S_storesWith_5s B_S_storesWith_29 B_S_sumIndex_0
    by_cases hk : 5 ≤ k
    · rw [if_pos (by rw [show (5 : Int32) = nI 5 from rfl]; exact nI_lt (by omega) (by omega)), show k = 5 by omega]
      rfl
    · have ih := p_stw hR hW hf hv fu (k + 1) (by omega) (by omega)
      have e1 : nI (k + 1) + (1 : Int32) = nI (k + 1 + 1) := nI_1 _
      have hz := hW.2.2.2.2.2.1 f (k + 1)
      rw [if_neg (by rw [show (5 : Int32) = nI 5 from rfl]; exact nI_nlt (by omega) (by omega)), bs, show nI f * (6 : Int32) + nI (k + 1) = nI (f * 6 + (k + 1)) from by rw [show (6 : Int32) = nI 6 from rfl, pk_mul, nI_add], gd_t (g_in (by omega) (by omega)), nI_clamp (by omega), hR.2.2.2.2.2.2.2 f (k + 1) hf (by omega), e1, nI_1]
      by_cases q : s_sm s f (k + 1) = v + 1
      · rw [if_pos ((sm_eq hz hv).mpr q)]
        rw [show cntp (fun b => decide (s_sm s f b = v + 1)) (k + 1) = cntp (fun b => decide (s_sm s f b = v + 1)) k + 1 by simp [cntp, q]] at ih
        exact ih
      · rw [if_neg (fun e => q ((sm_eq hz hv).mp e))]
        rw [show cntp (fun b => decide (s_sm s f b = v + 1)) (k + 1) = cntp (fun b => decide (s_sm s f b = v + 1)) k by simp [cntp, q]] at ih
        exact ih
theorem p_stores {u : Lib} {s : St} (hR : RS u s) (hW : SW s) {f v : Nat} (hf : f ≤ 20) (hv : v ≤ 7) : B_S_storesWith_0 (nI f) (nI v) u = some (nI (sw9 s f v)) :=
  p_stw hR hW hf hv FU 0 (by omega) (by unfold FU; omega)
def tot9 (s : St) (f : Nat) : Nat → Nat
  | 0 => 0
  | v + 1 => tot9 s f v + sw9 s f v
theorem tot9_le (s : St) (f : Nat) : ∀ v, tot9 s f v ≤ 5 * v
  | 0 => Nat.le_refl 0
  | v + 1 => by
    have ih := tot9_le s f v
    have := sw9_le s f v
    unfold tot9
    omega
def mj9 (s : St) (f t : Nat) : Nat → Nat → Int32
  | 0, _ => 7
  | m + 1, v => if 2 * sw9 s f v ≤ t then mj9 s f t m (v + 1) else nI v
theorem p_mj {u : Lib} {s : St} (hR : RS u s) (hW : SW s) {f t : Nat} (hf : f ≤ 20) (ht : t ≤ 100) : ∀ (fu m v : Nat), v + m = 7 → m < fu → B_S_commonSumOf_33 fu (nI f) (nI t) (nI v) u = some (mj9 s f t m v)
  | 0, m, v, _, h2 => absurd h2 (by omega)
  | fu + 1, 0, v, h1, h2 => by
    show B_S_commonSumOf_33s _ _ _ _ _ = _
    unfold B_S_commonSumOf_33s
    rw [if_pos (by rw [show (7 : Int32) = nI 7 from rfl]; exact nI_le (by omega) (by omega))]
    rfl
  | fu + 1, m + 1, v, h1, h2 => by
    show B_S_commonSumOf_33s _ _ _ _ _ = _
    unfold B_S_commonSumOf_33s mj9
    have := sw9_le s f v
    rw [if_neg (by rw [show (7 : Int32) = nI 7 from rfl]; exact nI_ge (by omega) (by omega)), p_stores hR hW hf (by omega), bs, show (2 : Int32) * nI (sw9 s f v) = nI (2 * sw9 s f v) from by rw [show (2 : Int32) = nI 2 from rfl, pk_mul], nI_1]
    by_cases q : 2 * sw9 s f v ≤ t
    · rw [if_pos (nI_le q (by omega)), if_pos q]
      exact p_mj hR hW hf ht fu m (v + 1) (by omega) (by omega)
    · rw [if_neg (nI_ge (by omega) (by omega)), if_neg q]
theorem p_tot {u : Lib} {s : St} (hR : RS u s) (hW : SW s) {f : Nat} (hf : f ≤ 20) : ∀ (fu v : Nat), v ≤ 7 → 7 - v < fu → B_S_commonSumOf_4 fu (nI f) (nI (tot9 s f v)) (nI v) u = some (if tot9 s f 7 = 0 then -1 else mj9 s f (tot9 s f 7) 7 0)
  | 0, v, _, h2 => absurd h2 (by omega)
  | fu + 1, v, h1, h2 => by
    show B_S_commonSumOf_4s _ _ _ _ _ = _
    unfold B_S_commonSumOf_4s
    have t7 := tot9_le s f 7
    have tv := tot9_le s f v
    have := sw9_le s f v
    by_cases hk : 7 ≤ v
    · rw [if_pos (by rw [show (7 : Int32) = nI 7 from rfl]; exact nI_le hk (by omega)), show v = 7 by omega]
      by_cases q : tot9 s f 7 = 0
      · rw [if_pos ((n0 (by omega)).mpr q), if_pos q]
      · rw [if_neg (fun e => q ((n0 (by omega)).mp e)), if_neg q]
        exact p_mj hR hW hf (by omega) FU 7 0 (by omega) (by unfold FU; omega)
    · rw [if_neg (by rw [show (7 : Int32) = nI 7 from rfl]; exact nI_ge (by omega) (by omega)), p_stores hR hW hf (by omega), bs, nI_add, nI_1]
      exact p_tot hR hW hf fu (v + 1) (by omega) (by omega)
def A_poll (l : List Act) (f : Int32) : Int32 := if 1 ≤ f.toInt ∧ f.toInt ≤ 20 then (if tot9 (fin9 l) f.toInt.toNat 7 = 0 then -1 else mj9 (fin9 l) f.toInt.toNat (tot9 (fin9 l) f.toInt.toNat 7) 7 0) else -1
theorem p_poll {l : List Act} (hv : allv l) (hs : srtd l) {u : Lib} (hL : RR u l) (f : Int32) : Ans (B_L_poll_0 f u) (A_poll l f) u := by
  unfold B_L_poll_0 A_poll
  rw [p_num, bs]
  by_cases hn : 1 ≤ f.toInt ∧ f.toInt ≤ 20
  · rw [if_pos hn, if_neg ne10, if_pos hn]
    obtain ⟨k, k1, k2, rfl⟩ := n_ex hn
    rw [nI_toInt (by omega), show ((k : Int)).toNat = k by omega]
    obtain ⟨u2, e1, e2, e3⟩ := p_all hv hs hL
    have hW : SW (fin9 l) := SW_g hv pA l.length
    have hx : B_S_commonSumOf_0 (nI k) u2 = _ := p_tot e2 hW k2 FU 0 (by omega) (by unfold FU; omega)
    rw [e1, bs, hx, bs]
    exact ⟨u2, rfl, e3⟩
  · rw [if_neg hn, if_pos rfl, if_neg hn]
    exact ⟨u, rfl, KP.rf⟩
/-- what the hits hold -/
def RH (hc : Int32) (hit : Nat → Int32) (q : List Nat) : Prop := hc = nI q.length ∧ q.length ≤ 20 ∧ ∀ i, i < q.length → hit i = nI (q.getD i 0)
def A_hit (q : List Nat) (i : Int32) : Int32 := if 0 ≤ i.toInt ∧ i.toInt < q.length then nI (q.getD i.toInt.toNat 0) else -1
theorem p_hit {u : Lib} {q : List Nat} (h : RH (l_hc u) (l_hit u) q) (i : Int32) : B_L_hit_0 i u = some (A_hit q i) := by
  unfold B_L_hit_0 A_hit
  obtain ⟨h1, h2, h3⟩ := h
  have z : (0 : Int32).toInt = 0 := by decide
  by_cases h0 : i < 0
  · rw [if_pos h0]
    rw [i_lt, z] at h0
    rw [if_neg (by omega)]
  · rw [if_neg h0, h1]
    rw [i_lt, z] at h0
    by_cases h4 : nI q.length ≤ i
    · rw [if_pos h4]
      rw [i_le, nI_toInt (by omega)] at h4
      rw [if_neg (by omega)]
    · rw [if_neg h4]
      rw [i_le, nI_toInt (by omega)] at h4
      rw [gd_t (by omega), if_pos (by omega), show i.toNatClampNeg = i.toInt.toNat from rfl, h3 _ (by omega)]
/-- the records from r on, m more to see, that have h and not w -/
def qs9 (s : St) (h w : Nat) : Nat → Nat → List Nat → List Nat
  | 0, _, q => q
  | m + 1, r, q => if s_hd s r h = true ∧ ¬ s_hd s r w = true then qs9 s h w m (r + 1) (q ++ [r]) else qs9 s h w m (r + 1) q
theorem RH_app {hc : Int32} {hit : Nat → Int32} {q : List Nat} (h : RH hc hit q) (hl : q.length < 20) (r : Nat) : RH (nI (q.length + 1)) (upd hit q.length (nI r)) (q ++ [r]) := by
  obtain ⟨h1, h2, h3⟩ := h
  refine ⟨by simp, by simp; omega, fun i hi => ?_⟩
  simp only [List.length_append, List.length_cons, List.length_nil] at hi
  rw [getD_app (by omega)]
  unfold upd
  by_cases e : i = q.length
  · rw [if_pos e, if_pos e]
  · rw [if_neg e, if_neg e]
    exact h3 i (by omega)
def KR (u v : Lib) : Prop := l_sz v = l_sz u ∧ l_srt v = l_srt u ∧ l_fst v = l_fst u ∧ l_snd v = l_snd u ∧ l_dys v = l_dys u
theorem p_qst {s : St} {h w : Nat} (hh : h ≤ 99) (hw : w ≤ 99) : ∀ (fu m r : Nat) (q : List Nat) (u : Lib), Rhd (l_hb u) (s_hd s) → RH (l_hc u) (l_hit u) q → q.length + 1 ≤ r → r + m = 21 → m < fu → ∃ u2, B_L_question_37 fu (nI h) (nI w) (nI r) u = some (nI (qs9 s h w m r q).length, u2) ∧ RH (l_hc u2) (l_hit u2) (qs9 s h w m r q) ∧ KR u u2
  | 0, m, r, q, u, _, _, _, _, h2 => absurd h2 (by omega)
  | fu + 1, 0, r, q, u, hR, hq, h0, h1, h2 => by
    show ∃ u2, B_L_question_37s _ _ _ _ _ = _ ∧ _
    unfold B_L_question_37s
    rw [if_pos (by rw [show (20 : Int32) = nI 20 from rfl]; exact nI_lt (by omega) (by omega)), hq.1]
    exact ⟨u, rfl, hq, rfl, rfl, rfl, rfl, rfl⟩
  | fu + 1, m + 1, r, q, u, hR, hq, h0, h1, h2 => by
    show ∃ u2, B_L_question_37s _ _ _ _ _ = _ ∧ _
    unfold B_L_question_37s B_L_question_87 qs9
    rw [if_neg (by rw [show (20 : Int32) = nI 20 from rfl]; exact nI_nlt (by omega) (by omega)), p_has hR (by omega) hh, bs, nI_1, p_has hR (by omega) hw, bs]
    by_cases q1 : s_hd s r h = true
    · rw [b2_t q1, if_neg ne10]
      by_cases q2 : s_hd s r w = true
      · rw [b2_t q2, if_neg ne10, if_neg (fun z => z.2 q2)]
        exact p_qst hh hw fu m (r + 1) q u hR hq (by omega) (by omega) (by omega)
      · rw [b2_f q2, if_pos rfl, if_pos ⟨q1, q2⟩, hq.1, gd_t (g_in (by omega) (by omega)), bs, nI_clamp (by omega)]
        have e : l_hc (l_hit_w u (upd (l_hit u) q.length (nI r))) = nI q.length := hq.1
        rw [e, nI_1]
        obtain ⟨u2, f1, f2, f3⟩ := p_qst hh hw fu m (r + 1) (q ++ [r]) (l_hc_w (l_hit_w u (upd (l_hit u) q.length (nI r))) (nI (q.length + 1))) hR (RH_app hq (by omega) r) (by simp; omega) (by omega) (by omega)
        exact ⟨u2, f1, f2, f3⟩
    · rw [b2_f q1, if_pos rfl, if_neg (fun z => q1 z.1)]
      exact p_qst hh hw fu m (r + 1) q u hR hq (by omega) (by omega) (by omega)
def okq (h w : Int32) : Prop := (1 ≤ h.toInt ∧ h.toInt ≤ 99) ∧ 0 ≤ w.toInt ∧ w.toInt ≤ 99
def qsl (l : List Act) (h w : Int32) : List Nat := qs9 (fin9 l) h.toInt.toNat w.toInt.toNat 20 1 []
theorem RR.kr {u v : Lib} {l : List Act} (h : RR u l) (k : KR u v) : RR v l := by
  unfold RR
  rw [k.1, k.2.1, k.2.2.1, k.2.2.2.1, k.2.2.2.2]
  exact h
theorem p_question {l : List Act} (hv : allv l) (hs : srtd l) {u : Lib} (hL : RR u l) (h w : Int32) (ok : okq h w) : ∃ u2, B_L_question_0 h w u = some (nI (qsl l h w).length, u2) ∧ RR u2 l ∧ RH (l_hc u2) (l_hit u2) (qsl l h w) := by
  obtain ⟨o1, o2⟩ := ok
  unfold B_L_question_0 qsl
  obtain ⟨u2, e1, e2, e3⟩ := p_all hv hs hL
  have hW : SW (fin9 l) := SW_g hv pA l.length
  obtain ⟨a, a1, a2, rfl⟩ := nI_ex (a := 1) (b := 99) (x := h) (by omega) (by omega)
  obtain ⟨b, b1, b3, rfl⟩ := nI_ex (a := 0) (b := 99) (x := w) (by omega) (by omega)
  have z1 : (1 : Int64).toInt = 1 := by decide
  have z2 : (99 : Int64).toInt = 99 := by decide
  have z3 : (0 : Int64).toInt = 0 := by decide
  rw [p_isWithin, bs, j_of, z1, z2, if_pos o1, if_neg ne10, p_isWithin, bs, j_of, z3, z2, if_pos o2, if_neg ne10, e1, bs, nI_toInt (show a < 2 ^ 31 by omega), nI_toInt (show b < 2 ^ 31 by omega), show ((a : Int)).toNat = a by omega, show ((b : Int)).toNat = b by omega]
  obtain ⟨u3, f1, f2, f3⟩ := p_qst (s := fin9 l) (h := a) (w := b) a2 b3 FU 20 1 [] (l_hc_w u2 0) e2.1 ⟨rfl, by simp, fun i hi => absurd hi (by simp)⟩ (by simp) (by omega) (by unfold FU; omega)
  refine ⟨u3, f1, ?_, f2⟩
  exact ((hL.kp e3).kr (v := l_hc_w u2 0) ⟨rfl, rfl, rfl, rfl, rfl⟩).kr f3
theorem p_questionN {u : Lib} (h w : Int32) (ok : ¬ okq h w) : B_L_question_0 h w u = some (-1, u) := by
  unfold B_L_question_0
  have z1 : (1 : Int64).toInt = 1 := by decide
  have z2 : (99 : Int64).toInt = 99 := by decide
  have z3 : (0 : Int64).toInt = 0 := by decide
  rw [p_isWithin, bs, j_of, z1, z2]
  by_cases o1 : 1 ≤ h.toInt ∧ h.toInt ≤ 99
  · rw [if_pos o1, if_neg ne10, p_isWithin, bs, j_of, z3, z2, if_neg (fun q => ok ⟨o1, q⟩), if_pos rfl]
  · rw [if_neg o1, if_pos rfl]
