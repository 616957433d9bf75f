def cntp (P : Nat → Bool) : Nat → Nat
  | 0 => 0
  | k + 1 => cntp P k + (if P (k + 1) = true then 1 else 0)
theorem cntp_le (P : Nat → Bool) : ∀ k, cntp P k ≤ k
  | 0 => Nat.le_refl 0
  | k + 1 => by
    have ih := cntp_le P k
    unfold cntp
    split <;> omega
/-- the i-th that P has, from k on, m more to see, c seen -/
def sel (P : Nat → Bool) (v : Nat → Int32) (i : Int32) : Nat → Nat → Int32 → Int32
  | 0, _, _ => -1
  | m + 1, k, c => if P k = true then (if c = i then v k else sel P v i m (k + 1) (c + 1)) else sel P v i m (k + 1) c
theorem n_ex {x : Int32} (h : 1 ≤ x.toInt ∧ x.toInt ≤ 20) : ∃ n, 1 ≤ n ∧ n ≤ 20 ∧ x = nI n := nI_ex (a := 1) (b := 20) (by omega) (by omega)
def P_there (s : St) (r : Nat) : Nat → Bool := fun c => decide (s_rc s c = r ∧ s_pe s c = 0)
theorem p_there {u : Lib} {s : St} (hR : RS u s) (hW : SW s) {r : Nat} (hr : r ≤ 20) : ∀ (fu k : Nat), k ≤ 20 → 20 - k < fu → B_S_copiesThereOf_4 fu (nI r) (nI (cntp (P_there s r) k)) (nI (k + 1)) u = some (nI (cntp (P_there s r) 20))
  | 0, k, _, h2 => absurd h2 (by omega)
  | fu + 1, k, h1, h2 => by
    show B_S_copiesThereOf_4s _ _ _ _ _ = _
    unfold B_S_copiesThereOf_4s B_S_copiesThereOf_32
    by_cases hk : 20 ≤ k
    · rw [if_pos (by rw [show (20 : Int32) = nI 20 from rfl]; exact nI_lt (by omega) (by omega)), show k = 20 by omega]
    · have a1 := hW.1 (k + 1)
      have a2 := hW.2.1 (k + 1)
      have ih := p_there hR hW hr fu (k + 1) (by omega) (by omega)
      have e1 : nI (k + 1) + (1 : Int32) = nI (k + 1 + 1) := nI_1 _
      have e2 : nI (cntp (P_there s r) k) + (1 : Int32) = nI (cntp (P_there s r) k + 1) := nI_1 _
      rw [if_neg (by rw [show (20 : Int32) = nI 20 from rfl]; exact nI_nlt (by omega) (by omega)), gd_t (g_in (by omega) (by omega)), nI_clamp (by omega), hR.2.1 (k + 1) (by omega), e1, e2]
      by_cases q1 : s_rc s (k + 1) = r
      · rw [if_pos (by rw [q1]), gd_t (g_in (by omega) (by omega)), hR.2.2.1 (k + 1) (by omega)]
        by_cases q2 : s_pe s (k + 1) = 0
        · rw [if_pos ((n0 (by omega)).mpr q2)]
          rw [show cntp (P_there s r) (k + 1) = cntp (P_there s r) k + 1 by simp [cntp, P_there, q1, q2]] at ih
          exact ih
        · rw [if_neg (fun e => q2 ((n0 (by omega)).mp e))]
          rw [show cntp (P_there s r) (k + 1) = cntp (P_there s r) k by simp [cntp, P_there, q2]] at ih
          exact ih
      · rw [if_neg (fun e => q1 ((nI_eq (by omega) (by omega)).mp e))]
        rw [show cntp (P_there s r) (k + 1) = cntp (P_there s r) k by simp [cntp, P_there, q1]] at ih
        exact ih
def A_st (s : St) (what : Int32) (n : Nat) : Int32 := if what = 0 then nI (s_rc s n) else if what = 1 then nI (s_pe s n) else if what = 2 then nI (s_cs s n) else if what = 3 then nI (cntp (P_there s n) 20) else -1
def A_state (l : List Act) (what n : Int32) (y : Int64) : Int32 := if 1 ≤ n.toInt ∧ n.toInt ≤ 20 then A_st (gst l (pD l y) l.length) what n.toInt.toNat else -1
theorem p_state {l : List Act} (hv : allv l) (hs : srtd l) {u : Lib} (hL : RR u l) (what n : Int32) (y : Int64) : Ans (B_L_state_0 what n y u) (A_state l what n y) u := by
  unfold B_L_state_0 A_state
  rw [p_num, bs]
  by_cases hn : 1 ≤ n.toInt ∧ n.toInt ≤ 20
  · rw [if_pos hn, if_neg ne10, if_pos hn]
    obtain ⟨k, k1, k2, rfl⟩ := n_ex hn
    rw [nI_toInt (by omega)]
    obtain ⟨u2, e1, e2, e3⟩ := p_upTo hv hs y hL
    have hW := SW_g hv (pD l y) l.length
    rw [e1, bs]
    show Ans _ (A_st (gst l (pD l y) l.length) what k) u
    generalize gst l (pD l y) l.length = s at e2 hW ⊢
    unfold A_st B_S_recordOf_0 B_S_personWith_0 B_S_classOf_0
    rw [gd_t (g_in (by omega) (by omega)), gd_t (g_in (by omega) (by omega)), gd_t (g_in (by omega) (by omega)), bs, bs, bs, nI_clamp (by omega), e2.2.1 k k2, e2.2.2.1 k k2, e2.2.2.2.2.2.1 k k2]
    by_cases q0 : what = 0
    · rw [if_pos q0, if_pos q0]
      exact ⟨u2, rfl, e3⟩
    rw [if_neg q0, if_neg q0]
    by_cases q1 : what = 1
    · rw [if_pos q1, if_pos q1]
      exact ⟨u2, rfl, e3⟩
    rw [if_neg q1, if_neg q1]
    by_cases q2 : what = 2
    · rw [if_pos q2, if_pos q2]
      exact ⟨u2, rfl, e3⟩
    rw [if_neg q2, if_neg q2]
    by_cases q3 : what = 3
    · rw [if_pos q3, if_pos q3]
      unfold B_S_copiesThereOf_0
      have hx := p_there e2 hW k2 FU 0 (by omega) (by unfold FU; omega)
      rw [show (0 : Int32) = nI (cntp (P_there s k) 0) from rfl, show (1 : Int32) = nI (0 + 1) from rfl, hx, bs]
      exact ⟨u2, rfl, e3⟩
    rw [if_neg q3, if_neg q3]
    exact ⟨u2, rfl, e3⟩
  · rw [if_neg hn, if_pos rfl, if_neg hn]
    exact ⟨u, rfl, KP.rf⟩
theorem p_hAt {u : Lib} {s : St} (hR : RS u s) {r : Nat} (hr : r ≤ 20) (i : Int32) : ∀ (fu m h : Nat) (c : Int32), h + m = 100 → m < fu → B_S_headingAt_5 fu (nI r) i c (nI h) u = some (sel (s_hd s r) nI i m h c)
  | 0, m, h, c, _, h2 => absurd h2 (by omega)
  | fu + 1, 0, h, c, h1, h2 => by
    show B_S_headingAt_5s _ _ _ _ _ _ = _
    unfold B_S_headingAt_5s
    rw [if_pos (by rw [show (99 : Int32) = nI 99 from rfl]; exact nI_lt (by omega) (by omega))]
    rfl
  | fu + 1, m + 1, h, c, h1, h2 => by
    show B_S_headingAt_5s _ _ _ _ _ _ = _
    unfold B_S_headingAt_5s B_S_headingAt_33 sel
    rw [if_neg (by rw [show (99 : Int32) = nI 99 from rfl]; exact nI_nlt (by omega) (by omega)), p_has hR.1 hr (by omega), bs, show nI h + (1 : Int32) = nI (h + 1) from nI_1 h]
    by_cases q : s_hd s r h = true
    · rw [b2_t q, if_neg ne10, if_pos q]
      by_cases q2 : c = i
      · rw [if_pos q2, if_pos q2]
      · rw [if_neg q2, if_neg q2]
        exact p_hAt hR hr i fu m (h + 1) (c + 1) (by omega) (by omega)
    · rw [b2_f q, if_pos rfl, if_neg q]
      exact p_hAt hR hr i fu m (h + 1) c (by omega) (by omega)
theorem ge0 {i : Int32} : 0 ≤ i ↔ 0 ≤ i.toInt := by
  rw [i_le]
  exact Iff.rfl
def A_heading (l : List Act) (r i : Int32) : Int32 := if (1 ≤ r.toInt ∧ r.toInt ≤ 20) ∧ 0 ≤ i.toInt then sel (s_hd (fin9 l) r.toInt.toNat) nI i 99 1 0 else -1
theorem p_heading {l : List Act} (hv : allv l) (hs : srtd l) {u : Lib} (hL : RR u l) (r i : Int32) : Ans (B_L_heading_0 r i u) (A_heading l r i) u := by
  unfold B_L_heading_0 A_heading
  rw [p_num, bs]
  by_cases hn : 1 ≤ r.toInt ∧ r.toInt ≤ 20
  · rw [if_pos hn, if_neg ne10]
    by_cases h0 : 0 ≤ i
    · rw [if_pos h0]
      rw [ge0] at h0
      rw [if_pos ⟨hn, h0⟩]
      obtain ⟨k, k1, k2, rfl⟩ := n_ex hn
      rw [nI_toInt (by omega)]
      obtain ⟨u2, e1, e2, e3⟩ := p_all hv hs hL
      rw [e1, bs]
      unfold B_S_headingAt_0
      rw [show (1 : Int32) = nI 1 from rfl, p_hAt e2 k2 i FU 99 1 0 (by omega) (by unfold FU; omega), bs]
      exact ⟨u2, rfl, e3⟩
    · rw [if_neg h0]
      rw [ge0] at h0
      rw [if_neg (fun q => h0 q.2)]
      exact ⟨u, rfl, KP.rf⟩
  · rw [if_neg hn, if_pos rfl, if_neg (fun q => hn q.1)]
    exact ⟨u, rfl, KP.rf⟩
def A_due (l : List Act) (n : Int32) : Int64 := if (1 ≤ n.toInt ∧ n.toInt ≤ 20) ∧ s_pe (fin9 l) n.toInt.toNat ≠ 0 then lN (s_du (fin9 l) n.toInt.toNat) else -1
theorem p_due {l : List Act} (hv : allv l) (hs : srtd l) {u : Lib} (hL : RR u l) (n : Int32) : ∃ u2, B_L_due_0 n u = some (A_due l n, u2) ∧ KP u u2 := by
  unfold B_L_due_0 A_due
  rw [p_num, bs]
  by_cases hn : 1 ≤ n.toInt ∧ n.toInt ≤ 20
  · rw [if_pos hn, if_neg ne10]
    obtain ⟨k, k1, k2, rfl⟩ := n_ex hn
    rw [nI_toInt (by omega)]
    obtain ⟨u2, e1, e2, e3⟩ := p_all hv hs hL
    have hp := (SW_g hv pA l.length).2.1 k
    rw [e1, bs]
    unfold B_S_dueDayOf_0
    rw [gd_t (g_in (by omega) (by omega)), nI_clamp (by omega), e2.2.2.1 k k2]
    have ek : ((k : Int)).toNat = k := by omega
    rw [ek]
    by_cases q : s_pe (fin9 l) k = 0
    · rw [if_pos ((n0 (show s_pe (fin9 l) k < 2 ^ 31 by unfold fin9; omega)).mpr q), bs, if_neg (fun z => z.2 q)]
      exact ⟨u2, rfl, e3⟩
    · rw [if_neg (fun e => q ((n0 (show s_pe (fin9 l) k < 2 ^ 31 by unfold fin9; omega)).mp e)), gd_t (g_in (by omega) (by omega)), bs, e2.2.2.2.1 k k2 q, if_pos ⟨by omega, q⟩]
      exact ⟨u2, rfl, e3⟩
  · rw [if_neg hn, if_pos rfl, if_neg (fun q => hn q.1)]
    exact ⟨u, rfl, KP.rf⟩
def A_queue (l : List Act) (r i : Int32) : Int32 := if (1 ≤ r.toInt ∧ r.toInt ≤ 20) ∧ 0 ≤ i.toInt ∧ i.toInt < (s_qu (fin9 l) r.toInt.toNat).length then nI ((s_qu (fin9 l) r.toInt.toNat).getD i.toInt.toNat 0) else -1
theorem p_queue {l : List Act} (hv : allv l) (hs : srtd l) {u : Lib} (hL : RR u l) (r i : Int32) : Ans (B_L_queue_0 r i u) (A_queue l r i) u := by
  unfold B_L_queue_0 A_queue
  rw [p_num, bs]
  by_cases hn : 1 ≤ r.toInt ∧ r.toInt ≤ 20
  · rw [if_pos hn, if_neg ne10]
    by_cases h0 : 0 ≤ i
    · rw [if_pos h0]
      rw [ge0] at h0
      obtain ⟨k, k1, k2, rfl⟩ := n_ex hn
      rw [nI_toInt (by omega), show ((k : Int)).toNat = k by omega]
      obtain ⟨u2, e1, e2, e3⟩ := p_all hv hs hL
      have hW : SW (fin9 l) := SW_g hv pA l.length
      have hi := nI_back h0
      have hi2 : i.toInt < 2 ^ 31 := i.toInt_lt
      rw [e1, bs]
      have hx := p_personAt e2.2.2.2.2.1 hW.ql k2 (i := i.toInt.toNat) (by omega)
      rw [← hi] at hx
      rw [hx, bs]
      by_cases q : i.toInt.toNat < (s_qu (fin9 l) k).length
      · rw [if_pos q, if_pos ⟨by omega, h0, by omega⟩]
        exact ⟨u2, rfl, e3⟩
      · rw [if_neg q, if_neg (fun z => q (by omega))]
        exact ⟨u2, rfl, e3⟩
    · rw [if_neg h0]
      rw [ge0] at h0
      rw [if_neg (fun q => h0 q.2.1)]
      exact ⟨u, rfl, KP.rf⟩
  · rw [if_neg hn, if_pos rfl, if_neg (fun q => hn q.1)]
    exact ⟨u, rfl, KP.rf⟩
