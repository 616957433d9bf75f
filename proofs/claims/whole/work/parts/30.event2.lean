def mkA (s : Int32) (a b d : Int64) : Act := (s.toInt.toNat, a.toInt.toNat, if s = 4 then 0 else b.toInt.toNat, d.toInt.toNat)
def mkOk (s : Int32) (a b d : Int64) (x : Act) : Prop := vact x ∧ s = nI x.1 ∧ a.toInt32 = nI x.2.1 ∧ (¬ s = 4 → b = lN x.2.2.1) ∧ d = lN x.2.2.2
theorem l2i {a : Int64} (h : 0 ≤ a.toInt) : a.toInt32 = nI a.toInt.toNat := by
  have e := lN_back h
  rw [e, lN_i, ← e]
theorem mk_v {s : Int32} {a b d : Int64} (h : vok s a b = true) (hd : 0 ≤ d.toInt ∧ d.toInt ≤ 1000000) : mkOk s a b d (mkA s a b d) := by
  unfold vok at h
  have hdd : d.toInt.toNat ≤ 1000000 := by omega
  by_cases c0 : s = 0
  · subst c0
    rw [if_pos rfl] at h
    have h := of_decide_eq_true h
    exact ⟨⟨hdd, show 1 ≤ a.toInt.toNat ∧ a.toInt.toNat ≤ 20 ∧ 1 ≤ b.toInt.toNat ∧ b.toInt.toNat ≤ 99 by omega⟩, rfl, l2i (by omega), fun _ => lN_back (by omega), lN_back (by omega)⟩
  rw [if_neg c0] at h
  by_cases c1 : s = 1
  · subst c1
    rw [if_pos rfl] at h
    have h := of_decide_eq_true h
    exact ⟨⟨hdd, show 1 ≤ a.toInt.toNat ∧ a.toInt.toNat ≤ 20 ∧ 1 ≤ b.toInt.toNat ∧ b.toInt.toNat ≤ 99 by omega⟩, rfl, l2i (by omega), fun _ => lN_back (by omega), lN_back (by omega)⟩
  rw [if_neg c1] at h
  by_cases c2 : s = 2
  · subst c2
    rw [if_pos rfl] at h
    have h := of_decide_eq_true h
    exact ⟨⟨hdd, show 1 ≤ a.toInt.toNat ∧ a.toInt.toNat ≤ 20 ∧ 1 ≤ b.toInt.toNat ∧ b.toInt.toNat ≤ 20 by omega⟩, rfl, l2i (by omega), fun _ => lN_back (by omega), lN_back (by omega)⟩
  rw [if_neg c2] at h
  by_cases c3 : s = 3
  · subst c3
    rw [if_pos rfl] at h
    have h := of_decide_eq_true h
    exact ⟨⟨hdd, show 1 ≤ a.toInt.toNat ∧ a.toInt.toNat ≤ 20 ∧ 1 ≤ b.toInt.toNat ∧ b.toInt.toNat ≤ 20 by omega⟩, rfl, l2i (by omega), fun _ => lN_back (by omega), lN_back (by omega)⟩
  rw [if_neg c3] at h
  by_cases c4 : s = 4
  · subst c4
    rw [if_pos rfl] at h
    have h := of_decide_eq_true h
    exact ⟨⟨hdd, show 1 ≤ a.toInt.toNat ∧ a.toInt.toNat ≤ 20 by omega⟩, rfl, l2i (by omega), fun z => absurd rfl z, lN_back (by omega)⟩
  rw [if_neg c4] at h
  by_cases c5 : s = 5
  · subst c5
    rw [if_pos rfl] at h
    have h := of_decide_eq_true h
    exact ⟨⟨hdd, show 1 ≤ a.toInt.toNat ∧ a.toInt.toNat ≤ 20 ∧ 1 ≤ b.toInt.toNat ∧ b.toInt.toNat ≤ 20 by omega⟩, rfl, l2i (by omega), fun _ => lN_back (by omega), lN_back (by omega)⟩
  rw [if_neg c5] at h
  by_cases c6 : s = 6
  · subst c6
    rw [if_pos rfl] at h
    have h := of_decide_eq_true h
    exact ⟨⟨hdd, show 1 ≤ a.toInt.toNat ∧ a.toInt.toNat ≤ 20 ∧ 1 ≤ b.toInt.toNat ∧ b.toInt.toNat ≤ 20 by omega⟩, rfl, l2i (by omega), fun _ => lN_back (by omega), lN_back (by omega)⟩
  rw [if_neg c6] at h
  by_cases c7 : s = 7
  · subst c7
    rw [if_pos rfl] at h
    have h := of_decide_eq_true h
    exact ⟨⟨hdd, show 1 ≤ a.toInt.toNat ∧ a.toInt.toNat ≤ 20 ∧ 1 ≤ b.toInt.toNat ∧ b.toInt.toNat ≤ 5 by omega⟩, rfl, l2i (by omega), fun _ => lN_back (by omega), lN_back (by omega)⟩
  rw [if_neg c7] at h
  by_cases c8 : s = 8
  · subst c8
    rw [if_pos rfl] at h
    have h := of_decide_eq_true h
    exact ⟨⟨hdd, show 1 ≤ a.toInt.toNat ∧ a.toInt.toNat ≤ 20 ∧ 1 ≤ b.toInt.toNat ∧ b.toInt.toNat ≤ 5 by omega⟩, rfl, l2i (by omega), fun _ => lN_back (by omega), lN_back (by omega)⟩
  rw [if_neg c8] at h
  by_cases c9 : s = 9
  · subst c9
    rw [if_pos rfl] at h
    have h := of_decide_eq_true h
    exact ⟨⟨hdd, show 1 ≤ a.toInt.toNat ∧ a.toInt.toNat ≤ 20 ∧ b.toInt.toNat ≤ 9 by omega⟩, rfl, l2i (by omega), fun _ => lN_back (by omega), lN_back (by omega)⟩
  rw [if_neg c9] at h
  by_cases c10 : s = 10
  · subst c10
    rw [if_pos rfl] at h
    have h := of_decide_eq_true h
    exact ⟨⟨hdd, show a.toInt.toNat ≤ 9 ∧ 1 ≤ b.toInt.toNat ∧ b.toInt.toNat ≤ 365 by omega⟩, rfl, l2i (by omega), fun _ => lN_back (by omega), lN_back (by omega)⟩
  rw [if_neg c10] at h
  cases h
def okE (l : List Act) (s : Int32) (a b d : Int64) : Prop := (0 ≤ d.toInt ∧ d.toInt ≤ 1000000) ∧ vok s a b = true ∧ l.length < 200
def newl (l : List Act) (x : Act) : List Act := insl l (plcf l x.2.2.2 l.length) x
theorem p_event36 {l : List Act} (hv : allv l) {u : Lib} (hL : RR u l) {s t : Int32} {a d : Int64} {x : Act} (hx : vact x) (e1 : s = nI x.1) (e2 : a.toInt32 = nI x.2.1) (e3 : t = nI x.2.2.1) (e4 : d = lN x.2.2.2) (hlt : l.length < 200) : ∃ u2, B_L_event_36 s a d t u = some (nI (l.length + 1), u2) ∧ RR u2 (newl l x) ∧ l_hc u2 = l_hc u ∧ l_hit u2 = l_hit u := by
  obtain ⟨u2, f1, f2, f3, f4⟩ := p_insert hv hL hx hlt
  unfold B_L_event_36
  rw [e1, e2, e3, e4, f1, bs, if_neg ne10]
  show ∃ u3, ((B_R_size_0 u2).bind _) = _ ∧ _
  rw [p_size, bs, f2.1, insl_len (plcf_le _ _ _)]
  exact ⟨u2, rfl, f2, f3, f4⟩
theorem p_event36N {u : Lib} {s t : Int32} {a d : Int64} (h : ¬ l_sz u < 200) : B_L_event_36 s a d t u = some (0, u) := by
  unfold B_L_event_36 B_R_insert_0
  rw [if_neg h, bs, if_pos rfl]
theorem p_event {l : List Act} (hv : allv l) {u : Lib} (hL : RR u l) {s : Int32} {a b d : Int64} (ok : okE l s a b d) : ∃ u2, B_L_event_0 s a b d u = some (nI (l.length + 1), u2) ∧ RR u2 (newl l (mkA s a b d)) ∧ l_hc u2 = l_hc u ∧ l_hit u2 = l_hit u := by
  obtain ⟨o1, o2, o3⟩ := ok
  obtain ⟨m1, m2, m3, m4, m5⟩ := mk_v o2 o1
  have z0 : (0 : Int64).toInt = 0 := by decide
  have z1 : (1000000 : Int64).toInt = 1000000 := by decide
  unfold B_L_event_0
  rw [p_isWithin, bs, z0, z1, if_pos o1, if_neg ne10, p_isAct, bs, b2_t o2, if_neg ne10]
  by_cases h4 : s = 4
  · rw [if_pos h4]
    refine p_event36 hv hL m1 m2 m3 ?_ m5 o3
    show (0 : Int32) = nI (if s = 4 then 0 else b.toInt.toNat)
    rw [if_pos h4]
    rfl
  · rw [if_neg h4]
    refine p_event36 hv hL m1 m2 m3 ?_ m5 o3
    have e := m4 h4
    rw [e, lN_i]
    exact congrArg (fun z : Int64 => nI (mkA s a z d).2.2.1) e
theorem p_eventN {l : List Act} {u : Lib} (hL : RR u l) {s : Int32} {a b d : Int64} (ok : ¬ okE l s a b d) : B_L_event_0 s a b d u = some (0, u) := by
  have z0 : (0 : Int64).toInt = 0 := by decide
  have z1 : (1000000 : Int64).toInt = 1000000 := by decide
  have h200 := hL.2.1
  unfold B_L_event_0
  rw [p_isWithin, bs, z0, z1]
  by_cases o1 : 0 ≤ d.toInt ∧ d.toInt ≤ 1000000
  · rw [if_pos o1, if_neg ne10, p_isAct, bs]
    by_cases o2 : vok s a b = true
    · have o3 : ¬ l.length < 200 := fun z => ok ⟨o1, o2, z⟩
      have hz : ¬ l_sz u < 200 := by
        rw [hL.1, show (200 : Int32) = nI 200 from rfl]
        exact nI_nlt (by omega) (by omega)
      rw [b2_t o2, if_neg ne10, p_event36N hz, p_event36N hz, ite_self]
    · rw [b2_f o2, if_pos rfl]
  · rw [if_neg o1, if_pos rfl]
