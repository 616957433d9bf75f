/-! the class's Shelves against a state -/
def b2 (b : Bool) : Int32 := if b = true then 1 else 0
def RS (u : Lib) (s : St) : Prop := Rhd (l_hb u) (s_hd s) ∧ Rn (l_rec u) (s_rc s) 20 ∧ Rn (l_per u) (s_pe s) 20 ∧ Rdu (l_due u) (s_pe s) (s_du s) ∧ Rqu (l_ql u) (l_qd u) (s_qu s) ∧ Rn (l_cls u) (s_cs s) 20 ∧ Rn (l_ln u) (s_ln s) 9 ∧ Rsm (l_sm u) (s_sm s)
def KP (u v : Lib) : Prop := l_sz v = l_sz u ∧ l_srt v = l_srt u ∧ l_fst v = l_fst u ∧ l_snd v = l_snd u ∧ l_dys v = l_dys u ∧ l_hc v = l_hc u ∧ l_hit v = l_hit u
theorem KP.rf {u : Lib} : KP u u := ⟨rfl, rfl, rfl, rfl, rfl, rfl, rfl⟩
theorem KP.tr {u v w : Lib} (h : KP u v) (k : KP v w) : KP u w := ⟨k.1.trans h.1, k.2.1.trans h.2.1, k.2.2.1.trans h.2.2.1, k.2.2.2.1.trans h.2.2.2.1, k.2.2.2.2.1.trans h.2.2.2.2.1, k.2.2.2.2.2.1.trans h.2.2.2.2.2.1, k.2.2.2.2.2.2.trans h.2.2.2.2.2.2⟩
theorem SW.ql {s : St} (h : SW s) : ∀ r, (s_qu s r).length ≤ 20 := fun r => qu_len (h.2.2.1 r).1 (h.2.2.1 r).2
theorem SW.qe {s : St} (h : SW s) : ∀ r, ∀ z ∈ s_qu s r, z ≤ 20 := fun r z hz => ((h.2.2.1 r).2 z hz).2
theorem st_y {x : Act} {s : St} (h : s_ok x s = true) : s_st x s = s_do x s := if_pos h
theorem st_n {x : Act} {s : St} (h : ¬ s_ok x s = true) : s_st x s = s := if_neg h
theorem b2_t {b : Bool} (h : b = true) : b2 b = 1 := if_pos h
theorem b2_f {b : Bool} (h : ¬ b = true) : b2 b = 0 := if_neg h
theorem b2_01 (b : Bool) : b2 b = 0 ∨ b2 b = 1 := by cases b <;> simp [b2]
theorem b2_0 {b : Bool} : b2 b = 0 ↔ ¬ b = true := by cases b <;> simp [b2]
theorem n0 {k : Nat} (h : k < 2 ^ 31) : nI k = (0 : Int32) ↔ k = 0 := by
  rw [← nI_0]
  exact nI_eq h (by omega)
theorem n_m1 {k : Nat} (h : k < 2 ^ 31) : ¬ nI k = (-1 : Int32) := by
  intro e
  have h2 := congrArg Int32.toInt e
  rw [nI_toInt h] at h2
  have h3 : ((-1 : Int32)).toInt = -1 := by decide
  omega
theorem p_wordIndex {r h : Nat} (hr : r ≤ 20) (hh : h ≤ 99) : B_S_wordIndex_0 (nI r) (nI h) = some (nI (r * 2 + h / 64)) := by
  unfold B_S_wordIndex_0
  rw [show (2 : Int32) = nI 2 from rfl, show (64 : Int32) = nI 64 from rfl, pk_mul, pk_div (by omega) (by omega) (by omega), nI_add]
theorem p_bitOf {h : Nat} (hh : h ≤ 99) : B_S_bitOf_0 (nI h) = some ((1 : Int64) <<< ((nI (h % 64)).toInt64 &&& 63)) := by
  unfold B_S_bitOf_0
  rw [show (64 : Int32) = nI 64 from rfl, pk_rem (by omega) (by omega) (by omega)]
theorem p_has {u : Lib} {g : Nat → Nat → Bool} (H : Rhd (l_hb u) g) {r h : Nat} (hr : r ≤ 20) (hh : h ≤ 99) : B_S_hasHeading_0 (nI r) (nI h) u = some (b2 (g r h)) := by
  unfold B_S_hasHeading_0
  rw [p_wordIndex hr hh, bs, gd_t (g_in (by omega) (by omega)), p_bitOf hh, bs, nI_clamp (by omega)]
  have e := H r h hr hh
  by_cases q : g r h = true
  · rw [if_neg, b2_t q]
    rw [lg_cmp_eq, bit_ts (by omega), e, q]
    decide
  · rw [if_pos, b2_f q]
    rw [lg_cmp_eq, bit_ts (by omega), e]
    simpa using q
theorem p_perf0 {u : Lib} {s : St} (hR : RS u s) {a b d : Nat} (ha : a ≤ 20) (hb : b ≤ 99) : ∃ u2, B_S_addHeading_0 (nI a) (nI b) u = some (b2 (s_ok (0, a, b, d) s), u2) ∧ RS u2 (s_st (0, a, b, d) s) ∧ KP u u2 := by
  unfold B_S_addHeading_0
  rw [p_has hR.1 ha hb, bs]
  by_cases q : s_hd s a b = true
  · have ho : ¬ s_ok (0, a, b, d) s = true := by simp [s_ok, q]
    rw [b2_t q, if_neg (by decide), b2_f ho, st_n ho]
    exact ⟨_, rfl, hR, KP.rf⟩
  · have ho : s_ok (0, a, b, d) s = true := by simp [s_ok, q]
    rw [b2_f q, if_pos rfl, b2_t ho, st_y ho, p_wordIndex ha hb, bs, gd_t (g_in (by omega) (by omega)), p_bitOf hb, bs, gd_t (g_in (by omega) (by omega)), nI_clamp (by omega)]
    exact ⟨_, rfl, ⟨Rhd_on hR.1 hb, hR.2⟩, KP.rf⟩
theorem p_perf1 {u : Lib} {s : St} (hR : RS u s) {a b d : Nat} (ha : a ≤ 20) (hb : b ≤ 99) : ∃ u2, B_S_dropHeading_0 (nI a) (nI b) u = some (b2 (s_ok (1, a, b, d) s), u2) ∧ RS u2 (s_st (1, a, b, d) s) ∧ KP u u2 := by
  unfold B_S_dropHeading_0
  rw [p_has hR.1 ha hb, bs]
  by_cases q : s_hd s a b = true
  · have ho : s_ok (1, a, b, d) s = true := by simp [s_ok, q]
    rw [b2_t q, if_neg (by decide), b2_t ho, st_y ho, p_wordIndex ha hb, bs, gd_t (g_in (by omega) (by omega)), p_bitOf hb, bs, gd_t (g_in (by omega) (by omega)), nI_clamp (by omega)]
    exact ⟨_, rfl, ⟨Rhd_off hR.1 hb, hR.2⟩, KP.rf⟩
  · have ho : ¬ s_ok (1, a, b, d) s = true := by simp [s_ok, q]
    rw [b2_f q, if_pos rfl, b2_f ho, st_n ho]
    exact ⟨_, rfl, hR, KP.rf⟩
theorem p_perf2 {u : Lib} {s : St} (hR : RS u s) (hW : SW s) {a b d : Nat} (ha : a ≤ 20) (hb : b ≤ 20) : ∃ u2, B_S_setRecord_0 (nI a) (nI b) u = some (b2 (s_ok (2, a, b, d) s), u2) ∧ RS u2 (s_st (2, a, b, d) s) ∧ KP u u2 := by
  unfold B_S_setRecord_0
  have hp := hW.2.1 a
  rw [gd_t (g_in (by omega) (by omega)), nI_clamp (by omega), hR.2.2.1 a ha]
  by_cases q : s_pe s a = 0
  · have ho : s_ok (2, a, b, d) s = true := by simp [s_ok, q]
    rw [if_pos ((n0 (by omega)).mpr q), gd_t (g_in (by omega) (by omega)), b2_t ho, st_y ho]
    exact ⟨_, rfl, ⟨hR.1, Rn_up hR.2.1 a b, hR.2.2⟩, KP.rf⟩
  · have ho : ¬ s_ok (2, a, b, d) s = true := by simp [s_ok, q]
    rw [if_neg (fun e => q ((n0 (by omega)).mp e)), b2_f ho, st_n ho]
    exact ⟨_, rfl, hR, KP.rf⟩
theorem p_perf4 {u : Lib} {s : St} (hR : RS u s) (hW : SW s) {a b d : Nat} (ha : a ≤ 20) : ∃ u2, B_S_giveBack_0 (nI a) u = some (b2 (s_ok (4, a, b, d) s), u2) ∧ RS u2 (s_st (4, a, b, d) s) ∧ KP u u2 := by
  unfold B_S_giveBack_0
  have hp := hW.2.1 a
  rw [gd_t (g_in (by omega) (by omega)), nI_clamp (by omega), hR.2.2.1 a ha]
  by_cases q : s_pe s a = 0
  · have ho : ¬ s_ok (4, a, b, d) s = true := by simp [s_ok, q]
    rw [if_pos ((n0 (by omega)).mpr q), b2_f ho, st_n ho]
    exact ⟨_, rfl, hR, KP.rf⟩
  · have ho : s_ok (4, a, b, d) s = true := by simp [s_ok, q]
    rw [if_neg (fun e => q ((n0 (by omega)).mp e)), gd_t (g_in (by omega) (by omega)), b2_t ho, st_y ho]
    refine ⟨_, rfl, ⟨hR.1, hR.2.1, Rn_up hR.2.2.1 a 0, ?_, hR.2.2.2.2⟩, KP.rf⟩
    intro c hc hne
    show l_due u c = lN (s_du s c)
    refine hR.2.2.2.1 c hc ?_
    have hne : va_up (s_pe s) a 0 c ≠ 0 := hne
    rw [vu_i] at hne
    split at hne
    · exact absurd rfl hne
    · exact hne
theorem p_personAt {u : Lib} {q : Nat → List Nat} (H : Rqu (l_ql u) (l_qd u) q) (hq : ∀ r, (q r).length ≤ 20) {r i : Nat} (hr : r ≤ 20) (hi : i < 2 ^ 31) : B_S_personAt_0 (nI r) (nI i) u = some (if i < (q r).length then nI ((q r).getD i 0) else -1) := by
  unfold B_S_personAt_0
  obtain ⟨e1, e2⟩ := H r hr
  have hl := hq r
  rw [if_neg (nI_pos hi), gd_t (g_in (by omega) (by omega)), nI_clamp (by omega), e1]
  by_cases z : (q r).length ≤ i
  · rw [if_pos (nI_le z hi), if_neg (by omega)]
  · rw [if_neg (nI_ge (by omega) (by omega)), if_pos (by omega), show nI r * (20 : Int32) + nI i = nI (r * 20 + i) from by rw [show (20 : Int32) = nI 20 from rfl, pk_mul, nI_add], gd_t (g_in (by omega) (by omega)), nI_clamp (by omega), e2 i (by omega)]
def KQ (u v : Lib) : Prop := l_hb v = l_hb u ∧ l_rec v = l_rec u ∧ l_per v = l_per u ∧ l_due v = l_due u ∧ l_cls v = l_cls u ∧ l_ln v = l_ln u ∧ l_sm v = l_sm u ∧ KP u v
theorem va_up_id {α : Type} (f : Nat → α) (k : Nat) : va_up f k (f k) = f := by
  funext j
  rw [vu_i]
  split
  · rename_i e
    rw [e]
  · rfl
theorem p_leave {u : Lib} {q : Nat → List Nat} (H : Rqu (l_ql u) (l_qd u) q) (hq : ∀ r, (q r).length ≤ 20) (hq2 : ∀ r, ∀ z ∈ q r, z ≤ 20) {r b : Nat} (hr : r ≤ 20) (hb : b ≤ 20) : ∃ u2, B_S_leaveQueue_0 (nI r) (nI b) u = some (b2 ((q r).contains b), u2) ∧ Rqu (l_ql u2) (l_qd u2) (va_up q r ((q r).erase b)) ∧ KQ u u2 := by
  unfold B_S_leaveQueue_0
  have hl := hq r
  obtain ⟨e1, e2⟩ := H r hr
  rw [p_S_place H hq hq2 hr hb, bs, plc]
  by_cases hm : b ∈ q r
  · have hi : (q r).idxOf b < (q r).length := List.idxOf_lt_length_of_mem hm
    have he : (q r).erase b = (q r).eraseIdx ((q r).idxOf b) := List.erase_eq_eraseIdx_of_idxOf rfl
    generalize hp : (q r).idxOf b = p at hi he
    have hc : (q r).contains b = true := by simpa using hm
    have ex1 : nI r * (20 : Int32) + nI p = nI (r * 20 + p) := by rw [show (20 : Int32) = nI 20 from rfl, pk_mul, nI_add]
    have ex2 : nI (r * 20 + p) + (1 : Int32) = nI (r * 20 + p + 1) := nI_1 _
    have ex3 : nI (q r).length - nI p - (1 : Int32) = nI ((q r).length - p - 1) := by rw [show (1 : Int32) = nI 1 from rfl, pk_sub (by omega), pk_sub (by omega)]
    rw [if_pos hm, if_neg (n_m1 (by omega)), gd_t (g_in (by omega) (by omega)), nI_clamp (by omega), e1, ex1, ex2, ex3, gd_t, bs, gd_t (g_in (by omega) (by omega)), gd_t (g_in (by omega) (by omega)), b2_t hc]
    · refine ⟨_, rfl, ?_, rfl, rfl, rfl, rfl, rfl, rfl, rfl, KP.rf⟩
      rw [he]
      have el : l_ql (l_qd_w u (va_cpy (l_qd u) (l_qd u) (nI (r * 20 + p + 1)).toNatClampNeg (nI (r * 20 + p)).toNatClampNeg (nI ((q r).length - p - 1)).toNatClampNeg)) = l_ql u := rfl
      have hx := Rqu_leave (fd := va_cpy (l_qd u) (l_qd u) (r * 20 + p + 1) (r * 20 + p) ((q r).length - p - 1)) H hq hi (fun i hi2 => ?_) (fun k i hk hi2 => ?_)
      · have ey : nI (q r).length - (1 : Int32) = nI ((q r).length - 1) := by rw [show (1 : Int32) = nI 1 from rfl, pk_sub (by omega)]
        rw [← ey, ← e1] at hx
        rw [nI_clamp (by omega), nI_clamp (by omega), nI_clamp (by omega)]
        exact hx
      · split
        · rw [pk_cpy_out (by omega)]
        · rw [pk_cpy_in (by omega) (by omega)]
          exact congrArg _ (by omega)
      · rw [pk_cpy_out ?_]
        rcases Nat.lt_or_gt_of_ne hk with z | z
        · left
          omega
        · right
          omega
    · rw [nI_toInt (by omega), nI_toInt (by omega), nI_toInt (by omega)]
      omega
  · have hc : ¬ (q r).contains b = true := by simpa using hm
    rw [if_neg hm, if_pos rfl, b2_f hc, List.erase_of_not_mem hm, va_up_id]
    exact ⟨_, rfl, H, rfl, rfl, rfl, rfl, rfl, rfl, rfl, KP.rf⟩
