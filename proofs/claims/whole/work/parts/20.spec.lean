/-! numbers and bits -/
theorem nI_back {x : Int32} (h : 0 ≤ x.toInt) : x = nI x.toInt.toNat := by
  have h2 : x.toInt < 2 ^ 31 := x.toInt_lt
  apply Int32.toInt_inj.mp
  rw [nI_toInt (by omega)]
  omega
theorem lN_back {x : Int64} (h : 0 ≤ x.toInt) : x = lN x.toInt.toNat := by
  have h2 : x.toInt < 2 ^ 63 := x.toInt_lt
  apply Int64.toInt_inj.mp
  rw [pk_lT (by omega)]
  omega
theorem nI_ex {x : Int32} {a b : Nat} (h : (a : Int) ≤ x.toInt) (h2 : x.toInt ≤ b) : ∃ k : Nat, a ≤ k ∧ k ≤ b ∧ x = nI k := ⟨x.toInt.toNat, by omega, by omega, nI_back (by omega)⟩
theorem lN_ex {x : Int64} {a b : Nat} (h : (a : Int) ≤ x.toInt) (h2 : x.toInt ≤ b) : ∃ k : Nat, a ≤ k ∧ k ≤ b ∧ x = lN k := ⟨x.toInt.toNat, by omega, by omega, lN_back (by omega)⟩
theorem lc_lt {x y : Int64} : lg_cmp x y < 0 ↔ x.toInt < y.toInt := by rw [lg_cmp_lt, Int64.lt_iff_toInt_lt]
theorem lc_gt {x y : Int64} : 0 < lg_cmp x y ↔ y.toInt < x.toInt := by rw [lg_cmp_gt, Int64.lt_iff_toInt_lt]
theorem lc_le {x y : Int64} : lg_cmp x y ≤ 0 ↔ x.toInt ≤ y.toInt := by rw [lg_cmp_le, Int64.le_iff_toInt_le]
theorem lc_ge {x y : Int64} : 0 ≤ lg_cmp x y ↔ y.toInt ≤ x.toInt := by rw [lg_cmp_ge, Int64.le_iff_toInt_le]
theorem lc_eq {x y : Int64} : lg_cmp x y = 0 ↔ x.toInt = y.toInt := by rw [lg_cmp_eq, Int64.toInt_inj]
theorem i_lt {x y : Int32} : x < y ↔ x.toInt < y.toInt := Int32.lt_iff_toInt_lt
theorem i_le {x y : Int32} : x ≤ y ↔ x.toInt ≤ y.toInt := Int32.le_iff_toInt_le
theorem i_eq {x y : Int32} : x = y ↔ x.toInt = y.toInt := Int32.toInt_inj.symm
theorem j_of (x : Int32) : x.toInt64.toInt = x.toInt := by simp
def bit (w : Int64) (k : Nat) : Bool := w.toBitVec.getLsbD k
theorem bit_m : ∀ k, k < 64 → ((1 : Int64) <<< ((nI k).toInt64 &&& 63)).toBitVec = BitVec.twoPow 64 k := by decide +kernel
theorem bit_0 (k : Nat) : bit 0 k = false := by simp [bit]
theorem bit_or {w : Int64} {k j : Nat} (hk : k < 64) (hj : j < 64) : bit (w ||| ((1 : Int64) <<< ((nI k).toInt64 &&& 63))) j = (bit w j || decide (j = k)) := by
  unfold bit
  rw [Int64.toBitVec_or, bit_m k hk, BitVec.getLsbD_or, BitVec.getLsbD_twoPow]
  have h : (k = j) ↔ (j = k) := eq_comm
  simp [hk, hj, h]
theorem bit_an {w : Int64} {k j : Nat} (hk : k < 64) (hj : j < 64) : bit (w &&& (((1 : Int64) <<< ((nI k).toInt64 &&& 63)) ^^^ (-1))) j = (bit w j && decide (¬ j = k)) := by
  unfold bit
  have e : ((-1 : Int64)).toBitVec = BitVec.allOnes 64 := by decide
  have h : (k = j) ↔ (j = k) := eq_comm
  rw [Int64.toBitVec_and, Int64.toBitVec_xor, bit_m k hk, e, BitVec.getLsbD_and, BitVec.getLsbD_xor, BitVec.getLsbD_twoPow, BitVec.getLsbD_allOnes]
  simp [hk, hj, h]
theorem bit_ts {w : Int64} {k : Nat} (hk : k < 64) : (w &&& ((1 : Int64) <<< ((nI k).toInt64 &&& 63))) = 0 ↔ bit w k = false := by
  unfold bit
  rw [← Int64.toBitVec_inj, Int64.toBitVec_and, bit_m k hk]
  constructor
  · intro h
    have h2 := congrArg (fun v => BitVec.getLsbD v k) h
    simpa [BitVec.getLsbD_and, BitVec.getLsbD_twoPow, hk] using h2
  · intro h
    apply BitVec.eq_of_getLsbD_eq
    intro i hi
    rw [BitVec.getLsbD_and, BitVec.getLsbD_twoPow]
    by_cases q : k = i
    · subst q
      simp [h]
    · simp [q]
/-! THE DOCUMENT AS A VALUE. An act is (sort, a, b, day); a state is what acts make. -/
abbrev Act : Type := Nat × Nat × Nat × Nat
/-- headings, records of copies, persons of copies, due days, queues, classes, loans, sums (0: none, else the sum and one) -/
abbrev St : Type := (Nat → Nat → Bool) × (Nat → Nat) × (Nat → Nat) × (Nat → Nat) × (Nat → List Nat) × (Nat → Nat) × (Nat → Nat) × (Nat → Nat → Nat)
def s_hd (s : St) : Nat → Nat → Bool := s.1
def s_rc (s : St) : Nat → Nat := s.2.1
def s_pe (s : St) : Nat → Nat := s.2.2.1
def s_du (s : St) : Nat → Nat := s.2.2.2.1
def s_qu (s : St) : Nat → List Nat := s.2.2.2.2.1
def s_cs (s : St) : Nat → Nat := s.2.2.2.2.2.1
def s_ln (s : St) : Nat → Nat := s.2.2.2.2.2.2.1
def s_sm (s : St) : Nat → Nat → Nat := s.2.2.2.2.2.2.2
def st0 : St := (fun _ _ => false, fun _ => 0, fun _ => 0, fun _ => 0, fun _ => [], fun _ => 0, fun _ => 28, fun _ _ => 0)
def s_ok (x : Act) (s : St) : Bool := match x with
  | (0, a, b, _) => !(s_hd s a b)
  | (1, a, b, _) => s_hd s a b
  | (2, a, _, _) => s_pe s a == 0
  | (3, a, b, _) => s_rc s a != 0 && (s_pe s a == 0 && ((s_qu s (s_rc s a)).headD b == b))
  | (4, a, _, _) => s_pe s a != 0
  | (5, a, b, _) => !((s_qu s a).contains b)
  | (6, a, b, _) => (s_qu s a).contains b
  | (7, _, _, _) => true
  | (8, a, b, _) => s_sm s a b != 0
  | (9, _, _, _) => true
  | (10, _, _, _) => true
  | _ => false
def s_do (x : Act) (s : St) : St := match x with
  | (0, a, b, _) => (va_up (s_hd s) a (va_up (s_hd s a) b true), s.2)
  | (1, a, b, _) => (va_up (s_hd s) a (va_up (s_hd s a) b false), s.2)
  | (2, a, b, _) => (s_hd s, va_up (s_rc s) a b, s.2.2)
  | (3, a, b, d) => (s_hd s, s_rc s, va_up (s_pe s) a b, va_up (s_du s) a (d + s_ln s (s_cs s (s_rc s a))), va_up (s_qu s) (s_rc s a) ((s_qu s (s_rc s a)).erase b), s_cs s, s_ln s, s_sm s)
  | (4, a, _, _) => (s_hd s, s_rc s, va_up (s_pe s) a 0, s.2.2.2)
  | (5, a, b, _) => (s_hd s, s_rc s, s_pe s, s_du s, va_up (s_qu s) a (s_qu s a ++ [b]), s.2.2.2.2.2)
  | (6, a, b, _) => (s_hd s, s_rc s, s_pe s, s_du s, va_up (s_qu s) a ((s_qu s a).erase b), s.2.2.2.2.2)
  | (7, a, b, d) => (s_hd s, s_rc s, s_pe s, s_du s, s_qu s, s_cs s, s_ln s, va_up (s_sm s) a (va_up (s_sm s a) b (d % 7 + 1)))
  | (8, a, b, _) => (s_hd s, s_rc s, s_pe s, s_du s, s_qu s, s_cs s, s_ln s, va_up (s_sm s) a (va_up (s_sm s a) b 0))
  | (9, a, b, _) => (s_hd s, s_rc s, s_pe s, s_du s, s_qu s, va_up (s_cs s) a b, s_ln s, s_sm s)
  | (10, a, b, _) => (s_hd s, s_rc s, s_pe s, s_du s, s_qu s, s_cs s, va_up (s_ln s) a b, s_sm s)
  | _ => s
def s_st (x : Act) (s : St) : St := if s_ok x s then s_do x s else s
def s_run (l : List Act) (s : St) : St := l.foldl (fun s x => s_st x s) s
/-! what an act may be; what states keep -/
def vact (x : Act) : Prop := x.2.2.2 ≤ 1000000 ∧ match x with
  | (0, a, b, _) => 1 ≤ a ∧ a ≤ 20 ∧ 1 ≤ b ∧ b ≤ 99
  | (1, a, b, _) => 1 ≤ a ∧ a ≤ 20 ∧ 1 ≤ b ∧ b ≤ 99
  | (2, a, b, _) => 1 ≤ a ∧ a ≤ 20 ∧ 1 ≤ b ∧ b ≤ 20
  | (3, a, b, _) => 1 ≤ a ∧ a ≤ 20 ∧ 1 ≤ b ∧ b ≤ 20
  | (4, a, _, _) => 1 ≤ a ∧ a ≤ 20
  | (5, a, b, _) => 1 ≤ a ∧ a ≤ 20 ∧ 1 ≤ b ∧ b ≤ 20
  | (6, a, b, _) => 1 ≤ a ∧ a ≤ 20 ∧ 1 ≤ b ∧ b ≤ 20
  | (7, a, b, _) => 1 ≤ a ∧ a ≤ 20 ∧ 1 ≤ b ∧ b ≤ 5
  | (8, a, b, _) => 1 ≤ a ∧ a ≤ 20 ∧ 1 ≤ b ∧ b ≤ 5
  | (9, a, b, _) => 1 ≤ a ∧ a ≤ 20 ∧ b ≤ 9
  | (10, a, b, _) => a ≤ 9 ∧ 1 ≤ b ∧ b ≤ 365
  | _ => False
def SW (s : St) : Prop := (∀ c, s_rc s c ≤ 20) ∧ (∀ c, s_pe s c ≤ 20) ∧ (∀ r, (s_qu s r).Nodup ∧ ∀ x ∈ s_qu s r, 1 ≤ x ∧ x ≤ 20) ∧ (∀ r, s_cs s r ≤ 9) ∧ (∀ k, s_ln s k ≤ 365) ∧ (∀ f b, s_sm s f b ≤ 7) ∧ (∀ r, s_hd s r 0 = false) ∧ (∀ c, s_du s c ≤ 1000365)
theorem vu_s {α : Type} (f : Nat → α) (k : Nat) (v : α) : va_up f k v k = v := by simp [va_up]
theorem vu_n {α : Type} (f : Nat → α) {k j : Nat} (v : α) (h : j ≠ k) : va_up f k v j = f j := by simp [va_up, h]
theorem vu_i {α : Type} (f : Nat → α) (k j : Nat) (v : α) : va_up f k v j = if j = k then v else f j := by simp [va_up]
theorem vu_p {α : Type} {P : α → Prop} {f : Nat → α} {k : Nat} {v : α} (hf : ∀ j, P (f j)) (hv : P v) : ∀ j, P (va_up f k v j) := fun j => by
  rw [vu_i]
  split
  · exact hv
  · exact hf j
theorem SW_0 : SW st0 := by
  refine ⟨fun _ => ?_, fun _ => ?_, fun _ => ⟨?_, ?_⟩, fun _ => ?_, fun _ => ?_, fun _ _ => ?_, fun _ => ?_, fun _ => ?_⟩ <;> simp [st0, s_rc, s_pe, s_qu, s_cs, s_ln, s_sm, s_hd, s_du]
theorem nodup_app {l : List Nat} {b : Nat} (h : l.Nodup) (hb : b ∉ l) : (l ++ [b]).Nodup := by
  rw [List.nodup_append]
  refine ⟨h, by simp, ?_⟩
  intro x hx y hy
  simp at hy
  subst hy
  exact fun e => hb (e ▸ hx)
theorem SW_st {x : Act} {s : St} (hv : vact x) (h : SW s) : SW (s_st x s) := by
  unfold s_st
  by_cases ho : s_ok x s = true
  · rw [if_pos ho]
    obtain ⟨h1, h2, h3, h4, h5, h6, h7, h8⟩ := h
    obtain ⟨so, a, b, d⟩ := x
    obtain ⟨hd, hv⟩ := hv
    simp only at hd
    match so, hv, ho with
    | 0, hv, ho =>
      have hv : 1 ≤ a ∧ a ≤ 20 ∧ 1 ≤ b ∧ b ≤ 99 := hv
      refine ⟨h1, h2, h3, h4, h5, h6, fun r => ?_, h8⟩
      show va_up (s_hd s) a (va_up (s_hd s a) b true) r 0 = false
      rw [vu_i]
      split
      · rw [vu_n _ _ (by omega)]
        exact h7 a
      · exact h7 r
    | 1, hv, ho =>
      have hv : 1 ≤ a ∧ a ≤ 20 ∧ 1 ≤ b ∧ b ≤ 99 := hv
      refine ⟨h1, h2, h3, h4, h5, h6, fun r => ?_, h8⟩
      show va_up (s_hd s) a (va_up (s_hd s a) b false) r 0 = false
      rw [vu_i]
      split
      · rw [vu_n _ _ (by omega)]
        exact h7 a
      · exact h7 r
    | 2, hv, ho =>
      have hv : 1 ≤ a ∧ a ≤ 20 ∧ 1 ≤ b ∧ b ≤ 20 := hv
      exact ⟨vu_p (P := fun z => z ≤ 20) h1 (by omega), h2, h3, h4, h5, h6, h7, h8⟩
    | 3, hv, ho =>
      have hv : 1 ≤ a ∧ a ≤ 20 ∧ 1 ≤ b ∧ b ≤ 20 := hv
      refine ⟨h1, vu_p (P := fun z => z ≤ 20) h2 (by omega), vu_p (P := fun z => List.Nodup z ∧ ∀ x ∈ z, 1 ≤ x ∧ x ≤ 20) h3 ⟨(h3 _).1.erase _, fun x hx => (h3 _).2 x (List.mem_of_mem_erase hx)⟩, h4, h5, h6, h7, vu_p (P := fun z => z ≤ 1000365) h8 ?_⟩
      have := h5 (s_cs s (s_rc s a))
      omega
    | 4, hv, ho =>
      have hv : 1 ≤ a ∧ a ≤ 20 := hv
      exact ⟨h1, vu_p (P := fun z => z ≤ 20) h2 (by omega), h3, h4, h5, h6, h7, h8⟩
    | 5, hv, ho =>
      have hv : 1 ≤ a ∧ a ≤ 20 ∧ 1 ≤ b ∧ b ≤ 20 := hv
      refine ⟨h1, h2, vu_p (P := fun z => List.Nodup z ∧ ∀ x ∈ z, 1 ≤ x ∧ x ≤ 20) h3 ⟨nodup_app (h3 a).1 ?_, fun x hx => ?_⟩, h4, h5, h6, h7, h8⟩
      · simpa [s_ok] using ho
      · rcases List.mem_append.mp hx with q | q
        · exact (h3 a).2 x q
        · simp at q
          omega
    | 6, hv, ho =>
      have hv : 1 ≤ a ∧ a ≤ 20 ∧ 1 ≤ b ∧ b ≤ 20 := hv
      exact ⟨h1, h2, vu_p (P := fun z => List.Nodup z ∧ ∀ x ∈ z, 1 ≤ x ∧ x ≤ 20) h3 ⟨(h3 _).1.erase _, fun x hx => (h3 _).2 x (List.mem_of_mem_erase hx)⟩, h4, h5, h6, h7, h8⟩
    | 7, hv, ho =>
      have hv : 1 ≤ a ∧ a ≤ 20 ∧ 1 ≤ b ∧ b ≤ 5 := hv
      refine ⟨h1, h2, h3, h4, h5, fun f j => ?_, h7, h8⟩
      show va_up (s_sm s) a (va_up (s_sm s a) b (d % 7 + 1)) f j ≤ 7
      exact vu_p (P := fun z : Nat → Nat => ∀ j, z j ≤ 7) h6 (vu_p (P := fun z => z ≤ 7) (h6 a) (by omega)) f j
    | 8, hv, ho =>
      have hv : 1 ≤ a ∧ a ≤ 20 ∧ 1 ≤ b ∧ b ≤ 5 := hv
      refine ⟨h1, h2, h3, h4, h5, fun f j => ?_, h7, h8⟩
      show va_up (s_sm s) a (va_up (s_sm s a) b 0) f j ≤ 7
      exact vu_p (P := fun z : Nat → Nat => ∀ j, z j ≤ 7) h6 (vu_p (P := fun z => z ≤ 7) (h6 a) (by omega)) f j
    | 9, hv, ho =>
      have hv : 1 ≤ a ∧ a ≤ 20 ∧ b ≤ 9 := hv
      exact ⟨h1, h2, h3, vu_p (P := fun z => z ≤ 9) h4 (by omega), h5, h6, h7, h8⟩
    | 10, hv, ho =>
      have hv : a ≤ 9 ∧ 1 ≤ b ∧ b ≤ 365 := hv
      exact ⟨h1, h2, h3, h4, vu_p (P := fun z => z ≤ 365) h5 (by omega), h6, h7, h8⟩
    | k + 11, hv, ho => exact hv.elim
  · rw [if_neg ho]
    exact h
/-- no more than n different numbers below n -/
theorem nodup_len : ∀ (n : Nat) (l : List Nat), l.Nodup → (∀ x ∈ l, x < n) → l.length ≤ n
  | 0, l, _, h => by
    cases l with
    | nil => simp
    | cons a t => exact absurd (h a (by simp)) (by omega)
  | n + 1, l, hn, h => by
    have h2 := nodup_len n (l.erase n) (hn.erase n) (fun x hx => by
      have h3 := (List.Nodup.mem_erase_iff hn).mp hx
      have h4 := h x h3.2
      have h5 : x ≠ n := h3.1
      omega)
    by_cases hm : n ∈ l
    · rw [List.length_erase_of_mem hm] at h2
      omega
    · rw [List.erase_of_not_mem hm] at h2
      omega
theorem qu_len {l : List Nat} (h : l.Nodup) (h2 : ∀ x ∈ l, 1 ≤ x ∧ x ≤ 20) : l.length ≤ 20 := by
  have h3 := nodup_len 20 (l.map (fun x => x - 1)) (by
    rw [List.Nodup, List.pairwise_map]
    exact h.imp_of_mem (fun {a b} ha hb q e => q (by have := h2 a ha; have := h2 b hb; omega))) (fun x hx => by
    obtain ⟨y, hy, rfl⟩ := List.mem_map.mp hx
    have := h2 y hy
    omega)
  simpa using h3
theorem qu_len2 {l : List Nat} {b : Nat} (h : l.Nodup) (h2 : ∀ x ∈ l, 1 ≤ x ∧ x ≤ 20) (hb : b ∉ l) (h3 : 1 ≤ b ∧ b ≤ 20) : l.length < 20 := by
  have h4 := qu_len (nodup_app h hb) (fun x hx => by
    rcases List.mem_append.mp hx with q | q
    · exact h2 x q
    · simp at q
      omega)
  simp at h4
  omega
