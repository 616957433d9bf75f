def vaI (A : Nat) : Int32 := nI A - 1
theorem vaI_0 : vaI 0 = -1 := by decide
theorem vaI_s (A : Nat) : vaI (A + 1) = nI A := nI_pred A
theorem vaI_t {A : Nat} (h : A < 1000) : (vaI A).toInt = (A : Int) - 1 := by
  cases A with
  | zero => decide
  | succ A =>
    rw [vaI_s, nI_toInt (by omega)]
    omega
theorem vaI_1 (A : Nat) : vaI A + 1 = vaI (A + 1) := by
  rw [vaI_s]
  exact Int32.sub_add_cancel _ _
theorem vaI_lt {A B : Nat} (hA : A < 1000) (hB : B < 1000) : vaI A < vaI B ↔ A < B := by
  rw [i_lt, vaI_t hA, vaI_t hB]
  omega
theorem vaI_eq {A B : Nat} (hA : A < 1000) (hB : B < 1000) : vaI A = vaI B ↔ A = B := by
  rw [i_eq, vaI_t hA, vaI_t hB]
  omega
def WW (l : List Act) (A B : Nat) : Prop := Vd l (pX (vaI A) (vaI B))
def outN (A B : Nat) : Nat := (if A = 0 then 0 else 1) + (if B = 0 ∨ B = A then 0 else 1)
def SS (A B : Nat) : Nat → Nat → Prop := fun A' B' => B' ≤ A' ∧ (A' < A ∨ (A' = A ∧ B' < B))
def Inv (l : List Act) (r : Nat) (S : Nat → Nat → Prop) : Prop := r ≤ 3 ∧ (r = 3 ∨ ∃ A B, S A B ∧ WW l A B ∧ outN A B = r) ∧ ∀ A B, S A B → WW l A B → r ≤ outN A B
theorem m_gv {l : List Act} (hv : allv l) {w : Mod} (hL : RRM w l) (a b : Int32) : ∃ w2, B_M_go_0 1000000 a b (-1) w = some w2 ∧ KC w w2 ∧ (m_vd w2 = 0 ↔ Vd l (pX a b)) := by
  have h200 := hL.2.1
  obtain ⟨w2, e1, ⟨a1, a2, a3, a4, a5, a6⟩, e3⟩ := m_go0 hv hL 1000000 a b (-1)
  have hc : ∀ j, j < l.length → pG l 1000000 a b j = pX a b j := fun j hj => by
    have h := pD_all hv j hj
    have h2 : pD l 1000000 j = true := h
    simp [pG, pX, h2]
  have hg := gvd_le l (pG l 1000000 a b) l.length
  refine ⟨w2, e1, e3, ?_⟩
  rw [a3, n0 (by omega), gvd_congr _ hc, gvd_0]
  exact Iff.rfl
theorem m_l61 {l : List Act} (hv : allv l) {w : Mod} (hL : RRM w l) {A B r o : Nat} (hA : A < 1000) (hB : B < 1000) (hr : r ≤ 3) (ho : o ≤ 2) {t0 t1 : Int32} (ht : t1 + t0 = nI o) (k21 : Int32 → Int32 → Mod → Option (Int32 × Mod)) (k31 : Int32 → Int32 → Int32 → Mod → Option (Int32 × Mod)) : ∃ q w2, B_M_least_61 k21 k31 (nI r) (vaI A) (vaI B) t0 t1 w = k31 (nI q) (vaI A) (vaI (B + 1)) w2 ∧ KC w w2 ∧ ((r ≤ o ∧ q = r) ∨ (o < r ∧ WW l A B ∧ q = o) ∨ (¬ WW l A B ∧ q = r)) := by
  unfold B_M_least_61 B_M_least_93 B_M_least_94
  rw [ht, vaI_1]
  by_cases h : r ≤ o
  · rw [if_pos (nI_le h (by omega))]
    exact ⟨r, w, rfl, KC.rf, Or.inl ⟨h, rfl⟩⟩
  · rw [if_neg (nI_ge (by omega) (by omega))]
    obtain ⟨w2, e1, e2, e3⟩ := m_gv hv hL (vaI A) (vaI B)
    rw [e1, bs]
    by_cases z : m_vd w2 = 0
    · rw [if_pos z]
      exact ⟨o, w2, rfl, e2, Or.inr (Or.inl ⟨by omega, e3.mp z, rfl⟩)⟩
    · rw [if_neg z]
      exact ⟨r, w2, rfl, e2, Or.inr (Or.inr ⟨fun y => z (e3.mpr y), rfl⟩)⟩
theorem outN_le (A B : Nat) : outN A B ≤ 2 := by
  unfold outN
  split <;> split <;> omega
theorem m_l31 {l : List Act} (hv : allv l) (hn : l.length ≤ 30) {A : Nat} (hA : A ≤ 100) (k21 : Int32 → Int32 → Mod → Option (Int32 × Mod)) : ∀ (fu B r : Nat) (w : Mod), RRM w l → B ≤ A + 1 → A + 1 - B < fu → Inv l r (SS A B) → ∃ q w2, B_M_least_31 k21 fu (nI r) (vaI A) (vaI B) w = k21 (nI q) (vaI (A + 1)) w2 ∧ KC w w2 ∧ Inv l q (SS (A + 1) 0)
  | 0, B, _, _, _, _, h2, _ => absurd h2 (by omega)
  | fu + 1, B, r, w, hL, h1, h2, hI => by
    show ∃ q w2, B_M_least_31s _ _ _ _ _ _ = _ ∧ _
    unfold B_M_least_31s
    by_cases hB : A < B
    · rw [if_pos ((vaI_lt (by omega) (by omega)).mpr hB), vaI_1]
      refine ⟨r, w, rfl, KC.rf, hI.1, ?_, fun A' B' hS => hI.2.2 A' B' ⟨hS.1, by have := hS.2; have := hS.1; omega⟩⟩
      rcases hI.2.1 with h | ⟨A', B', a1, a2, a3⟩
      · exact Or.inl h
      · exact Or.inr ⟨A', B', ⟨a1.1, by have := a1.2; omega⟩, a2, a3⟩
    · rw [if_neg (fun z => hB ((vaI_lt (by omega) (by omega)).mp z))]
      have hm : ∃ t0 t1 : Int32, t1 + t0 = nI (outN A B) ∧ (if vaI A = (-1 : Int32) then B_M_least_46 k21 (B_M_least_31 k21 fu) (nI r) (vaI A) (vaI B) 0 w else B_M_least_46 k21 (B_M_least_31 k21 fu) (nI r) (vaI A) (vaI B) 1 w) = B_M_least_61 k21 (B_M_least_31 k21 fu) (nI r) (vaI A) (vaI B) t0 t1 w := by
        unfold B_M_least_46 B_M_least_56 outN
        rw [← vaI_0]
        by_cases c1 : A = 0
        · have c2 : B = 0 := by omega
          rw [if_pos ((vaI_eq (by omega) (by omega)).mpr c1), if_pos ((vaI_eq (by omega) (by omega)).mpr c2), if_pos c1, if_pos (Or.inl c2)]
          exact ⟨0, 0, rfl, rfl⟩
        · rw [if_neg (fun z => c1 ((vaI_eq (by omega) (by omega)).mp z)), if_neg c1]
          by_cases c2 : B = 0
          · rw [if_pos ((vaI_eq (by omega) (by omega)).mpr c2), if_pos (Or.inl c2)]
            exact ⟨0, 1, rfl, rfl⟩
          · rw [if_neg (fun z => c2 ((vaI_eq (by omega) (by omega)).mp z))]
            by_cases c3 : B = A
            · rw [if_pos ((vaI_eq (by omega) (by omega)).mpr c3), if_pos (Or.inr c3)]
              exact ⟨0, 1, rfl, rfl⟩
            · rw [if_neg (fun z => c3 ((vaI_eq (by omega) (by omega)).mp z)), if_neg (fun z => z.elim c2 c3)]
              exact ⟨1, 1, rfl, rfl⟩
      obtain ⟨t0, t1, ht, hm⟩ := hm
      rw [hm]
      obtain ⟨q, w2, f1, f2, f3⟩ := m_l61 hv hL (A := A) (B := B) (r := r) (by omega) (by omega) hI.1 (outN_le A B) ht k21 (B_M_least_31 k21 fu)
      have ho := outN_le A B
      have hI2 : Inv l q (SS A (B + 1)) := by
        have old : ∀ A' B', SS A (B + 1) A' B' → SS A B A' B' ∨ (A' = A ∧ B' = B) := by
          intro A' B' hS
          have h3 := hS.1
          have h4 := hS.2
          by_cases e : A' = A ∧ B' = B
          · exact Or.inr e
          · exact Or.inl ⟨h3, by omega⟩
        have up : ∀ A' B', SS A B A' B' → SS A (B + 1) A' B' := fun A' B' hS => ⟨hS.1, by have := hS.2; omega⟩
        rcases f3 with ⟨g1, g2⟩ | ⟨g1, g2, g3⟩ | ⟨g1, g2⟩
        · subst g2
          refine ⟨hI.1, ?_, fun A' B' hS hW => ?_⟩
          · rcases hI.2.1 with h | ⟨A', B', a1, a2, a3⟩
            · exact Or.inl h
            · exact Or.inr ⟨A', B', up _ _ a1, a2, a3⟩
          · rcases old A' B' hS with h | ⟨rfl, rfl⟩
            · exact hI.2.2 A' B' h hW
            · exact g1
        · subst g3
          refine ⟨by omega, Or.inr ⟨A, B, ⟨by omega, by omega⟩, g2, rfl⟩, fun A' B' hS hW => ?_⟩
          rcases old A' B' hS with h | ⟨rfl, rfl⟩
          · have := hI.2.2 A' B' h hW
            omega
          · exact Nat.le_refl _
        · subst g2
          refine ⟨hI.1, ?_, fun A' B' hS hW => ?_⟩
          · rcases hI.2.1 with h | ⟨A', B', a1, a2, a3⟩
            · exact Or.inl h
            · exact Or.inr ⟨A', B', up _ _ a1, a2, a3⟩
          · rcases old A' B' hS with h | ⟨rfl, rfl⟩
            · exact hI.2.2 A' B' h hW
            · exact absurd hW g1
      obtain ⟨q2, w3, k1, k2, k3⟩ := m_l31 hv hn hA k21 fu (B + 1) q w2 (hL.kc f2) (by omega) (by omega) hI2
      exact ⟨q2, w3, f1.trans k1, f2.tr k2, k3⟩
theorem m_l21 {l : List Act} (hv : allv l) (hn : l.length ≤ 30) : ∀ (fu A r : Nat) (w : Mod), RRM w l → A ≤ l.length + 1 → l.length + 1 - A < fu → Inv l r (SS A 0) → ∃ q w2, B_M_least_21 fu (nI r) (vaI A) w = some (nI q, w2) ∧ KC w w2 ∧ Inv l q (SS (l.length + 1) 0)
  | 0, A, _, _, _, _, h2, _ => absurd h2 (by omega)
  | fu + 1, A, r, w, hL, h1, h2, hI => by
    show ∃ q w2, B_M_least_21s _ _ _ _ = _ ∧ _
    unfold B_M_least_21s
    rw [hL.1]
    by_cases hA : l.length + 1 ≤ A
    · have : A = l.length + 1 := by omega
      subst this
      rw [if_pos (by rw [vaI_s]; exact nI_le (Nat.le_refl _) (by omega))]
      exact ⟨r, w, rfl, KC.rf, hI⟩
    · rw [if_neg (by rw [i_le, vaI_t (by omega), nI_toInt (by omega)]; omega), ← vaI_0]
      obtain ⟨q, w2, f1, f2, f3⟩ := m_l31 hv hn (A := A) (by omega) (B_M_least_21 fu) FU 0 r w hL (by omega) (by unfold FU; omega) hI
      obtain ⟨q2, w3, k1, k2, k3⟩ := m_l21 hv hn fu (A + 1) q w2 (hL.kc f2) (by omega) (by omega) f3
      exact ⟨q2, w3, f1.trans k1, f2.tr k2, k3⟩
theorem Vd_congr {l : List Act} {p q : Nat → Bool} (h : ∀ j, j < l.length → p j = q j) : Vd l p ↔ Vd l q := by
  unfold Vd
  constructor
  · exact fun z k hk y => z k hk ((bad_congr (fun j hj => h j (by omega))).mpr y)
  · exact fun z k hk y => z k hk ((bad_congr (fun j hj => h j (by omega))).mp y)
theorem Inv_LA {l : List Act} (hn : l.length ≤ 30) {r : Nat} (h : Inv l r (SS (l.length + 1) 0)) : LA l (nI r) := by
  obtain ⟨h1, h2, h3⟩ := h
  have w00 : WW l 0 0 ↔ Vd l (pX (-1) (-1)) := by
    unfold WW
    rw [vaI_0]
  have wi0 : ∀ i, WW l (i + 1) 0 ↔ V1 l i := by
    intro i
    unfold WW V1
    rw [vaI_0, vaI_s]
  have wii : ∀ i, WW l (i + 1) (i + 1) ↔ V1 l i := by
    intro i
    unfold WW V1
    rw [vaI_s]
    refine Vd_congr (fun j hj => ?_)
    have : ¬ nI j = (-1 : Int32) := n_m1 (by omega)
    simp [pX, this]
  have wij : ∀ i j, WW l (i + 1) (j + 1) ↔ V2 l j i := by
    intro i j
    unfold WW V2
    rw [vaI_s, vaI_s]
    refine Vd_congr (fun k hk => ?_)
    simp [pX, and_comm]
  have o00 : outN 0 0 = 0 := rfl
  have oi0 : ∀ i, outN (i + 1) 0 = 1 := fun i => by simp [outN]
  have s00 : SS (l.length + 1) 0 0 0 := ⟨by omega, by omega⟩
  have c0 : Vd l (pX (-1) (-1)) → r = 0 := fun y => by
    have := h3 0 0 s00 (w00.mpr y)
    rw [o00] at this
    omega
  have c1 : ∀ i, i < l.length → V1 l i → r ≤ 1 := fun i hi y => by
    have := h3 (i + 1) 0 ⟨by omega, by omega⟩ ((wi0 i).mpr y)
    rw [oi0] at this
    exact this
  have c2 : ∀ i j, i < j → j < l.length → V2 l i j → r ≤ 2 := fun i j hij hj y => by
    have := h3 (j + 1) (i + 1) ⟨by omega, by omega⟩ ((wij j i).mpr y)
    have := outN_le (j + 1) (i + 1)
    omega
  rcases h2 with h2 | ⟨A, B, a1, a2, a3⟩
  · subst h2
    refine Or.inr (Or.inr (Or.inr ⟨rfl, fun y => absurd (c0 y) (by omega), fun i hi y => absurd (c1 i hi y) (by omega), fun i j hij hj y => absurd (c2 i j hij hj y) (by omega)⟩))
  · have b1 := a1.1
    have b3 := a1.2
    cases A with
    | zero =>
      have : B = 0 := by omega
      subst this
      rw [o00] at a3
      subst a3
      exact Or.inl ⟨rfl, w00.mp a2⟩
    | succ i =>
      cases B with
      | zero =>
        rw [oi0] at a3
        subst a3
        exact Or.inr (Or.inl ⟨rfl, fun y => absurd (c0 y) (by omega), i, by omega, (wi0 i).mp a2⟩)
      | succ j =>
        by_cases e : j = i
        · subst e
          have : r = 1 := by
            rw [← a3]
            simp [outN]
          subst this
          exact Or.inr (Or.inl ⟨rfl, fun y => absurd (c0 y) (by omega), j, by omega, (wii j).mp a2⟩)
        · have : r = 2 := by
            rw [← a3]
            simp [outN, e]
          subst this
          refine Or.inr (Or.inr (Or.inl ⟨rfl, fun y => absurd (c0 y) (by omega), fun k hk y => absurd (c1 k hk y) (by omega), j, i, by omega, by omega, (wij i j).mp a2⟩))
theorem m_least {l : List Act} (hv : allv l) {w : Mod} (hL : RRM w l) (hn : l.length ≤ 30) : ∃ r w2, B_M_least_0 w = some (r, w2) ∧ KC w w2 ∧ LA l r := by
  unfold B_M_least_0
  have ec : m_ct (m_th_w w 0) = nI l.length := hL.1
  rw [ec, if_pos (by rw [show (30 : Int32) = nI 30 from rfl]; exact nI_le hn (by omega)), ← vaI_0]
  obtain ⟨q, w2, f1, f2, f3⟩ := m_l21 hv hn FU 0 3 (m_th_w w 0) (hL.kc KC.th) (by omega) (by unfold FU; omega) ⟨by omega, Or.inl rfl, fun A' B' hS => by have := hS.2; omega⟩
  exact ⟨nI q, w2, f1, KC.th.tr f2, Inv_LA hn f3⟩
theorem m_leastN {l : List Act} {w : Mod} (hL : RRM w l) (hn : ¬ l.length ≤ 30) : AnsM (B_M_least_0 w) (-9) w := by
  have h200 := hL.2.1
  unfold B_M_least_0
  have ec : m_ct (m_th_w w 0) = nI l.length := hL.1
  rw [ec, if_neg (by rw [show (30 : Int32) = nI 30 from rfl]; exact nI_ge (by omega) (by omega))]
  exact ⟨_, rfl, KC.th⟩
