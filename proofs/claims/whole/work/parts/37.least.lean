/-! least -/
def pX (a b : Int32) : Nat → Bool := fun k => decide (¬ nI k = a ∧ ¬ nI k = b)
def bad (l : List Act) (p : Nat → Bool) (k : Nat) : Prop := p k = true ∧ gok l p k = false
def Vd (l : List Act) (p : Nat → Bool) : Prop := ∀ k, k < l.length → ¬ bad l p k
theorem bad_congr {l : List Act} {p q : Nat → Bool} {k : Nat} (h : ∀ j, j ≤ k → p j = q j) : bad l p k ↔ bad l q k := by
  unfold bad
  rw [h k (Nat.le_refl _), gok_congr (fun j hj => h j (by omega))]
theorem gvd_0 {l : List Act} {p : Nat → Bool} : ∀ n, gvd l p n = 0 ↔ ∀ k, k < n → ¬ bad l p k
  | 0 => ⟨fun _ k hk => absurd hk (by omega), fun _ => rfl⟩
  | n + 1 => by
    have ih := gvd_0 (l := l) (p := p) n
    show gvd l p n + (if p n = true ∧ gok l p n = false then 1 else 0) = 0 ↔ _
    by_cases hb : p n = true ∧ gok l p n = false
    · rw [if_pos hb]
      exact ⟨fun h => absurd h (by omega), fun h => absurd hb (h n (by omega))⟩
    · rw [if_neg hb, Nat.add_zero, ih]
      constructor
      · intro h k hk
        by_cases e : k = n
        · rw [e]
          exact hb
        · exact h k (by omega)
      · exact fun h k hk => h k (by omega)
def fv (l : List Act) (p : Nat → Bool) : Nat → Nat → Int32
  | 0, _ => -1
  | m + 1, k => if p k = true ∧ gok l p k = false then nI k else fv l p m (k + 1)
theorem fv_c (l : List Act) (p : Nat → Bool) : ∀ m k, (fv l p m k = -1 ∧ ∀ j, k ≤ j → j < k + m → ¬ bad l p j) ∨ ∃ e, k ≤ e ∧ e < k + m ∧ fv l p m k = nI e ∧ bad l p e
  | 0, k => Or.inl ⟨rfl, fun j h1 h2 => by omega⟩
  | m + 1, k => by
    show ((if p k = true ∧ gok l p k = false then nI k else fv l p m (k + 1)) = -1 ∧ _) ∨ ∃ e, k ≤ e ∧ e < k + (m + 1) ∧ (if p k = true ∧ gok l p k = false then nI k else fv l p m (k + 1)) = nI e ∧ _
    by_cases hb : p k = true ∧ gok l p k = false
    · rw [if_pos hb]
      exact Or.inr ⟨k, by omega, by omega, rfl, hb⟩
    · rw [if_neg hb]
      rcases fv_c l p m (k + 1) with ⟨h1, h2⟩ | ⟨e, h1, h2, h3, h4⟩
      · refine Or.inl ⟨h1, fun j h3 h4 => ?_⟩
        by_cases e : j = k
        · rw [e]
          exact hb
        · exact h2 j (by omega) (by omega)
      · exact Or.inr ⟨e, by omega, by omega, h3, h4⟩
theorem p_fvl {l : List Act} (hv : allv l) (a b : Int32) : ∀ (fu m k : Nat) (u : Lib), RR u l → k + m = l.length → m < fu → RS u (gst l (pX a b) k) → Ans (B_L_firstVoidWithout_9 fu a b (nI k) u) (fv l (pX a b) m k) u
  | 0, m, k, _, _, _, h2, _ => absurd h2 (by omega)
  | fu + 1, 0, k, u, hL, h1, h2, hR => by
    have h200 := hL.2.1
    show Ans (B_L_firstVoidWithout_9s _ _ _ _ _) _ _
    unfold B_L_firstVoidWithout_9s
    rw [p_size, bs, hL.1, if_pos (nI_le (by omega) (by omega))]
    exact ⟨u, rfl, KP.rf⟩
  | fu + 1, m + 1, k, u, hL, h1, h2, hR => by
    have h200 := hL.2.1
    show Ans (B_L_firstVoidWithout_9s _ _ _ _ _) (if pX a b k = true ∧ gok l (pX a b) k = false then nI k else fv l (pX a b) m (k + 1)) _
    unfold B_L_firstVoidWithout_9s B_L_firstVoidWithout_47
    rw [p_size, bs, hL.1, if_neg (nI_ge (by omega) (by omega)), nI_1]
    have skip : pX a b k = false → Ans (B_L_firstVoidWithout_9 fu a b (nI (k + 1)) u) (if pX a b k = true ∧ gok l (pX a b) k = false then nI k else fv l (pX a b) m (k + 1)) u := by
      intro hp
      rw [if_neg (fun z => by rw [hp] at z; cases z.1)]
      exact p_fvl hv a b fu m (k + 1) u hL (by omega) (by omega) (by rw [gst_n hp]; exact hR)
    by_cases q1 : nI k = a
    · rw [if_pos q1]
      exact skip (by simp [pX, q1])
    rw [if_neg q1]
    by_cases q2 : nI k = b
    · rw [if_pos q2]
      exact skip (by simp [pX, q2])
    rw [if_neg q2]
    have hp : pX a b k = true := by simp [pX, q1, q2]
    obtain ⟨u2, e1, e2, e3⟩ := p_step hL hv hR (show k < l.length by omega) hp
    rw [e1, bs]
    by_cases ho : gok l (pX a b) k = true
    · rw [b2_t ho, if_neg (show ¬ ((1 : Int32), u2).1 = 0 from ne10), if_neg (fun z => by rw [ho] at z; cases z.2)]
      obtain ⟨u3, f1, f2⟩ := p_fvl hv a b fu m (k + 1) u2 (hL.kp e3) (by omega) (by omega) e2
      exact ⟨u3, f1, e3.tr f2⟩
    · rw [b2_f ho, if_pos (show ((0 : Int32), u2).1 = 0 from rfl), if_pos ⟨hp, by simpa using ho⟩]
      exact ⟨u2, rfl, e3⟩
theorem p_fv {l : List Act} (hv : allv l) {u : Lib} (hL : RR u l) (a b : Int32) : Ans (B_L_firstVoidWithout_0 a b u) (fv l (pX a b) l.length 0) u := by
  unfold B_L_firstVoidWithout_0
  have h200 := hL.2.1
  obtain ⟨u1, e1, e2, e3⟩ := p_clear u
  rw [e1, bs]
  obtain ⟨u3, f1, f2⟩ := p_fvl hv a b FU l.length 0 u1 (hL.kp e3) (by omega) (by unfold FU; omega) e2
  exact ⟨u3, f1, e3.tr f2⟩
/-- the class's first void act, or none -/
theorem p_fvc {l : List Act} (hv : allv l) {u : Lib} (hL : RR u l) (a b : Int32) : (∃ u2, B_L_firstVoidWithout_0 a b u = some (-1, u2) ∧ KP u u2 ∧ Vd l (pX a b)) ∨ ∃ e u2, e < l.length ∧ B_L_firstVoidWithout_0 a b u = some (nI e, u2) ∧ KP u u2 ∧ bad l (pX a b) e := by
  obtain ⟨u2, e1, e2⟩ := p_fv hv hL a b
  rcases fv_c l (pX a b) l.length 0 with ⟨h1, h2⟩ | ⟨e, h1, h2, h3, h4⟩
  · rw [h1] at e1
    exact Or.inl ⟨u2, e1, e2, fun k hk => h2 k (by omega) (by omega)⟩
  · rw [h3] at e1
    exact Or.inr ⟨e, u2, by omega, e1, e2, h4⟩
def V1 (l : List Act) (i : Nat) : Prop := Vd l (pX (nI i) (-1))
def V2 (l : List Act) (i j : Nat) : Prop := Vd l (pX (nI i) (nI j))
theorem p_one {l : List Act} (hv : allv l) (hn : l.length ≤ 30) {e : Nat} (he : e < l.length) : ∀ (fu i : Nat) (u : Lib), RR u l → i ≤ e + 1 → e + 1 - i < fu → (∀ k, k < i → ¬ V1 l k) → ∃ r u2, B_L_oneLessIsEnough_2 fu (nI e) (nI i) u = some (b2 r, u2) ∧ KP u u2 ∧ ((r = true ∧ ∃ k, k ≤ e ∧ V1 l k) ∨ (r = false ∧ ∀ k, k ≤ e → ¬ V1 l k))
  | 0, i, _, _, _, h2, _ => absurd h2 (by omega)
  | fu + 1, i, u, hL, h1, h2, h3 => by
    show ∃ r u2, B_L_oneLessIsEnough_2s _ _ _ _ = _ ∧ _
    unfold B_L_oneLessIsEnough_2s
    by_cases hi : e < i
    · rw [if_pos (nI_lt hi (by omega))]
      exact ⟨false, u, rfl, KP.rf, Or.inr ⟨rfl, fun k hk => h3 k (by omega)⟩⟩
    · rw [if_neg (nI_nlt (by omega) (by omega)), nI_1]
      rcases p_fvc hv hL (nI i) (-1) with ⟨u2, f1, f2, f3⟩ | ⟨z, u2, z1, f1, f2, f3⟩
      · rw [f1, bs, if_pos (show ((-1 : Int32), u2).1 = -1 from rfl)]
        exact ⟨true, u2, rfl, f2, Or.inl ⟨rfl, i, by omega, f3⟩⟩
      · rw [f1, bs, if_neg (show ¬ (nI z, u2).1 = -1 from n_m1 (by omega))]
        obtain ⟨r, u3, g1, g2, g3⟩ := p_one hv hn he fu (i + 1) u2 (hL.kp f2) (by omega) (by omega) (fun k hk => by
          by_cases q : k = i
          · rw [q]
            exact fun y => y z z1 f3
          · exact h3 k (by omega))
        exact ⟨r, u3, g1, f2.tr g2, g3⟩
theorem p_two19 {l : List Act} (hv : allv l) (hn : l.length ≤ 30) {e i nv : Nat} (hi : i < l.length) (hnv : nv < l.length) (k2 : Int32 → Int32 → Lib → Option (Int32 × Lib)) : ∀ (fu j : Nat) (u : Lib), RR u l → j ≤ l.length → nv + 1 - j < fu → (∃ u2, B_L_twoLessAreEnough_19 k2 fu (nI e) (nI i) (nI nv) (nI j) u = some (1, u2) ∧ KP u u2 ∧ ∃ q, j ≤ q ∧ q ≤ nv ∧ V2 l i q) ∨ (∃ u2, B_L_twoLessAreEnough_19 k2 fu (nI e) (nI i) (nI nv) (nI j) u = k2 (nI e) (nI (i + 1)) u2 ∧ KP u u2 ∧ ∀ q, j ≤ q → q ≤ nv → ¬ V2 l i q)
  | 0, j, _, _, _, h2 => absurd h2 (by omega)
  | fu + 1, j, u, hL, h1, h2 => by
    show (∃ u2, B_L_twoLessAreEnough_19s _ _ _ _ _ _ _ = _ ∧ _) ∨ (∃ u2, B_L_twoLessAreEnough_19s _ _ _ _ _ _ _ = _ ∧ _)
    unfold B_L_twoLessAreEnough_19s
    by_cases hj : nv < j
    · rw [if_pos (nI_lt hj (by omega)), nI_1]
      exact Or.inr ⟨u, rfl, KP.rf, fun q h3 h4 => by omega⟩
    · rw [if_neg (nI_nlt (by omega) (by omega))]
      rcases p_fvc hv hL (nI i) (nI j) with ⟨u2, f1, f2, f3⟩ | ⟨z, u2, z1, f1, f2, f3⟩
      · rw [f1, bs, if_pos (show ((-1 : Int32), u2).1 = -1 from rfl)]
        exact Or.inl ⟨u2, rfl, f2, j, by omega, by omega, f3⟩
      · rw [f1, bs, if_neg (show ¬ (nI z, u2).1 = -1 from n_m1 (by omega)), nI_1 j]
        rcases p_two19 hv hn hi hnv k2 fu (j + 1) u2 (hL.kp f2) (by omega) (by omega) with ⟨u3, g1, g2, q, g3, g4, g5⟩ | ⟨u3, g1, g2, g3⟩
        · exact Or.inl ⟨u3, g1, f2.tr g2, q, by omega, g4, g5⟩
        · refine Or.inr ⟨u3, g1, f2.tr g2, fun q h3 h4 => ?_⟩
          by_cases y : q = j
          · rw [y]
            exact fun w => w z z1 f3
          · exact g3 q (by omega) h4
theorem p_two {l : List Act} (hv : allv l) (hn : l.length ≤ 30) {e : Nat} (he : e < l.length) (hno : ∀ k, k < l.length → ¬ V1 l k) : ∀ (fu i : Nat) (u : Lib), RR u l → i ≤ e + 1 → e + 1 - i < fu → (∀ k q, k < i → k < q → q < l.length → ¬ V2 l k q) → ∃ r u2, B_L_twoLessAreEnough_2 fu (nI e) (nI i) u = some (b2 r, u2) ∧ KP u u2 ∧ ((r = true ∧ ∃ k q, k < q ∧ q < l.length ∧ V2 l k q) ∨ (r = false ∧ ∀ k q, k ≤ e → k < q → q < l.length → ¬ V2 l k q))
  | 0, i, _, _, _, h2, _ => absurd h2 (by omega)
  | fu + 1, i, u, hL, h1, h2, h3 => by
    show ∃ r u2, B_L_twoLessAreEnough_2s _ _ _ _ = _ ∧ _
    unfold B_L_twoLessAreEnough_2s
    by_cases hi : e < i
    · rw [if_pos (nI_lt hi (by omega))]
      exact ⟨false, u, rfl, KP.rf, Or.inr ⟨rfl, fun k q hk => h3 k q (by omega)⟩⟩
    · rw [if_neg (nI_nlt (by omega) (by omega)), nI_1]
      rcases p_fvc hv hL (nI i) (-1) with ⟨u2, f1, f2, f3⟩ | ⟨z, u2, z1, f1, f2, f3⟩
      · exact absurd f3 (hno i (by omega))
      · rw [f1, bs]
        have far : ∀ q, z < q → q < l.length → ¬ V2 l i q := by
          intro q h4 h5 y
          refine y z z1 ((bad_congr (fun j hj => ?_)).mp f3)
          have a1 : ¬ nI j = nI q := fun w => by
            have := (nI_eq (by omega) (by omega)).mp w
            omega
          have a2 : ¬ nI j = (-1 : Int32) := n_m1 (by omega)
          simp [pX, a1, a2]
        rcases p_two19 hv hn (e := e) (i := i) (nv := z) (by omega) z1 (B_L_twoLessAreEnough_2 fu) FU (i + 1) u2 (hL.kp f2) (by omega) (by unfold FU; omega) with ⟨u3, g1, g2, q, g3, g4, g5⟩ | ⟨u3, g1, g2, g3⟩
        · exact ⟨true, u3, g1, f2.tr g2, Or.inl ⟨rfl, i, q, by omega, by omega, g5⟩⟩
        · obtain ⟨r, u4, k1, k2, k3⟩ := p_two hv hn he hno fu (i + 1) u3 ((hL.kp f2).kp g2) (by omega) (by omega) (fun k q hk h4 h5 => by
            by_cases y : k = i
            · subst y
              by_cases w : q ≤ z
              · exact g3 q (by omega) w
              · exact far q (by omega) h5
            · exact h3 k q (by omega) h4 h5)
          exact ⟨r, u4, g1.trans k1, (f2.tr g2).tr k2, k3⟩
/-- what least must answer -/
def LA (l : List Act) (r : Int32) : Prop := (r = 0 ∧ Vd l (pX (-1) (-1))) ∨ (r = 1 ∧ ¬ Vd l (pX (-1) (-1)) ∧ ∃ i, i < l.length ∧ V1 l i) ∨ (r = 2 ∧ ¬ Vd l (pX (-1) (-1)) ∧ (∀ i, i < l.length → ¬ V1 l i) ∧ ∃ i j, i < j ∧ j < l.length ∧ V2 l i j) ∨ (r = 3 ∧ ¬ Vd l (pX (-1) (-1)) ∧ (∀ i, i < l.length → ¬ V1 l i) ∧ ∀ i j, i < j → j < l.length → ¬ V2 l i j)
theorem LA_u {l : List Act} {r q : Int32} (h : LA l r) (k : LA l q) : r = q := by
  rcases h with ⟨a1, a2⟩ | ⟨a1, a2, i, a3, a4⟩ | ⟨a1, a2, a3, i, j, a4, a5, a6⟩ | ⟨a1, a2, a3, a4⟩ <;> rcases k with ⟨b1, b2⟩ | ⟨b1, b2, i', b3, b4⟩ | ⟨b1, b2, b3, i', j', b4, b5, b6⟩ | ⟨b1, b2, b3, b4⟩
  · rw [a1, b1]
  · exact absurd a2 b2
  · exact absurd a2 b2
  · exact absurd a2 b2
  · exact absurd b2 a2
  · rw [a1, b1]
  · exact absurd a4 (b3 i a3)
  · exact absurd a4 (b3 i a3)
  · exact absurd b2 a2
  · exact absurd b4 (a3 i' b3)
  · rw [a1, b1]
  · exact absurd a6 (b4 i j a4 a5)
  · exact absurd b2 a2
  · exact absurd b4 (a3 i' b3)
  · exact absurd b6 (a4 i' j' b4 b5)
  · rw [a1, b1]
theorem p_least {l : List Act} (hv : allv l) {u : Lib} (hL : RR u l) (hn : l.length ≤ 30) : ∃ r u2, B_L_least_0 u = some (r, u2) ∧ KP u u2 ∧ LA l r := by
  unfold B_L_least_0
  rw [p_size, bs, hL.1, if_pos (by rw [show (30 : Int32) = nI 30 from rfl]; exact nI_le hn (by omega))]
  rcases p_fvc hv hL (-1) (-1) with ⟨u2, f1, f2, f3⟩ | ⟨e, u2, he, f1, f2, f3⟩
  · rw [f1, bs, if_pos (show ((-1 : Int32), u2).1 = -1 from rfl)]
    exact ⟨0, u2, rfl, f2, Or.inl ⟨rfl, f3⟩⟩
  · have hnv : ¬ Vd l (pX (-1) (-1)) := fun y => y e he f3
    rw [f1, bs, if_neg (show ¬ (nI e, u2).1 = -1 from n_m1 (by omega))]
    have far1 : ∀ i, e < i → i < l.length → ¬ V1 l i := by
      intro i h4 h5 y
      refine y e he ((bad_congr (fun j hj => ?_)).mp f3)
      have a1 : ¬ nI j = nI i := fun w => by
        have := (nI_eq (by omega) (by omega)).mp w
        omega
      simp [pX, a1]
    have far2 : ∀ i q, e < i → i < q → q < l.length → ¬ V2 l i q := by
      intro i q h4 h5 h6 y
      refine y e he ((bad_congr (fun j hj => ?_)).mp f3)
      have a1 : ¬ nI j = nI i := fun w => by
        have := (nI_eq (by omega) (by omega)).mp w
        omega
      have a2 : ¬ nI j = nI q := fun w => by
        have := (nI_eq (by omega) (by omega)).mp w
        omega
      have a3 : ¬ nI j = (-1 : Int32) := n_m1 (by omega)
      simp [pX, a1, a2, a3]
    have h1 : ∃ r u3, B_L_oneLessIsEnough_0 (nI e) u2 = some (b2 r, u3) ∧ KP u2 u3 ∧ ((r = true ∧ ∃ k, k ≤ e ∧ V1 l k) ∨ (r = false ∧ ∀ k, k ≤ e → ¬ V1 l k)) := p_one hv hn he FU 0 u2 (hL.kp f2) (by omega) (by unfold FU; omega) (fun k hk => absurd hk (by omega))
    obtain ⟨r, u3, g1, g2, g3⟩ := h1
    show ∃ r2 u4, ((B_L_oneLessIsEnough_0 (nI e) u2).bind _) = _ ∧ _
    rw [g1, bs]
    rcases g3 with ⟨rfl, k, k1, k2⟩ | ⟨rfl, g4⟩
    · rw [if_neg (show ¬ (b2 true, u3).1 = 0 from ne10)]
      exact ⟨1, u3, rfl, f2.tr g2, Or.inr (Or.inl ⟨rfl, hnv, k, by omega, k2⟩)⟩
    · rw [if_pos (show (b2 false, u3).1 = 0 from rfl)]
      have hno : ∀ k, k < l.length → ¬ V1 l k := fun k hk => by
        by_cases y : k ≤ e
        · exact g4 k y
        · exact far1 k (by omega) hk
      have h2 : ∃ r u4, B_L_twoLessAreEnough_0 (nI e) u3 = some (b2 r, u4) ∧ KP u3 u4 ∧ ((r = true ∧ ∃ k q, k < q ∧ q < l.length ∧ V2 l k q) ∨ (r = false ∧ ∀ k q, k ≤ e → k < q → q < l.length → ¬ V2 l k q)) := p_two hv hn he hno FU 0 u3 ((hL.kp f2).kp g2) (by omega) (by unfold FU; omega) (fun k _ hk => absurd hk (by omega))
      obtain ⟨r, u4, k1, k2, k3⟩ := h2
      show ∃ r2 u5, ((B_L_twoLessAreEnough_0 (nI e) u3).bind _) = _ ∧ _
      rw [k1, bs]
      rcases k3 with ⟨rfl, i, q, q1, q2, q3⟩ | ⟨rfl, k4⟩
      · rw [if_neg (show ¬ (b2 true, u4).1 = 0 from ne10)]
        exact ⟨2, u4, rfl, (f2.tr g2).tr k2, Or.inr (Or.inr (Or.inl ⟨rfl, hnv, hno, i, q, q1, q2, q3⟩))⟩
      · rw [if_pos (show (b2 false, u4).1 = 0 from rfl)]
        exact ⟨3, u4, rfl, (f2.tr g2).tr k2, Or.inr (Or.inr (Or.inr ⟨rfl, hnv, hno, fun i q h4 h5 => by
          by_cases y : i ≤ e
          · exact k4 i q y h4 h5
          · exact far2 i q (by omega) h4 h5⟩))⟩
theorem p_leastN {l : List Act} {u : Lib} (hL : RR u l) (hn : ¬ l.length ≤ 30) : B_L_least_0 u = some (-9, u) := by
  have h200 := hL.2.1
  unfold B_L_least_0
  rw [p_size, bs, hL.1, if_neg (by rw [show (30 : Int32) = nI 30 from rfl]; exact nI_ge (by omega) (by omega))]
