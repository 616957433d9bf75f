/-! clear, and the row of acts -/
theorem p_fI {n : Nat} (hn : n < 2000) (x : Int32) : ∀ (fu i : Nat) (f : Nat → Int32), i ≤ n → n - i < fu → (∀ j, j < i → f j = x) → ∃ g, B_J_fillI_5 n fu x (nI i) (nI n) f = some g ∧ ∀ j, j < n → g j = x
  | 0, i, _, _, h2, _ => absurd h2 (by omega)
  | fu + 1, i, f, h1, h2, h3 => by
    show ∃ g, B_J_fillI_5s n _ _ _ _ _ = _ ∧ _
    unfold B_J_fillI_5s
    by_cases hi : n ≤ i
    · rw [if_pos (nI_le hi (by omega))]
      exact ⟨f, rfl, fun j hj => h3 j (by omega)⟩
    · rw [if_neg (nI_ge (by omega) (by omega)), gd_t (g_in (by omega) (by omega)), nI_clamp (by omega), show nI i + (1 : Int32) = nI (i + 1) from nI_1 i]
      refine p_fI hn x fu (i + 1) _ (by omega) (by omega) (fun j hj => ?_)
      unfold upd
      split
      · rfl
      · exact h3 j (by omega)
theorem p_fillI {n : Nat} (hn : n < 2000) (x : Int32) (f : Nat → Int32) : ∃ g, B_J_fillI_0 n x f = some g ∧ ∀ j, j < n → g j = x :=
  p_fI hn x FU 0 f (by omega) (by unfold FU; omega) (fun j hj => absurd hj (by omega))
theorem p_fJ {n : Nat} (hn : n < 2000) (x : Int64) : ∀ (fu i : Nat) (f : Nat → Int64), i ≤ n → n - i < fu → (∀ j, j < i → f j = x) → ∃ g, B_J_fillJ_6 n fu x (nI i) (nI n) f = some g ∧ ∀ j, j < n → g j = x
  | 0, i, _, _, h2, _ => absurd h2 (by omega)
  | fu + 1, i, f, h1, h2, h3 => by
    show ∃ g, B_J_fillJ_6s n _ _ _ _ _ = _ ∧ _
    unfold B_J_fillJ_6s
    by_cases hi : n ≤ i
    · rw [if_pos (nI_le hi (by omega))]
      exact ⟨f, rfl, fun j hj => h3 j (by omega)⟩
    · rw [if_neg (nI_ge (by omega) (by omega)), gd_t (g_in (by omega) (by omega)), nI_clamp (by omega), show nI i + (1 : Int32) = nI (i + 1) from nI_1 i]
      refine p_fJ hn x fu (i + 1) _ (by omega) (by omega) (fun j hj => ?_)
      unfold vp_updL
      split
      · rfl
      · exact h3 j (by omega)
theorem p_fillJ {n : Nat} (hn : n < 2000) (x : Int64) (f : Nat → Int64) : ∃ g, B_J_fillJ_0 n x f = some g ∧ ∀ j, j < n → g j = x :=
  p_fJ hn x FU 0 f (by omega) (by unfold FU; omega) (fun j hj => absurd hj (by omega))
theorem p_clear (u : Lib) : ∃ u2, B_S_clear_0 u = some u2 ∧ RS u2 st0 ∧ KP u u2 := by
  unfold B_S_clear_0
  obtain ⟨g1, e1, k1⟩ := p_fillJ (n := 42) (by omega) (0 : Int64) (l_hb u)
  rw [e1, bs]
  obtain ⟨g2, e2, k2⟩ := p_fillI (n := 21) (by omega) (0 : Int32) (l_rec (l_hb_w u g1))
  rw [e2, bs]
  obtain ⟨g3, e3, k3⟩ := p_fillI (n := 21) (by omega) (0 : Int32) (l_per (l_rec_w (l_hb_w u g1) g2))
  rw [e3, bs]
  obtain ⟨g4, e4, k4⟩ := p_fillI (n := 21) (by omega) (0 : Int32) (l_ql (l_per_w (l_rec_w (l_hb_w u g1) g2) g3))
  rw [e4, bs]
  obtain ⟨g5, e5, k5⟩ := p_fillI (n := 21) (by omega) (0 : Int32) (l_cls (l_ql_w (l_per_w (l_rec_w (l_hb_w u g1) g2) g3) g4))
  rw [e5, bs]
  obtain ⟨g6, e6, k6⟩ := p_fillI (n := 10) (by omega) (28 : Int32) (l_ln (l_cls_w (l_ql_w (l_per_w (l_rec_w (l_hb_w u g1) g2) g3) g4) g5))
  rw [e6, bs]
  obtain ⟨g7, e7, k7⟩ := p_fillI (n := 126) (by omega) (-1 : Int32) (l_sm (l_ln_w (l_cls_w (l_ql_w (l_per_w (l_rec_w (l_hb_w u g1) g2) g3) g4) g5) g6))
  rw [e7, bs]
  refine ⟨_, rfl, ⟨?_, ?_, ?_, ?_, ?_, ?_, ?_, ?_⟩, ⟨rfl, rfl, rfl, rfl, rfl, rfl, rfl⟩⟩
  · intro r h hr hh
    show bit (g1 (r * 2 + h / 64)) (h % 64) = false
    rw [k1 _ (by omega), bit_0]
  · exact fun c hc => k2 c (by omega)
  · exact fun c hc => k3 c (by omega)
  · exact fun c hc hne => absurd rfl hne
  · exact fun r hr => ⟨k4 r (by omega), fun i hi => absurd hi (by simp [st0, s_qu])⟩
  · exact fun c hc => k5 c (by omega)
  · exact fun c hc => k6 c (by omega)
  · intro a b ha hb
    show g7 (a * 6 + b) = nI 0 - 1
    rw [k7 _ (by omega)]
    decide
/-- acts done one behind another, those that p takes -/
def gst (l : List Act) (p : Nat → Bool) : Nat → St
  | 0 => st0
  | k + 1 => match l[k]? with
    | some x => if p k = true then s_st x (gst l p k) else gst l p k
    | none => gst l p k
def gok (l : List Act) (p : Nat → Bool) (k : Nat) : Bool := match l[k]? with
  | some x => s_ok x (gst l p k)
  | none => true
def gvd (l : List Act) (p : Nat → Bool) : Nat → Nat
  | 0 => 0
  | k + 1 => gvd l p k + (if p k = true ∧ gok l p k = false then 1 else 0)
def allv (l : List Act) : Prop := ∀ (k : Nat) (x : Act), l[k]? = some x → vact x
def pA : Nat → Bool := fun _ => true
theorem gst_s {l : List Act} {p : Nat → Bool} {k : Nat} {x : Act} (h : l[k]? = some x) (hp : p k = true) : gst l p (k + 1) = s_st x (gst l p k) := by
  simp [gst, h, hp]
theorem gst_n {l : List Act} {p : Nat → Bool} {k : Nat} (hp : p k = false) : gst l p (k + 1) = gst l p k := by
  simp only [gst, hp]
  split <;> rfl
theorem gok_s {l : List Act} {p : Nat → Bool} {k : Nat} {x : Act} (h : l[k]? = some x) : gok l p k = s_ok x (gst l p k) := by
  simp [gok, h]
theorem SW_g {l : List Act} (hv : allv l) (p : Nat → Bool) : ∀ k, SW (gst l p k)
  | 0 => SW_0
  | k + 1 => by
    have ih := SW_g hv p k
    unfold gst
    split
    · rename_i x hx
      split
      · exact SW_st (hv k x hx) ih
      · exact ih
    · exact ih
theorem gvd_le (l : List Act) (p : Nat → Bool) : ∀ k, gvd l p k ≤ k
  | 0 => Nat.le_refl 0
  | k + 1 => by
    have ih := gvd_le l p k
    unfold gvd
    split <;> omega
theorem get_ex {l : List Act} {k : Nat} (h : k < l.length) : ∃ x, l[k]? = some x := ⟨l[k], List.getElem?_eq_getElem h⟩
def RR (u : Lib) (l : List Act) : Prop := l_sz u = nI l.length ∧ l.length ≤ 200 ∧ ∀ (k : Nat) (x : Act), l[k]? = some x → l_srt u k = nI x.1 ∧ l_fst u k = nI x.2.1 ∧ l_snd u k = nI x.2.2.1 ∧ l_dys u k = lN x.2.2.2
theorem RR.kp {u v : Lib} {l : List Act} (h : RR u l) (k : KP u v) : RR v l := by
  unfold RR
  rw [k.1, k.2.1, k.2.2.1, k.2.2.2.1, k.2.2.2.2.1]
  exact h
theorem p_Rperf {u : Lib} {l : List Act} {s : St} (hL : RR u l) (hR : RS u s) (hW : SW s) (hv : allv l) {k : Nat} {x : Act} (hx : l[k]? = some x) : ∃ u2, B_R_perform_0 (nI k) u = some (b2 (s_ok x s), u2) ∧ RS u2 (s_st x s) ∧ KP u u2 := by
  have hk : k < l.length := (List.getElem?_eq_some_iff.mp hx).1
  have h200 := hL.2.1
  obtain ⟨a1, a2, a3, a4⟩ := hL.2.2 k x hx
  unfold B_R_perform_0
  rw [gd_t (g_in (by omega) (by omega)), gd_t (g_in (by omega) (by omega)), gd_t (g_in (by omega) (by omega)), gd_t (g_in (by omega) (by omega)), nI_clamp (by omega), a1, a2, a3, a4]
  obtain ⟨u2, h1, h2, h3⟩ := p_perform hR hW (hv k x hx)
  rw [h1, bs, gd_t (b2_01 _)]
  exact ⟨u2, rfl, h2, h3⟩
/-- one step of a run of the class -/
theorem p_step {u : Lib} {l : List Act} {p : Nat → Bool} {k : Nat} (hL : RR u l) (hv : allv l) (hR : RS u (gst l p k)) (hk : k < l.length) (hp : p k = true) : ∃ u2, B_R_perform_0 (nI k) u = some (b2 (gok l p k), u2) ∧ RS u2 (gst l p (k + 1)) ∧ KP u u2 := by
  obtain ⟨x, hx⟩ := get_ex hk
  rw [gok_s hx, gst_s hx hp]
  exact p_Rperf hL hR (SW_g hv p k) hv hx
