/-! event: an act more -/
def dy (l : List Act) (k : Nat) : Nat := match l[k]? with
  | some x => x.2.2.2
  | none => 0
theorem dy_s {l : List Act} {k : Nat} {x : Act} (h : l[k]? = some x) : dy l k = x.2.2.2 := by simp [dy, h]
def plcf (l : List Act) (d : Nat) : Nat → Nat
  | 0 => 0
  | k + 1 => if d < dy l k then plcf l d k else k + 1
theorem plcf_le (l : List Act) (d : Nat) : ∀ k, plcf l d k ≤ k
  | 0 => Nat.le_refl 0
  | k + 1 => by
    have := plcf_le l d k
    unfold plcf
    split <;> omega
theorem plcf_hi (l : List Act) (d : Nat) : ∀ k j, plcf l d k ≤ j → j < k → d < dy l j
  | 0, j, _, h => by omega
  | k + 1, j, h1, h2 => by
    unfold plcf at h1
    split at h1
    · rename_i q
      by_cases e : j = k
      · rw [e]
        exact q
      · exact plcf_hi l d k j h1 (by omega)
    · omega
theorem plcf_lo (l : List Act) (d : Nat) : ∀ k p, plcf l d k = p + 1 → dy l p ≤ d
  | 0, p, h => by simp [plcf] at h
  | k + 1, p, h => by
    unfold plcf at h
    split at h
    · exact plcf_lo l d k p h
    · rename_i q
      rw [show p = k by omega]
      omega
def insl (l : List Act) (p : Nat) (x : Act) : List Act := l.take p ++ x :: l.drop p
theorem insl_len {l : List Act} {p : Nat} {x : Act} (h : p ≤ l.length) : (insl l p x).length = l.length + 1 := by
  simp [insl]
  omega
theorem insl_get {l : List Act} {p : Nat} {x : Act} (h : p ≤ l.length) (k : Nat) : (insl l p x)[k]? = if k < p then l[k]? else if k = p then some x else l[k - 1]? := by
  unfold insl
  have hp : (l.take p).length = p := by simp; omega
  by_cases h1 : k < p
  · rw [if_pos h1, List.getElem?_append_left (by omega), List.getElem?_take_of_lt h1]
  · rw [if_neg h1, List.getElem?_append_right (by omega), hp]
    by_cases h2 : k = p
    · subst h2
      simp
    · rw [if_neg h2, show k - p = (k - p - 1) + 1 by omega, List.getElem?_cons_succ, List.getElem?_drop]
      exact congrArg _ (by omega)
theorem ins_allv {l : List Act} (hv : allv l) {p : Nat} {x : Act} (hp : p ≤ l.length) (hx : vact x) : allv (insl l p x) := by
  intro k z hz
  rw [insl_get hp] at hz
  split at hz
  · exact hv k z hz
  · split at hz
    · cases hz
      exact hx
    · exact hv _ z hz
theorem ins_srtd {l : List Act} (hs : srtd l) {x : Act} : srtd (insl l (plcf l x.2.2.2 l.length) x) := by
  have hp := plcf_le l x.2.2.2 l.length
  have hi := plcf_hi l x.2.2.2 l.length
  have hlo : ∀ j z, j < plcf l x.2.2.2 l.length → l[j]? = some z → z.2.2.2 ≤ x.2.2.2 := by
    intro j z hj hz
    obtain ⟨q, hq⟩ : ∃ q, plcf l x.2.2.2 l.length = q + 1 := ⟨plcf l x.2.2.2 l.length - 1, by omega⟩
    have h1 := plcf_lo l x.2.2.2 l.length q hq
    obtain ⟨w, hw⟩ := get_ex (show q < l.length by omega)
    rw [dy_s hw] at h1
    have := hs j q z w (by omega) hz hw
    omega
  generalize plcf l x.2.2.2 l.length = p at hp hi hlo
  intro i j a b hij ha hb
  rw [insl_get hp] at ha hb
  have hh : ∀ k z, p ≤ k → l[k]? = some z → x.2.2.2 < z.2.2.2 := fun k z h1 h2 => by
    have := hi k h1 (List.getElem?_eq_some_iff.mp h2).1
    rw [dy_s h2] at this
    exact this
  by_cases i1 : i < p
  · rw [if_pos i1] at ha
    by_cases j1 : j < p
    · rw [if_pos j1] at hb
      exact hs i j a b hij ha hb
    · rw [if_neg j1] at hb
      by_cases j2 : j = p
      · rw [if_pos j2] at hb
        cases hb
        exact hlo i a i1 ha
      · rw [if_neg j2] at hb
        exact hs i (j - 1) a b (by omega) ha hb
  · rw [if_neg i1] at ha
    rw [if_neg (by omega)] at hb
    by_cases i2 : i = p
    · rw [if_pos i2] at ha
      cases ha
      by_cases j2 : j = p
      · rw [if_pos j2] at hb
        cases hb
        exact Nat.le_refl _
      · rw [if_neg j2] at hb
        exact Nat.le_of_lt (hh (j - 1) b (by omega) hb)
    · rw [if_neg i2] at ha
      rw [if_neg (by omega)] at hb
      exact hs (i - 1) (j - 1) a b (by omega) ha hb
/-- a row with v put in at p -/
def Gs {α : Type} (f0 g : Nat → α) (p n : Nat) (v : α) : Prop := (∀ j, j < p → g j = f0 j) ∧ g p = v ∧ ∀ j, p < j → j ≤ n → g j = f0 (j - 1)
theorem Gs_at {α : Type} {f0 g : Nat → α} {l : List Act} {p : Nat} {x : Act} {F : Act → α → Prop} (hp : p ≤ l.length) {v : α} (hg : Gs f0 g p l.length v) (h0 : ∀ k z, l[k]? = some z → F z (f0 k)) (hv : F x v) : ∀ k z, (insl l p x)[k]? = some z → F z (g k) := by
  intro k z hz
  have hk := (List.getElem?_eq_some_iff.mp hz).1
  rw [insl_len hp] at hk
  rw [insl_get hp] at hz
  split at hz
  · rename_i q
    rw [hg.1 k q]
    exact h0 k z hz
  · split at hz
    · rename_i q
      cases hz
      rw [q, hg.2.1]
      exact hv
    · rw [hg.2.2 k (by omega) (by omega)]
      exact h0 _ z hz
theorem Gs_c {f : Nat → Int32} {p n : Nat} (hp : p ≤ n) (v : Int32) : Gs f (upd (va_cpy f f p (p + 1) (n - p)) p v) p n v := by
  refine ⟨fun j hj => ?_, ?_, fun j h1 h2 => ?_⟩
  · unfold upd
    rw [if_neg (by omega), pk_cpy_out (by omega)]
  · unfold upd
    rw [if_pos rfl]
  · unfold upd
    rw [if_neg (by omega), pk_cpy_in (by omega) (by omega)]
    exact congrArg _ (by omega)
theorem Gs_cL {f : Nat → Int64} {p n : Nat} (hp : p ≤ n) (v : Int64) : Gs f (vp_updL (va_cpy f f p (p + 1) (n - p)) p v) p n v := by
  refine ⟨fun j hj => ?_, ?_, fun j h1 h2 => ?_⟩
  · unfold vp_updL
    rw [if_neg (by omega), pk_cpy_out (by omega)]
  · unfold vp_updL
    rw [if_pos rfl]
  · unfold vp_updL
    rw [if_neg (by omega), pk_cpy_in (by omega) (by omega)]
    exact congrArg _ (by omega)
theorem p_pf {l : List Act} (hv : allv l) {u : Lib} (hL : RR u l) {d : Nat} (hd : d ≤ 1000000) : ∀ (fu k : Nat), k ≤ l.length → k < fu → B_R_placeFor_5 fu (lN d) (nI k) u = some (nI (plcf l d k))
  | 0, k, _, h2 => absurd h2 (by omega)
  | fu + 1, 0, h1, h2 => by
    show B_R_placeFor_5s _ _ _ _ = _
    unfold B_R_placeFor_5s
    rw [if_pos (by decide)]
    rfl
  | fu + 1, k + 1, h1, h2 => by
    have h200 := hL.2.1
    obtain ⟨x, hx⟩ := get_ex (show k < l.length by omega)
    have hdx := (hv k x hx).1
    show B_R_placeFor_5s _ _ _ _ = _
    unfold B_R_placeFor_5s plcf
    rw [if_neg (nI_nle (by omega) (by omega)), nI_pred, gd_t (g_in (by omega) (by omega)), nI_clamp (by omega), (hL.2.2 k x hx).2.2.2, dy_s hx, pk_m1]
    by_cases q : d < x.2.2.2
    · rw [if_neg (by rw [lc_le, pk_lT (by omega), pk_lT (by omega)]; omega), if_pos q]
      exact p_pf hv hL hd fu k (by omega) (by omega)
    · rw [if_pos (by rw [lc_le, pk_lT (by omega), pk_lT (by omega)]; omega), if_neg q]
theorem p_insert {l : List Act} (hv : allv l) {u : Lib} (hL : RR u l) {x : Act} (hx : vact x) (hlt : l.length < 200) : ∃ u2, B_R_insert_0 (nI x.1) (nI x.2.1) (nI x.2.2.1) (lN x.2.2.2) u = some (1, u2) ∧ RR u2 (insl l (plcf l x.2.2.2 l.length) x) ∧ l_hc u2 = l_hc u ∧ l_hit u2 = l_hit u := by
  have hp := plcf_le l x.2.2.2 l.length
  have hpf : B_R_placeFor_0 (lN x.2.2.2) u = some (nI (plcf l x.2.2.2 l.length)) := by
    unfold B_R_placeFor_0
    rw [hL.1]
    exact p_pf hv hL hx.1 FU l.length (by omega) (by unfold FU; omega)
  unfold B_R_insert_0
  rw [if_pos (by rw [hL.1, show (200 : Int32) = nI 200 from rfl]; exact nI_lt hlt (by omega)), hpf, bs, hL.1]
  generalize plcf l x.2.2.2 l.length = p at hp ⊢
  have g5 : 0 ≤ (nI p).toInt ∧ 0 ≤ (nI p + (1 : Int32)).toInt ∧ 0 ≤ (nI l.length - nI p).toInt ∧ (nI p).toInt + (nI l.length - nI p).toInt ≤ (200 : Nat) ∧ (nI p + (1 : Int32)).toInt + (nI l.length - nI p).toInt ≤ (200 : Nat) := by
    rw [nI_1, pk_sub hp, nI_toInt (by omega), nI_toInt (by omega), nI_toInt (by omega)]
    omega
  have g2 : 0 ≤ (nI p).toInt ∧ (nI p).toInt < (200 : Nat) := g_in (by omega) (by omega)
  rw [gd_t g5, bs, gd_t g5, bs, gd_t g5, bs, gd_t g5, bs, gd_t g2, gd_t g2, bs, gd_t g2, gd_t g2, bs]
  rw [nI_1, pk_sub hp, nI_clamp (show p < 2 ^ 31 by omega), nI_clamp (show p + 1 < 2 ^ 31 by omega), nI_clamp (show l.length - p < 2 ^ 31 by omega)]
  refine ⟨_, rfl, ⟨?_, by rw [insl_len hp]; omega, ?_⟩, rfl, rfl⟩
  · rw [insl_len hp, ← nI_1, ← hL.1]
    rfl
  · intro k z hz
    refine ⟨?_, ?_, ?_, ?_⟩
    · exact Gs_at (F := fun z v => v = nI z.1) hp (Gs_c hp (nI x.1)) (fun k z h => (hL.2.2 k z h).1) rfl k z hz
    · exact Gs_at (F := fun z v => v = nI z.2.1) hp (Gs_c hp (nI x.2.1)) (fun k z h => (hL.2.2 k z h).2.1) rfl k z hz
    · exact Gs_at (F := fun z v => v = nI z.2.2.1) hp (Gs_c hp (nI x.2.2.1)) (fun k z h => (hL.2.2 k z h).2.2.1) rfl k z hz
    · exact Gs_at (F := fun z v => v = lN z.2.2.2) hp (Gs_cL hp (lN x.2.2.2)) (fun k z h => (hL.2.2 k z h).2.2.2) rfl k z hz
def rg (a : Int64) (lo hi : Int) : Prop := lo ≤ a.toInt ∧ a.toInt ≤ hi
def vok (s : Int32) (a b : Int64) : Bool :=
  if s = 0 then decide ((1 ≤ a.toInt ∧ a.toInt ≤ 20) ∧ (1 ≤ b.toInt ∧ b.toInt ≤ 99)) else if s = 1 then decide ((1 ≤ a.toInt ∧ a.toInt ≤ 20) ∧ (1 ≤ b.toInt ∧ b.toInt ≤ 99)) else if s = 2 then decide ((1 ≤ a.toInt ∧ a.toInt ≤ 20) ∧ (1 ≤ b.toInt ∧ b.toInt ≤ 20)) else if s = 3 then decide ((1 ≤ a.toInt ∧ a.toInt ≤ 20) ∧ (1 ≤ b.toInt ∧ b.toInt ≤ 20)) else if s = 4 then decide (1 ≤ a.toInt ∧ a.toInt ≤ 20) else if s = 5 then decide ((1 ≤ a.toInt ∧ a.toInt ≤ 20) ∧ (1 ≤ b.toInt ∧ b.toInt ≤ 20)) else if s = 6 then decide ((1 ≤ a.toInt ∧ a.toInt ≤ 20) ∧ (1 ≤ b.toInt ∧ b.toInt ≤ 20)) else if s = 7 then decide ((1 ≤ a.toInt ∧ a.toInt ≤ 20) ∧ (1 ≤ b.toInt ∧ b.toInt ≤ 5)) else if s = 8 then decide ((1 ≤ a.toInt ∧ a.toInt ≤ 20) ∧ (1 ≤ b.toInt ∧ b.toInt ≤ 5)) else if s = 9 then decide ((1 ≤ a.toInt ∧ a.toInt ≤ 20) ∧ (0 ≤ b.toInt ∧ b.toInt ≤ 9)) else if s = 10 then decide ((0 ≤ a.toInt ∧ a.toInt ≤ 9) ∧ (1 ≤ b.toInt ∧ b.toInt ≤ 365)) else false
theorem ite_push {c : Prop} [Decidable c] {x y : Bool} : (if c then some (b2 x) else some (b2 y)) = some (b2 (if c then x else y)) := by
  by_cases h : c <;> simp [h]
theorem two10 {A B : Prop} [Decidable A] [Decidable B] : (if (if A then (1 : Int32) else 0) = 0 then some (0 : Int32) else (if (if B then (1 : Int32) else 0) = 0 then some 0 else some 1)) = some (b2 (decide (A ∧ B))) := by
  by_cases a : A <;> by_cases b : B <;> simp [a, b, b2]
theorem one10 {A : Prop} [Decidable A] : gd ((if A then (1 : Int32) else 0) = 0 ∨ (if A then (1 : Int32) else 0) = 1) (some (if A then (1 : Int32) else 0)) = some (b2 (decide A)) := by
  by_cases a : A <;> simp [a, b2, gd]
theorem p_isAct (s : Int32) (a b : Int64) : B_L_isAct_0 s a b = some (b2 (vok s a b)) := by
  unfold B_L_isAct_0 vok
  have z0 : (0 : Int64).toInt = 0 := by decide
  have z1 : (1 : Int64).toInt = 1 := by decide
  have z5 : (5 : Int64).toInt = 5 := by decide
  have z9 : (9 : Int64).toInt = 9 := by decide
  have z20 : (20 : Int64).toInt = 20 := by decide
  have z99 : (99 : Int64).toInt = 99 := by decide
  have z365 : (365 : Int64).toInt = 365 := by decide
  simp only [p_isNum, p_isWithin, bs, z0, z1, z5, z9, z20, z99, z365, two10, one10]
  rw [show some (0 : Int32) = some (b2 false) from rfl]
  simp only [ite_push]
theorem p_in (y lo hi : Int64) : B_M_in_0 y lo hi = some (if lo.toInt ≤ y.toInt ∧ y.toInt ≤ hi.toInt then 1 else 0) := p_isWithin y lo hi
theorem p_can (s : Int32) (a b : Int64) : B_M_can_0 s a b = some (b2 (vok s a b)) := by
  unfold B_M_can_0 vok
  have z0 : (0 : Int64).toInt = 0 := by decide
  have z1 : (1 : Int64).toInt = 1 := by decide
  have z5 : (5 : Int64).toInt = 5 := by decide
  have z9 : (9 : Int64).toInt = 9 := by decide
  have z20 : (20 : Int64).toInt = 20 := by decide
  have z99 : (99 : Int64).toInt = 99 := by decide
  have z365 : (365 : Int64).toInt = 365 := by decide
  simp only [p_in, bs, z0, z1, z5, z9, z20, z99, z365, two10, one10]
  rw [show some (0 : Int32) = some (b2 false) from rfl]
  simp only [ite_push]
