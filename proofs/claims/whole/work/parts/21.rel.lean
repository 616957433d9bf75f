/-! the shelves' rows against a state's parts -/
theorem bs {α β : Type} (a : α) (f : α → Option β) : (some a).bind f = f a := rfl
theorem g_in {k n : Nat} (h : k < n) (hn : n < 2 ^ 31) : 0 ≤ (nI k).toInt ∧ (nI k).toInt < (n : Nat) := by
  rw [nI_toInt (by omega)]
  omega
def Rhd (f : Nat → Int64) (g : Nat → Nat → Bool) : Prop := ∀ r h, r ≤ 20 → h ≤ 99 → bit (f (r * 2 + h / 64)) (h % 64) = g r h
def Rn (f : Nat → Int32) (g : Nat → Nat) (n : Nat) : Prop := ∀ c, c ≤ n → f c = nI (g c)
def Rdu (f : Nat → Int64) (p g : Nat → Nat) : Prop := ∀ c, c ≤ 20 → p c ≠ 0 → f c = lN (g c)
def Rqu (ql qd : Nat → Int32) (q : Nat → List Nat) : Prop := ∀ r, r ≤ 20 → ql r = nI (q r).length ∧ ∀ i, i < (q r).length → qd (r * 20 + i) = nI ((q r).getD i 0)
def Rsm (f : Nat → Int32) (g : Nat → Nat → Nat) : Prop := ∀ a b, a ≤ 20 → b ≤ 5 → f (a * 6 + b) = nI (g a b) - 1
theorem Rn_up {f : Nat → Int32} {g : Nat → Nat} {n : Nat} (h : Rn f g n) (k v : Nat) : Rn (upd f k (nI v)) (va_up g k v) n := by
  intro c hc
  rw [vu_i]
  unfold upd
  split
  · rfl
  · exact h c hc
theorem Rhd_on {f : Nat → Int64} {g : Nat → Nat → Bool} (h : Rhd f g) {a b : Nat} (hb : b ≤ 99) : Rhd (vp_updL f (a * 2 + b / 64) (f (a * 2 + b / 64) ||| ((1 : Int64) <<< ((nI (b % 64)).toInt64 &&& 63)))) (va_up g a (va_up (g a) b true)) := by
  intro r j hr hj
  unfold vp_updL
  rw [vu_i]
  by_cases e : r = a
  · subst e
    rw [if_pos rfl, vu_i]
    by_cases e2 : j / 64 = b / 64
    · rw [if_pos (by rw [e2]), bit_or (by omega) (by omega), ← e2, h r j hr hj]
      by_cases e3 : j = b
      · subst e3
        simp
      · rw [if_neg e3]
        have e4 : ¬ j % 64 = b % 64 := by omega
        simp [e4]
    · rw [if_neg (by omega), if_neg (by omega)]
      exact h r j hr hj
  · rw [if_neg e, if_neg (by omega)]
    exact h r j hr hj
theorem Rhd_off {f : Nat → Int64} {g : Nat → Nat → Bool} (h : Rhd f g) {a b : Nat} (hb : b ≤ 99) : Rhd (vp_updL f (a * 2 + b / 64) (f (a * 2 + b / 64) &&& (((1 : Int64) <<< ((nI (b % 64)).toInt64 &&& 63)) ^^^ (-1)))) (va_up g a (va_up (g a) b false)) := by
  intro r j hr hj
  unfold vp_updL
  rw [vu_i]
  by_cases e : r = a
  · subst e
    rw [if_pos rfl, vu_i]
    by_cases e2 : j / 64 = b / 64
    · rw [if_pos (by rw [e2]), bit_an (by omega) (by omega), ← e2, h r j hr hj]
      by_cases e3 : j = b
      · subst e3
        simp
      · rw [if_neg e3]
        have e4 : ¬ j % 64 = b % 64 := by omega
        simp [e4]
    · rw [if_neg (by omega), if_neg (by omega)]
      exact h r j hr hj
  · rw [if_neg e, if_neg (by omega)]
    exact h r j hr hj
theorem Rsm_up {f : Nat → Int32} {g : Nat → Nat → Nat} (h : Rsm f g) {a b : Nat} (hb : b ≤ 5) (v : Nat) {x : Int32} (hx : x = nI v - 1) : Rsm (upd f (a * 6 + b) x) (va_up g a (va_up (g a) b v)) := by
  intro r j hr hj
  unfold upd
  rw [vu_i]
  by_cases e : r = a
  · subst e
    rw [if_pos rfl, vu_i]
    by_cases e3 : j = b
    · subst e3
      rw [if_pos rfl, if_pos rfl, hx]
    · rw [if_neg (by omega), if_neg e3]
      exact h r j hr hj
  · rw [if_neg e, if_neg (by omega)]
    exact h r j hr hj
theorem getD_app {l : List Nat} {b i : Nat} (h : i < l.length + 1) : (l ++ [b]).getD i 0 = if i = l.length then b else l.getD i 0 := by
  rcases Nat.lt_or_ge i l.length with q | q
  · rw [if_neg (by omega)]
    simp [List.getD_eq_getElem?_getD, List.getElem?_append_left q]
  · rw [if_pos (by omega)]
    simp [List.getD_eq_getElem?_getD, List.getElem?_append_right q, show i - l.length = 0 by omega]
theorem Rqu_join {ql qd : Nat → Int32} {q : Nat → List Nat} (h : Rqu ql qd q) (hq : ∀ r, (q r).length ≤ 20) {r b : Nat} (hl : (q r).length < 20) : Rqu (upd ql r (nI ((q r).length + 1))) (upd qd (r * 20 + (q r).length) (nI b)) (va_up q r (q r ++ [b])) := by
  intro k hk
  rw [vu_i]
  unfold upd
  obtain ⟨h1, h2⟩ := h k hk
  by_cases e : k = r
  · subst e
    rw [if_pos rfl, if_pos rfl]
    refine ⟨by simp, fun i hi => ?_⟩
    simp only [List.length_append, List.length_cons, List.length_nil] at hi
    rw [getD_app (by omega)]
    by_cases e2 : i = (q k).length
    · rw [if_pos (by omega), if_pos e2]
    · rw [if_neg (by omega), if_neg e2]
      exact h2 i (by omega)
  · rw [if_neg e, if_neg e]
    refine ⟨h1, fun i hi => ?_⟩
    have := hq k
    rw [if_neg (by omega)]
    exact h2 i hi
theorem getD_er {l : List Nat} {p i : Nat} : (l.eraseIdx p).getD i 0 = if i < p then l.getD i 0 else l.getD (i + 1) 0 := by
  simp only [List.getD_eq_getElem?_getD, List.getElem?_eraseIdx]
  split <;> rfl
theorem Rqu_leave {ql qd fd : Nat → Int32} {q : Nat → List Nat} (h : Rqu ql qd q) (hq : ∀ r, (q r).length ≤ 20) {r p : Nat} (hp : p < (q r).length) (hin : ∀ i, i + 1 < (q r).length → fd (r * 20 + i) = if i < p then qd (r * 20 + i) else qd (r * 20 + (i + 1))) (hout : ∀ k i, k ≠ r → i < 20 → fd (k * 20 + i) = qd (k * 20 + i)) : Rqu (upd ql r (nI ((q r).length - 1))) fd (va_up q r ((q r).eraseIdx p)) := by
  intro k hk
  rw [vu_i]
  unfold upd
  obtain ⟨h1, h2⟩ := h k hk
  by_cases e : k = r
  · subst e
    rw [if_pos rfl, if_pos rfl]
    have hlen : ((q k).eraseIdx p).length = (q k).length - 1 := List.length_eraseIdx_of_lt hp
    refine ⟨by rw [hlen], fun i hi => ?_⟩
    rw [hlen] at hi
    rw [hin i (by omega), getD_er]
    split
    · exact h2 i (by omega)
    · exact h2 (i + 1) (by omega)
  · rw [if_neg e, if_neg e]
    refine ⟨h1, fun i hi => ?_⟩
    have := hq k
    rw [hout k i e (by omega)]
    exact h2 i hi
theorem idx_first : ∀ (l : List Nat) (b i : Nat), (∀ j, j < i → l.getD j 0 ≠ b) → i < l.length → l.getD i 0 = b → l.idxOf b = i ∧ b ∈ l
  | [], b, i, _, h, _ => by simp at h
  | a :: t, b, 0, _, _, h => by
    simp at h
    subst h
    simp
  | a :: t, b, i + 1, h1, h2, h3 => by
    have h4 : a ≠ b := by simpa using h1 0 (by omega)
    have h5 := idx_first t b i (fun j hj => by simpa using h1 (j + 1) (by omega)) (by simpa using h2) (by simpa using h3)
    refine ⟨?_, List.mem_cons_of_mem _ h5.2⟩
    rw [List.idxOf_cons, cond_eq_ite, if_neg (by simpa using h4), h5.1]
theorem idx_none {l : List Nat} {b : Nat} (h : ∀ j, j < l.length → l.getD j 0 ≠ b) : b ∉ l := by
  intro hb
  obtain ⟨i, hi, e⟩ := List.mem_iff_getElem.mp hb
  apply h i hi
  simp [List.getD_eq_getElem?_getD, List.getElem?_eq_getElem hi, e]
theorem getD_mem {l : List Nat} {i : Nat} (h : i < l.length) : l.getD i 0 ∈ l := by
  simp [List.getD_eq_getElem?_getD, List.getElem?_eq_getElem h]
def plc (l : List Nat) (b : Nat) : Int32 := if b ∈ l then nI (l.idxOf b) else -1
theorem p_S_loop {u : Lib} {q : Nat → List Nat} (h : Rqu (l_ql u) (l_qd u) q) (hq : ∀ r, (q r).length ≤ 20) (hq2 : ∀ r, ∀ z ∈ q r, z ≤ 20) {r b : Nat} (hr : r ≤ 20) (hb : b ≤ 20) : ∀ (fu i : Nat), i ≤ (q r).length → (q r).length - i < fu → (∀ j, j < i → (q r).getD j 0 ≠ b) → B_S_placeInQueue_2 fu (nI r) (nI b) (nI i) u = some (plc (q r) b)
  | 0, i, _, h2, _ => absurd h2 (by omega)
  | fu + 1, i, h1, h2, h3 => by
    have hl := hq r
    obtain ⟨e1, e2⟩ := h r hr
    show B_S_placeInQueue_2s _ _ _ _ _ = _
    unfold B_S_placeInQueue_2s
    rw [gd_t (g_in (by omega) (by omega)), nI_clamp (by omega), e1]
    by_cases hi : (q r).length ≤ i
    · rw [if_pos (nI_le hi (by omega)), plc, if_neg (idx_none (fun j hj => h3 j (by omega)))]
    · rw [if_neg (nI_ge (by omega) (by omega))]
      rw [show nI r * (20 : Int32) + nI i = nI (r * 20 + i) from by rw [show (20 : Int32) = nI 20 from rfl, pk_mul, nI_add]]
      rw [gd_t (g_in (by omega) (by omega)), nI_clamp (by omega), e2 i (by omega)]
      have hz := hq2 r _ (getD_mem (show i < (q r).length by omega))
      by_cases hb2 : (q r).getD i 0 = b
      · have h5 := idx_first (q r) b i h3 (by omega) hb2
        rw [if_pos (by rw [hb2]), plc, if_pos h5.2, h5.1]
      · rw [if_neg (fun e => hb2 ((nI_eq (by omega) (by omega)).mp e)), show nI i + (1 : Int32) = nI (i + 1) from nI_1 i]
        refine p_S_loop h hq hq2 hr hb fu (i + 1) (by omega) (by omega) (fun j hj => ?_)
        rcases Nat.lt_or_ge j i with z | z
        · exact h3 j z
        · rw [show j = i by omega]
          exact hb2
theorem p_S_place {u : Lib} {q : Nat → List Nat} (h : Rqu (l_ql u) (l_qd u) q) (hq : ∀ r, (q r).length ≤ 20) (hq2 : ∀ r, ∀ z ∈ q r, z ≤ 20) {r b : Nat} (hr : r ≤ 20) (hb : b ≤ 20) : B_S_placeInQueue_0 (nI r) (nI b) u = some (plc (q r) b) := by
  have hl := hq r
  exact p_S_loop h hq hq2 hr hb FU 0 (by omega) (by unfold FU; omega) (fun j hj => absurd hj (by omega))
theorem p_M_loop {u : Mod} {q : Nat → List Nat} (h : Rqu (m_qs u) (m_qd u) q) (hq : ∀ r, (q r).length ≤ 20) (hq2 : ∀ r, ∀ z ∈ q r, z ≤ 20) {r b : Nat} (hr : r ≤ 20) (hb : b ≤ 20) : ∀ (fu i : Nat), i ≤ (q r).length → (q r).length - i < fu → (∀ j, j < i → (q r).getD j 0 ≠ b) → B_M_placeOf_2 fu (nI r) (nI b) (nI i) u = some (plc (q r) b)
  | 0, i, _, h2, _ => absurd h2 (by omega)
  | fu + 1, i, h1, h2, h3 => by
    have hl := hq r
    obtain ⟨e1, e2⟩ := h r hr
    show B_M_placeOf_2s _ _ _ _ _ = _
    unfold B_M_placeOf_2s
    rw [gd_t (g_in (by omega) (by omega)), nI_clamp (by omega), e1]
    by_cases hi : (q r).length ≤ i
    · rw [if_pos (nI_le hi (by omega)), plc, if_neg (idx_none (fun j hj => h3 j (by omega)))]
    · rw [if_neg (nI_ge (by omega) (by omega))]
      rw [show (20 : Int32) * nI r + nI i = nI (r * 20 + i) from by rw [show (20 : Int32) = nI 20 from rfl, pk_mul, nI_add, Nat.mul_comm]]
      rw [gd_t (g_in (by omega) (by omega)), nI_clamp (by omega), e2 i (by omega)]
      have hz := hq2 r _ (getD_mem (show i < (q r).length by omega))
      by_cases hb2 : (q r).getD i 0 = b
      · have h5 := idx_first (q r) b i h3 (by omega) hb2
        rw [if_pos (by rw [hb2]), plc, if_pos h5.2, h5.1]
      · rw [if_neg (fun e => hb2 ((nI_eq (by omega) (by omega)).mp e)), show nI i + (1 : Int32) = nI (i + 1) from nI_1 i]
        refine p_M_loop h hq hq2 hr hb fu (i + 1) (by omega) (by omega) (fun j hj => ?_)
        rcases Nat.lt_or_ge j i with z | z
        · exact h3 j z
        · rw [show j = i by omega]
          exact hb2
theorem p_M_place {u : Mod} {q : Nat → List Nat} (h : Rqu (m_qs u) (m_qd u) q) (hq : ∀ r, (q r).length ≤ 20) (hq2 : ∀ r, ∀ z ∈ q r, z ≤ 20) {r b : Nat} (hr : r ≤ 20) (hb : b ≤ 20) : B_M_placeOf_0 (nI r) (nI b) u = some (plc (q r) b) := by
  have hl := hq r
  exact p_M_loop h hq hq2 hr hb FU 0 (by omega) (by unfold FU; omega) (fun j hj => absurd hj (by omega))
