set_option maxHeartbeats 4000000 in
set_option maxRecDepth 100000 in
theorem whole_start {p : Program} {e : Env} {s : State} {m : MethodId} {below : List Frame} {meth : Method} {c : Code} (l : Launch) {b L : Nat} {xs : Nat → Int32} (hL : L ≤ 4096) (C0 : lw_At p s m meth c b L xs) : W p l e room_1 s m #[Value.ref b] below meth c s.heap [] 0 0 (lw_Z below #[Value.ref b] s) (entryFrame m ([Value.ref b] : List Value).toArray 4) := by
  obtain ⟨hx, hb, hr, hml, hown, hts0, hX, hbl, hlocks, hgv⟩ := id C0
  have hts := tb_in hts0
  have hM : B_W_law_18 L xs FU (0 : Int32) (lib0, mod0) = some 1 := law_true L xs hL
  have hA : ∀ q : Nat, s.heap.size ≤ q → (fun q : Nat => s.heap.size ≤ q) q := fun _ h => h
  obtain ⟨c0, iS0, hKn0⟩ := u_known (C := R_R) (T := T_R) (N := 5) (n := 5) hts in_R (hts _ mm_43)
  obtain ⟨c1, iS1, hKn1⟩ := u_known (C := R_S) (T := T_S) (N := 9) (n := 9) hts in_S (hts _ mm_67)
  obtain ⟨c2, iS2, hKn2⟩ := u_known (C := R_L) (T := T_L) (N := 4) (n := 4) hts in_L (hts _ mm_35)
  obtain ⟨c3, iS3, hKn3⟩ := u_known (C := R_M) (T := T_M) (N := 21) (n := 21) hts in_M (hts _ mm_344)
  obtain ⟨cI, aI, nI_⟩ := arr_K (hts _ mm_64)
  obtain ⟨cJ, aJ, nJ_⟩ := arr_K (hts _ mm_65)
  obtain ⟨cZ, aZ, nZ_⟩ := arr_K (hts _ mm_413)
  obtain ⟨dC, dI, hKc⟩ : ∃ (dC : Nat → ClassId) (dI : Nat → Nat → Nat), ∀ (k : Nat) (q : vw_C), cl9[k]? = some q → u_Kn s q.1 q.2.1 q.2.2 (dC k) (dI k) := by
    refine ⟨fun k => if k = 0 then c0 else if k = 1 then c1 else if k = 2 then c2 else c3, fun k => if k = 0 then iS0 else if k = 1 then iS1 else if k = 2 then iS2 else iS3, ?_⟩
    intro k q hq
    match k, hq with
    | 0, hq => cases hq; exact hKn0
    | 1, hq => cases hq; exact hKn1
    | 2, hq => cases hq; exact hKn2
    | 3, hq => cases hq; exact hKn3
    | k + 4, hq => simp [cl9] at hq
  obtain ⟨D, hDe⟩ : ∃ D : va_G, D = (dC, dI) := ⟨_, rfl⟩
  have hS : va_S (fun q : Nat => s.heap.size ≤ q) s.heap s.heap [] := va_S.rf
  have hK : va_K D cl9 (tyy cI cJ cZ) s := by
    subst hDe
    refine ⟨hKc, fun k q h => ?_⟩
    match k, h with
    | 0, h => cases h; exact ⟨aI, nI_⟩
    | 1, h => cases h; exact ⟨aJ, nJ_⟩
    | 2, h => cases h; exact ⟨aZ, nZ_⟩
    | k + 3, h => simp [tyy] at h
  have hP : va_P D cl9 [] s.heap := fun k q h => by simp at h
  have hD : va_D (fun q : Nat => s.heap.size ≤ q) [] := ⟨fun i j p q h => by simp at h, fun k q h => by simp at h⟩
  obtain ⟨A, hAe⟩ : ∃ A : Nat → Prop, A = (fun q : Nat => s.heap.size ≤ q) := ⟨_, rfl⟩
  rw [← hAe] at hA hS hD
  have hAl : ∀ q : Nat, A q → s.heap.size ≤ q := fun q h => by rw [hAe] at h; exact h
  have hl := lv_entry ([.ref b]) (n := 4) (Nat.le_of_ble_eq_true rfl)
  rw [lg_entry_eq]
  generalize (lg_sl ([.ref b]) ++ List.replicate (4 - (lg_sl ([.ref b])).length) Slot.unset).toArray = ls at hl ⊢
  have hl : lv_has ls 4 [(0, .ref b)] := hl
  refine va_new (ci := 2) (fs := [.null, .null, .null, .int 0]) (C := R_L) (T := T_L) (N := 4) hx hb hts in_L ty_L tk_L hown (hts _ mm_34) (hts _ mm_35) (hts _ mm_27) hK hP hD hS hA rfl (fun j hj => by rcases (show j = 0 ∨ j = 1 ∨ j = 2 ∨ j = 3 by omega) with rfl | rfl | rfl | rfl <;> rfl) (Nat.le_of_ble_eq_true rfl) (Nat.le_of_ble_eq_true rfl) d_W_law_0 (fun q1 H hP hD hS => ?_)
  have hP : va_P D cl9 [(q1, .inr (2, [.null, .null, .null, .int 0]))] H := hP
  have hD : va_D A [(q1, .inr (2, [.null, .null, .null, .int 0]))] := hD
  refine W.widen (k := 1) (n := 4) (Nat.le_of_ble_eq_true rfl) (Nat.le_of_ble_eq_true rfl) ?_
  refine lv_dup hx hb d_W_law_3 rfl ?_
  have hPc := hP.sub (ws' := [(q1, .inr (2, [.null, .null, .null, .int 0]))]) [0] rfl
  have hDc := hD.sub (ws' := [(q1, .inr (2, [.null, .null, .null, .int 0]))]) [0] (by decide) rfl
  have hFc := va_free (wc := [(q1, .inr (2, [.null, .null, .null, .int 0]))]) hD hS hA [0] rfl
  refine va_callv (va_runI (As := []) (rest := [.ref q1]) ⟨hx, hb, hml, hown, hts⟩ (c_L_init l D cI cJ cZ q1 H.size) (cwI 0 hts (gI mm_38) rfl rfl rfl (hts _ mm_27) (hts _ mm_36) (hts _ mm_37) rfl hs_L_init ⟨Nat.le_of_ble_eq_true rfl, Nat.le_of_ble_eq_true rfl⟩) (ps_ (F := fun (_ : Unit) => [(q1, .inr (2, [.null, .null, .null, .int 0]))]) (u := ()) hK hPc hDc) rfl rfl hl.1 rfl (lv_room (Nat.le_of_ble_eq_true rfl)) d_W_law_4 ⟨Nat.le_of_ble_eq_true rfl, Nat.le_of_ble_eq_true rfl⟩) hS (fun q _ h => hFc q h) hFc (fun a2 t H1 locs ht hvm hw hB hz1 hk1 hS => ?_)
  obtain ⟨hP1, hK1, hD1⟩ := hB
  rw [ht] at hP1
  have hj := va_join (wr := []) hP hD [0] [] rfl rfl (by decide) (by decide) hk1 hFc hP1 hD1
  obtain ⟨hPj, hDj⟩ := hj
  subst hw
  have hP := hPj
  have hD := hDj
  clear hPj hDj
  generalize H1 = H at hP hS ⊢
  have hP : va_P D cl9 [((a2 0), .inr (2, [.ref (a2 1), .ref (a2 6), .ref (a2 16), .int (0 : Int32)])), ((a2 1), .inr (0, [.ref (a2 2), .ref (a2 3), .ref (a2 4), .ref (a2 5), .int (0 : Int32)])), ((a2 2), .inl (cI, 200, .inl (fun _ => 0))), ((a2 3), .inl (cI, 200, .inl (fun _ => 0))), ((a2 4), .inl (cI, 200, .inl (fun _ => 0))), ((a2 5), .inl (cJ, 200, .inr (.inl (fun _ => 0)))), ((a2 6), .inr (1, [.ref (a2 7), .ref (a2 8), .ref (a2 9), .ref (a2 10), .ref (a2 11), .ref (a2 12), .ref (a2 13), .ref (a2 14), .ref (a2 15)])), ((a2 7), .inl (cJ, 42, .inr (.inl (fun _ => 0)))), ((a2 8), .inl (cI, 21, .inl (fun _ => 0))), ((a2 9), .inl (cI, 21, .inl (fun _ => 0))), ((a2 10), .inl (cJ, 21, .inr (.inl (fun _ => 0)))), ((a2 11), .inl (cI, 420, .inl (fun _ => 0))), ((a2 12), .inl (cI, 21, .inl (fun _ => 0))), ((a2 13), .inl (cI, 21, .inl (fun _ => 0))), ((a2 14), .inl (cI, 10, .inl (fun _ => 0))), ((a2 15), .inl (cI, 126, .inl (fun _ => 0))), ((a2 16), .inl (cI, 20, .inl (fun _ => 0)))] H := hP
  have hD : va_D A [((a2 0), .inr (2, [.ref (a2 1), .ref (a2 6), .ref (a2 16), .int (0 : Int32)])), ((a2 1), .inr (0, [.ref (a2 2), .ref (a2 3), .ref (a2 4), .ref (a2 5), .int (0 : Int32)])), ((a2 2), .inl (cI, 200, .inl (fun _ => 0))), ((a2 3), .inl (cI, 200, .inl (fun _ => 0))), ((a2 4), .inl (cI, 200, .inl (fun _ => 0))), ((a2 5), .inl (cJ, 200, .inr (.inl (fun _ => 0)))), ((a2 6), .inr (1, [.ref (a2 7), .ref (a2 8), .ref (a2 9), .ref (a2 10), .ref (a2 11), .ref (a2 12), .ref (a2 13), .ref (a2 14), .ref (a2 15)])), ((a2 7), .inl (cJ, 42, .inr (.inl (fun _ => 0)))), ((a2 8), .inl (cI, 21, .inl (fun _ => 0))), ((a2 9), .inl (cI, 21, .inl (fun _ => 0))), ((a2 10), .inl (cJ, 21, .inr (.inl (fun _ => 0)))), ((a2 11), .inl (cI, 420, .inl (fun _ => 0))), ((a2 12), .inl (cI, 21, .inl (fun _ => 0))), ((a2 13), .inl (cI, 21, .inl (fun _ => 0))), ((a2 14), .inl (cI, 10, .inl (fun _ => 0))), ((a2 15), .inl (cI, 126, .inl (fun _ => 0))), ((a2 16), .inl (cI, 20, .inl (fun _ => 0)))] := hD
  refine W.widen (k := 17) (n := 1541) (Nat.le_of_ble_eq_true rfl) (Nat.le_of_ble_eq_true rfl) ?_
  refine lv_astore_n (lv' := [(1, .ref (a2 0)), (0, .ref b)]) hx hb d_W_law_7 rfl hl (by decide) rfl (fun ls hl => ?_)
  refine va_new (ci := 3) (fs := [.int 0, .null, .null, .null, .null, .int 0, .null, .null, .null, .null, .null, .null, .null, .null, .null, .null, .null, .int 0, .int 0, .null, .int 0]) (C := R_M) (T := T_M) (N := 21) hx hb hts in_M ty_M tk_M hown (hts _ mm_343) (hts _ mm_344) (hts _ mm_30) hK hP hD hS hA rfl (fun j hj => by rcases (show j = 0 ∨ j = 1 ∨ j = 2 ∨ j = 3 ∨ j = 4 ∨ j = 5 ∨ j = 6 ∨ j = 7 ∨ j = 8 ∨ j = 9 ∨ j = 10 ∨ j = 11 ∨ j = 12 ∨ j = 13 ∨ j = 14 ∨ j = 15 ∨ j = 16 ∨ j = 17 ∨ j = 18 ∨ j = 19 ∨ j = 20 by omega) with rfl | rfl | rfl | rfl | rfl | rfl | rfl | rfl | rfl | rfl | rfl | rfl | rfl | rfl | rfl | rfl | rfl | rfl | rfl | rfl | rfl <;> rfl) (Nat.le_of_ble_eq_true rfl) (Nat.le_of_ble_eq_true rfl) d_W_law_8 (fun q3 H hP hD hS => ?_)
  have hP : va_P D cl9 [((a2 0), .inr (2, [.ref (a2 1), .ref (a2 6), .ref (a2 16), .int (0 : Int32)])), ((a2 1), .inr (0, [.ref (a2 2), .ref (a2 3), .ref (a2 4), .ref (a2 5), .int (0 : Int32)])), ((a2 2), .inl (cI, 200, .inl (fun _ => 0))), ((a2 3), .inl (cI, 200, .inl (fun _ => 0))), ((a2 4), .inl (cI, 200, .inl (fun _ => 0))), ((a2 5), .inl (cJ, 200, .inr (.inl (fun _ => 0)))), ((a2 6), .inr (1, [.ref (a2 7), .ref (a2 8), .ref (a2 9), .ref (a2 10), .ref (a2 11), .ref (a2 12), .ref (a2 13), .ref (a2 14), .ref (a2 15)])), ((a2 7), .inl (cJ, 42, .inr (.inl (fun _ => 0)))), ((a2 8), .inl (cI, 21, .inl (fun _ => 0))), ((a2 9), .inl (cI, 21, .inl (fun _ => 0))), ((a2 10), .inl (cJ, 21, .inr (.inl (fun _ => 0)))), ((a2 11), .inl (cI, 420, .inl (fun _ => 0))), ((a2 12), .inl (cI, 21, .inl (fun _ => 0))), ((a2 13), .inl (cI, 21, .inl (fun _ => 0))), ((a2 14), .inl (cI, 10, .inl (fun _ => 0))), ((a2 15), .inl (cI, 126, .inl (fun _ => 0))), ((a2 16), .inl (cI, 20, .inl (fun _ => 0))), (q3, .inr (3, [.int 0, .null, .null, .null, .null, .int 0, .null, .null, .null, .null, .null, .null, .null, .null, .null, .null, .null, .int 0, .int 0, .null, .int 0]))] H := hP
  have hD : va_D A [((a2 0), .inr (2, [.ref (a2 1), .ref (a2 6), .ref (a2 16), .int (0 : Int32)])), ((a2 1), .inr (0, [.ref (a2 2), .ref (a2 3), .ref (a2 4), .ref (a2 5), .int (0 : Int32)])), ((a2 2), .inl (cI, 200, .inl (fun _ => 0))), ((a2 3), .inl (cI, 200, .inl (fun _ => 0))), ((a2 4), .inl (cI, 200, .inl (fun _ => 0))), ((a2 5), .inl (cJ, 200, .inr (.inl (fun _ => 0)))), ((a2 6), .inr (1, [.ref (a2 7), .ref (a2 8), .ref (a2 9), .ref (a2 10), .ref (a2 11), .ref (a2 12), .ref (a2 13), .ref (a2 14), .ref (a2 15)])), ((a2 7), .inl (cJ, 42, .inr (.inl (fun _ => 0)))), ((a2 8), .inl (cI, 21, .inl (fun _ => 0))), ((a2 9), .inl (cI, 21, .inl (fun _ => 0))), ((a2 10), .inl (cJ, 21, .inr (.inl (fun _ => 0)))), ((a2 11), .inl (cI, 420, .inl (fun _ => 0))), ((a2 12), .inl (cI, 21, .inl (fun _ => 0))), ((a2 13), .inl (cI, 21, .inl (fun _ => 0))), ((a2 14), .inl (cI, 10, .inl (fun _ => 0))), ((a2 15), .inl (cI, 126, .inl (fun _ => 0))), ((a2 16), .inl (cI, 20, .inl (fun _ => 0))), (q3, .inr (3, [.int 0, .null, .null, .null, .null, .int 0, .null, .null, .null, .null, .null, .null, .null, .null, .null, .null, .null, .int 0, .int 0, .null, .int 0]))] := hD
  refine W.widen (k := 18) (n := 1562) (Nat.le_of_ble_eq_true rfl) (Nat.le_of_ble_eq_true rfl) ?_
  refine lv_dup hx hb d_W_law_11 rfl ?_
  have hPc := hP.sub (ws' := [(q3, .inr (3, [.int 0, .null, .null, .null, .null, .int 0, .null, .null, .null, .null, .null, .null, .null, .null, .null, .null, .null, .int 0, .int 0, .null, .int 0]))]) [17] rfl
  have hDc := hD.sub (ws' := [(q3, .inr (3, [.int 0, .null, .null, .null, .null, .int 0, .null, .null, .null, .null, .null, .null, .null, .null, .null, .null, .null, .int 0, .int 0, .null, .int 0]))]) [17] (by decide) rfl
  have hFc := va_free (wc := [(q3, .inr (3, [.int 0, .null, .null, .null, .null, .int 0, .null, .null, .null, .null, .null, .null, .null, .null, .null, .null, .null, .int 0, .int 0, .null, .int 0]))]) hD hS hA [17] rfl
  refine va_callv (va_runI (As := []) (rest := [.ref q3]) ⟨hx, hb, hml, hown, hts⟩ (c_M_init l D cI cJ cZ q3 H.size) (cwI 0 hts (gI mm_347) rfl rfl rfl (hts _ mm_30) (hts _ mm_345) (hts _ mm_346) rfl hs_M_init ⟨Nat.le_of_ble_eq_true rfl, Nat.le_of_ble_eq_true rfl⟩) (ps_ (F := fun (_ : Unit) => [(q3, .inr (3, [.int 0, .null, .null, .null, .null, .int 0, .null, .null, .null, .null, .null, .null, .null, .null, .null, .null, .null, .int 0, .int 0, .null, .int 0]))]) (u := ()) hK hPc hDc) rfl rfl hl.1 rfl (lv_room (Nat.le_of_ble_eq_true rfl)) d_W_law_12 ⟨Nat.le_of_ble_eq_true rfl, Nat.le_of_ble_eq_true rfl⟩) hS (fun q _ h => hFc q h) hFc (fun a4 t H1 locs ht hvm hw hB hz1 hk1 hS => ?_)
  obtain ⟨hP1, hK1, hD1⟩ := hB
  rw [ht] at hP1
  have hj := va_join (wr := [((a2 0), .inr (2, [.ref (a2 1), .ref (a2 6), .ref (a2 16), .int (0 : Int32)])), ((a2 1), .inr (0, [.ref (a2 2), .ref (a2 3), .ref (a2 4), .ref (a2 5), .int (0 : Int32)])), ((a2 2), .inl (cI, 200, .inl (fun _ => 0))), ((a2 3), .inl (cI, 200, .inl (fun _ => 0))), ((a2 4), .inl (cI, 200, .inl (fun _ => 0))), ((a2 5), .inl (cJ, 200, .inr (.inl (fun _ => 0)))), ((a2 6), .inr (1, [.ref (a2 7), .ref (a2 8), .ref (a2 9), .ref (a2 10), .ref (a2 11), .ref (a2 12), .ref (a2 13), .ref (a2 14), .ref (a2 15)])), ((a2 7), .inl (cJ, 42, .inr (.inl (fun _ => 0)))), ((a2 8), .inl (cI, 21, .inl (fun _ => 0))), ((a2 9), .inl (cI, 21, .inl (fun _ => 0))), ((a2 10), .inl (cJ, 21, .inr (.inl (fun _ => 0)))), ((a2 11), .inl (cI, 420, .inl (fun _ => 0))), ((a2 12), .inl (cI, 21, .inl (fun _ => 0))), ((a2 13), .inl (cI, 21, .inl (fun _ => 0))), ((a2 14), .inl (cI, 10, .inl (fun _ => 0))), ((a2 15), .inl (cI, 126, .inl (fun _ => 0))), ((a2 16), .inl (cI, 20, .inl (fun _ => 0)))]) hP hD [17] [0, 1, 2, 3, 4, 5, 6, 7, 8, 9, 10, 11, 12, 13, 14, 15, 16] rfl rfl (by decide) (by decide) hk1 hFc hP1 hD1
  obtain ⟨hPj, hDj⟩ := hj
  subst hw
  have hP := hPj
  have hD := hDj
  clear hPj hDj
  generalize H1 = H at hP hS ⊢
  have hP : va_P D cl9 [((a2 0), .inr (2, [.ref (a2 1), .ref (a2 6), .ref (a2 16), .int (0 : Int32)])), ((a2 1), .inr (0, [.ref (a2 2), .ref (a2 3), .ref (a2 4), .ref (a2 5), .int (0 : Int32)])), ((a2 2), .inl (cI, 200, .inl (fun _ => 0))), ((a2 3), .inl (cI, 200, .inl (fun _ => 0))), ((a2 4), .inl (cI, 200, .inl (fun _ => 0))), ((a2 5), .inl (cJ, 200, .inr (.inl (fun _ => 0)))), ((a2 6), .inr (1, [.ref (a2 7), .ref (a2 8), .ref (a2 9), .ref (a2 10), .ref (a2 11), .ref (a2 12), .ref (a2 13), .ref (a2 14), .ref (a2 15)])), ((a2 7), .inl (cJ, 42, .inr (.inl (fun _ => 0)))), ((a2 8), .inl (cI, 21, .inl (fun _ => 0))), ((a2 9), .inl (cI, 21, .inl (fun _ => 0))), ((a2 10), .inl (cJ, 21, .inr (.inl (fun _ => 0)))), ((a2 11), .inl (cI, 420, .inl (fun _ => 0))), ((a2 12), .inl (cI, 21, .inl (fun _ => 0))), ((a2 13), .inl (cI, 21, .inl (fun _ => 0))), ((a2 14), .inl (cI, 10, .inl (fun _ => 0))), ((a2 15), .inl (cI, 126, .inl (fun _ => 0))), ((a2 16), .inl (cI, 20, .inl (fun _ => 0))), ((a4 0), .inr (3, [.int 0, .ref (a4 1), .ref (a4 2), .ref (a4 3), .ref (a4 4), .int 0, .ref (a4 5), .ref (a4 6), .ref (a4 7), .ref (a4 8), .ref (a4 9), .ref (a4 10), .ref (a4 11), .ref (a4 12), .ref (a4 13), .ref (a4 14), .ref (a4 15), .int 0, .int 0, .ref (a4 16), .int 0])), ((a4 1), .inl (cI, 200, .inl (fun _ => 0))), ((a4 2), .inl (cI, 200, .inl (fun _ => 0))), ((a4 3), .inl (cJ, 200, .inr (.inl (fun _ => 0)))), ((a4 4), .inl (cJ, 200, .inr (.inl (fun _ => 0)))), ((a4 5), .inl (cZ, 2100, .inl (fun _ => 0))), ((a4 6), .inl (cI, 21, .inl (fun _ => 0))), ((a4 7), .inl (cI, 21, .inl (fun _ => 0))), ((a4 8), .inl (cJ, 21, .inr (.inl (fun _ => 0)))), ((a4 9), .inl (cI, 420, .inl (fun _ => 0))), ((a4 10), .inl (cI, 21, .inl (fun _ => 0))), ((a4 11), .inl (cI, 126, .inl (fun _ => 0))), ((a4 12), .inl (cI, 21, .inl (fun _ => 0))), ((a4 13), .inl (cI, 10, .inl (fun _ => 0))), ((a4 14), .inl (cZ, 200, .inl (fun _ => 0))), ((a4 15), .inl (cI, 200, .inl (fun _ => 0))), ((a4 16), .inl (cI, 20, .inl (fun _ => 0)))] H := hP
  have hD : va_D A [((a2 0), .inr (2, [.ref (a2 1), .ref (a2 6), .ref (a2 16), .int (0 : Int32)])), ((a2 1), .inr (0, [.ref (a2 2), .ref (a2 3), .ref (a2 4), .ref (a2 5), .int (0 : Int32)])), ((a2 2), .inl (cI, 200, .inl (fun _ => 0))), ((a2 3), .inl (cI, 200, .inl (fun _ => 0))), ((a2 4), .inl (cI, 200, .inl (fun _ => 0))), ((a2 5), .inl (cJ, 200, .inr (.inl (fun _ => 0)))), ((a2 6), .inr (1, [.ref (a2 7), .ref (a2 8), .ref (a2 9), .ref (a2 10), .ref (a2 11), .ref (a2 12), .ref (a2 13), .ref (a2 14), .ref (a2 15)])), ((a2 7), .inl (cJ, 42, .inr (.inl (fun _ => 0)))), ((a2 8), .inl (cI, 21, .inl (fun _ => 0))), ((a2 9), .inl (cI, 21, .inl (fun _ => 0))), ((a2 10), .inl (cJ, 21, .inr (.inl (fun _ => 0)))), ((a2 11), .inl (cI, 420, .inl (fun _ => 0))), ((a2 12), .inl (cI, 21, .inl (fun _ => 0))), ((a2 13), .inl (cI, 21, .inl (fun _ => 0))), ((a2 14), .inl (cI, 10, .inl (fun _ => 0))), ((a2 15), .inl (cI, 126, .inl (fun _ => 0))), ((a2 16), .inl (cI, 20, .inl (fun _ => 0))), ((a4 0), .inr (3, [.int 0, .ref (a4 1), .ref (a4 2), .ref (a4 3), .ref (a4 4), .int 0, .ref (a4 5), .ref (a4 6), .ref (a4 7), .ref (a4 8), .ref (a4 9), .ref (a4 10), .ref (a4 11), .ref (a4 12), .ref (a4 13), .ref (a4 14), .ref (a4 15), .int 0, .int 0, .ref (a4 16), .int 0])), ((a4 1), .inl (cI, 200, .inl (fun _ => 0))), ((a4 2), .inl (cI, 200, .inl (fun _ => 0))), ((a4 3), .inl (cJ, 200, .inr (.inl (fun _ => 0)))), ((a4 4), .inl (cJ, 200, .inr (.inl (fun _ => 0)))), ((a4 5), .inl (cZ, 2100, .inl (fun _ => 0))), ((a4 6), .inl (cI, 21, .inl (fun _ => 0))), ((a4 7), .inl (cI, 21, .inl (fun _ => 0))), ((a4 8), .inl (cJ, 21, .inr (.inl (fun _ => 0)))), ((a4 9), .inl (cI, 420, .inl (fun _ => 0))), ((a4 10), .inl (cI, 21, .inl (fun _ => 0))), ((a4 11), .inl (cI, 126, .inl (fun _ => 0))), ((a4 12), .inl (cI, 21, .inl (fun _ => 0))), ((a4 13), .inl (cI, 10, .inl (fun _ => 0))), ((a4 14), .inl (cZ, 200, .inl (fun _ => 0))), ((a4 15), .inl (cI, 200, .inl (fun _ => 0))), ((a4 16), .inl (cI, 20, .inl (fun _ => 0)))] := hD
  refine W.widen (k := 34) (n := 5543) (Nat.le_of_ble_eq_true rfl) (Nat.le_of_ble_eq_true rfl) ?_
  refine lv_astore_n (lv' := [(2, .ref (a4 0)), (1, .ref (a2 0)), (0, .ref b)]) hx hb d_W_law_15 rfl hl (by decide) rfl (fun ls hl => ?_)
  refine lv_iconst (v := (0 : Int32)) hx hb d_W_law_16 (by decide) ?_
  refine lv_istore_n (lv' := [(3, .int (0 : Int32)), (2, .ref (a4 0)), (1, .ref (a2 0)), (0, .ref b)]) hx hb d_W_law_17 rfl hl (by decide) rfl (fun ls hl => ?_)
  have hP : va_P D cl9 (cW cI cJ cZ a2 a4 (lib0, mod0)) H := hP
  have hD : va_D A (cW cI cJ cZ a2 a4 (lib0, mod0)) := hD
  exact w_W_law_18 ⟨hx, hb, hr, hml, hown, hts, hlocks, hK, hA⟩ hX hbl hAl FU (0 : Int32) (lib0, mod0) H _ ls hP hD hS (lv_sub hl [3, 2, 1, 0] rfl) hM
