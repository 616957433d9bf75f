section
variable {p : Program} {l : Launch} {e : Env} {s : State} {m : MethodId} {args : Array Value} {below : List Frame} {meth : Method} {c : Code} {D : va_G} {cI cJ cZ : ClassId} {A : Nat → Prop} {n a : Nat}
set_option maxHeartbeats 4000000 in
set_option maxRecDepth 100000 in
theorem w_J_fillJ_6s {res : (Nat → Int64)} (C : Cx p s m args meth c prog_8_method_101_code 5 (Option.none : Option FieldType) "java/util/Arrays" tb D cl9 (tyy cI cJ cZ) A) {k6 : Int64 → Int32 → Int32 → (Nat → Int64) → Option (Nat → Int64)} (hk6 : ∀ (y1 : Int64) (x3 : Int32) (x4 : Int32) (u : (Nat → Int64)) (H : Heap) (locs : List Loc) (ls : Array Slot), va_P D cl9 ((cJJ cJ n a) u) H → va_D A ((cJJ cJ n a) u) → va_S A s.heap H locs → lv_has ls 5 [(0, .ref a), (1, .long y1), (3, .int x3), (4, .int x4)] → k6 y1 x3 x4 u = some res → W p l e rm_J_fillJ s m args below meth c H locs 0 0 (MQ below (Qwv D cl9 (tyy cI cJ cZ) (cJJ cJ n a) A res) args s 0 0 A) (F0 m 6 ls [])) (y1 : Int64) (x3 : Int32) (x4 : Int32) (u : (Nat → Int64)) (H : Heap) (locs : List Loc) (ls : Array Slot) (hP : va_P D cl9 ((cJJ cJ n a) u) H) (hD : va_D A ((cJJ cJ n a) u)) (hS : va_S A s.heap H locs) (hl : lv_has ls 5 [(0, .ref a), (1, .long y1), (3, .int x3), (4, .int x4)]) (hM : B_J_fillJ_6s n k6 y1 x3 x4 u = some res) : W p l e rm_J_fillJ s m args below meth c H locs 0 0 (MQ below (Qwv D cl9 (tyy cI cJ cZ) (cJJ cJ n a) A res) args s 0 0 A) (F0 m 6 ls []) := by
  have C0 := C
  obtain ⟨hx, hb, hr, hml, hown, hts, hlocks, hK, hA⟩ := C
  replace C := C0
  unfold B_J_fillJ_6s at hM
  refine lv_iload_n hx hb d_J_fillJ_6 rfl (lv_at hl 2 rfl) ?_
  refine lv_iload hx hb d_J_fillJ_7 (lv_at hl 3 rfl) ?_
  refine lv_icmp_ge (tgt := 22) hx hb d_J_fillJ_9 (by decide) (fun c1 => ?_) (fun c1 => ?_)
  · replace hM := it_t c1 hM
    obtain rfl := Option.some.inj hM
    exact W.vret hx hb hr (fun t ht hW => ⟨⟨u, rfl, rfl, by rw [ht]; exact hP, va_K.moved hW.alike hK, hD⟩, hS.F ht⟩) hS.2.2 d_J_fillJ_22
  · replace hM := it_f c1 hM
    refine lv_aload_n hx hb d_J_fillJ_12 rfl (lv_at hl 0 rfl) ?_
    refine lv_iload_n hx hb d_J_fillJ_13 rfl (lv_at hl 2 rfl) ?_
    refine lv_lload_n hx hb d_J_fillJ_14 rfl (lv_at hl 1 rfl) ?_
    obtain ⟨h2, hM⟩ := gd_some hM
    refine va_last hx hb hK hP hD hS 0 1 rfl rfl (vp_in_iff.mpr h2) d_J_fillJ_15 (fun H locs hP hD hS => ?_)
    have hP : va_P D cl9 ((cJJ cJ n a) (vp_updL u x3.toNatClampNeg y1)) H := hP
    have hD : va_D A ((cJJ cJ n a) (vp_updL u x3.toNatClampNeg y1)) := hD
    refine lv_iinc (v := (x3 + (1 : Int32))) (lv' := [(3, .int (x3 + (1 : Int32))), (0, .ref a), (1, .long y1), (4, .int x4)]) hx hb d_J_fillJ_16 hl (k := 2) rfl rfl (by decide) rfl (fun ls hl => ?_)
    refine lv_goto (tgt := 6) hx hb d_J_fillJ_19 (by decide) ?_
    exact hk6 y1 (x3 + (1 : Int32)) x4 (vp_updL u x3.toNatClampNeg y1) H locs ls hP hD hS (lv_sub hl [1, 2, 0, 3] rfl) hM
theorem w_J_fillJ_6 {res : (Nat → Int64)} (C : Cx p s m args meth c prog_8_method_101_code 5 (Option.none : Option FieldType) "java/util/Arrays" tb D cl9 (tyy cI cJ cZ) A) : ∀ (fu : Nat) (y1 : Int64) (x3 : Int32) (x4 : Int32) (u : (Nat → Int64)) (H : Heap) (locs : List Loc) (ls : Array Slot), va_P D cl9 ((cJJ cJ n a) u) H → va_D A ((cJJ cJ n a) u) → va_S A s.heap H locs → lv_has ls 5 [(0, .ref a), (1, .long y1), (3, .int x3), (4, .int x4)] → B_J_fillJ_6 n fu y1 x3 x4 u = some res → W p l e rm_J_fillJ s m args below meth c H locs 0 0 (MQ below (Qwv D cl9 (tyy cI cJ cZ) (cJJ cJ n a) A res) args s 0 0 A) (F0 m 6 ls []) := by
  intro fu
  induction fu with
  | zero =>
    intro y1 x3 x4 u H locs ls hP hD hS hl hM
    have hM : (none : Option (Nat → Int64)) = some res := hM
    cases hM
  | succ fu ih =>
    intro y1 x3 x4 u H locs ls hP hD hS hl hM
    exact w_J_fillJ_6s C ih y1 x3 x4 u H locs ls hP hD hS hl hM
set_option maxHeartbeats 4000000 in
set_option maxRecDepth 100000 in
theorem w_J_fillJ_0 {res : (Nat → Int64)} (C : Cx p s m args meth c prog_8_method_101_code 5 (Option.none : Option FieldType) "java/util/Arrays" tb D cl9 (tyy cI cJ cZ) A) (y1 : Int64) (u : (Nat → Int64)) (H : Heap) (locs : List Loc) (ls : Array Slot) (hP : va_P D cl9 ((cJJ cJ n a) u) H) (hD : va_D A ((cJJ cJ n a) u)) (hS : va_S A s.heap H locs) (hl : lv_has ls 5 [(0, .ref a), (1, .long y1)]) (hM : B_J_fillJ_0 n y1 u = some res) : W p l e rm_J_fillJ s m args below meth c H locs 0 0 (MQ below (Qwv D cl9 (tyy cI cJ cZ) (cJJ cJ n a) A res) args s 0 0 A) (F0 m 0 ls []) := by
  have C0 := C
  obtain ⟨hx, hb, hr, hml, hown, hts, hlocks, hK, hA⟩ := C
  replace C := C0
  unfold B_J_fillJ_0 at hM
  refine lv_iconst (v := (0 : Int32)) hx hb d_J_fillJ_0 (by decide) ?_
  refine lv_istore_n (lv' := [(3, .int (0 : Int32)), (0, .ref a), (1, .long y1)]) hx hb d_J_fillJ_1 rfl hl (by decide) rfl (fun ls hl => ?_)
  refine lv_aload_n hx hb d_J_fillJ_2 rfl (lv_at hl 1 rfl) ?_
  refine va_alen (v := (nI (n))) hx hb hK hP 0 1 rfl rfl rfl d_J_fillJ_3 ?_
  refine lv_istore (lv' := [(4, .int (nI (n))), (3, .int (0 : Int32)), (0, .ref a), (1, .long y1)]) hx hb d_J_fillJ_4 hl (by decide) rfl (fun ls hl => ?_)
  exact w_J_fillJ_6 C FU y1 (0 : Int32) (nI (n)) u H locs ls hP hD hS (lv_sub hl [2, 3, 1, 0] rfl) hM
end
set_option maxRecDepth 100000 in
theorem c_J_fillJ (l : Launch) (D : va_G) (cI cJ cZ : ClassId) (n a : Nat) (sz : Nat) (y1 : Int64) (u : (Nat → Int64)) (res : (Nat → Int64)) (hM : B_J_fillJ_0 n y1 u = some res) : Met l y_J_fillJ ws_J_fillJ rm_J_fillJ (va_Pc [.ref a, .long y1] (pr_ D cl9 (tyy cI cJ cZ) (cJJ cJ n a) u sz)) (Qwv D cl9 (tyy cI cJ cZ) (cJJ cJ n a) (va_A ((cJJ cJ n a) u) sz) res) 0 0 (va_A ((cJJ cJ n a) u) sz) := by
  refine Met.ofW (cc := prog_8_method_101_code) (maxL := 5) (ret := (Option.none : Option FieldType)) (by decide) rfl ?_
  intro p e s m args below meth c s₁ B hml hv
  obtain ⟨rfl, hsz, hP, hK, hD0⟩ := hv
  subst hsz
  have hts0 := atoms_spec (ws := ws_J_fillJ) B.pre
  have hl := lv_entry ([.ref a, .long y1]) (n := 5) (Nat.le_of_ble_eq_true rfl)
  rw [lg_entry_eq]
  generalize (lg_sl ([.ref a, .long y1]) ++ List.replicate (5 - (lg_sl ([.ref a, .long y1])).length) Slot.unset).toArray = ls at hl ⊢
  exact w_J_fillJ_0 ⟨B.exec, B.bytes, B.returns, hml, findClass_of_methodNamed B.named, fun w h => hts0 w (List.mem_cons_of_mem _ h), B.notSynchronized, hK, fun q h => Or.inr h⟩ y1 u s.heap [] ls hP hD0.self va_S.rf hl hM
section
variable {p : Program} {l : Launch} {e : Env} {s : State} {m : MethodId} {args : Array Value} {below : List Frame} {meth : Method} {c : Code} {D : va_G} {cI cJ cZ : ClassId} {A : Nat → Prop} {n a : Nat}
set_option maxHeartbeats 4000000 in
set_option maxRecDepth 100000 in
theorem w_J_fillI_5s {res : (Nat → Int32)} (C : Cx p s m args meth c prog_8_method_103_code 4 (Option.none : Option FieldType) "java/util/Arrays" tb D cl9 (tyy cI cJ cZ) A) {k5 : Int32 → Int32 → Int32 → (Nat → Int32) → Option (Nat → Int32)} (hk5 : ∀ (x1 : Int32) (x2 : Int32) (x3 : Int32) (u : (Nat → Int32)) (H : Heap) (locs : List Loc) (ls : Array Slot), va_P D cl9 ((cJI cI n a) u) H → va_D A ((cJI cI n a) u) → va_S A s.heap H locs → lv_has ls 4 [(0, .ref a), (1, .int x1), (2, .int x2), (3, .int x3)] → k5 x1 x2 x3 u = some res → W p l e rm_J_fillI s m args below meth c H locs 0 0 (MQ below (Qwv D cl9 (tyy cI cJ cZ) (cJI cI n a) A res) args s 0 0 A) (F0 m 5 ls [])) (x1 : Int32) (x2 : Int32) (x3 : Int32) (u : (Nat → Int32)) (H : Heap) (locs : List Loc) (ls : Array Slot) (hP : va_P D cl9 ((cJI cI n a) u) H) (hD : va_D A ((cJI cI n a) u)) (hS : va_S A s.heap H locs) (hl : lv_has ls 4 [(0, .ref a), (1, .int x1), (2, .int x2), (3, .int x3)]) (hM : B_J_fillI_5s n k5 x1 x2 x3 u = some res) : W p l e rm_J_fillI s m args below meth c H locs 0 0 (MQ below (Qwv D cl9 (tyy cI cJ cZ) (cJI cI n a) A res) args s 0 0 A) (F0 m 5 ls []) := by
  have C0 := C
  obtain ⟨hx, hb, hr, hml, hown, hts, hlocks, hK, hA⟩ := C
  replace C := C0
  unfold B_J_fillI_5s at hM
  refine lv_iload_n hx hb d_J_fillI_5 rfl (lv_at hl 2 rfl) ?_
  refine lv_iload_n hx hb d_J_fillI_6 rfl (lv_at hl 3 rfl) ?_
  refine lv_icmp_ge (tgt := 20) hx hb d_J_fillI_7 (by decide) (fun c1 => ?_) (fun c1 => ?_)
  · replace hM := it_t c1 hM
    obtain rfl := Option.some.inj hM
    exact W.vret hx hb hr (fun t ht hW => ⟨⟨u, rfl, rfl, by rw [ht]; exact hP, va_K.moved hW.alike hK, hD⟩, hS.F ht⟩) hS.2.2 d_J_fillI_20
  · replace hM := it_f c1 hM
    refine lv_aload_n hx hb d_J_fillI_10 rfl (lv_at hl 0 rfl) ?_
    refine lv_iload_n hx hb d_J_fillI_11 rfl (lv_at hl 2 rfl) ?_
    refine lv_iload_n hx hb d_J_fillI_12 rfl (lv_at hl 1 rfl) ?_
    obtain ⟨h2, hM⟩ := gd_some hM
    refine va_iast hx hb hK hP hD hS 0 0 rfl rfl (vp_in_iff.mpr h2) d_J_fillI_13 (fun H locs hP hD hS => ?_)
    have hP : va_P D cl9 ((cJI cI n a) (upd u x2.toNatClampNeg x1)) H := hP
    have hD : va_D A ((cJI cI n a) (upd u x2.toNatClampNeg x1)) := hD
    refine lv_iinc (v := (x2 + (1 : Int32))) (lv' := [(2, .int (x2 + (1 : Int32))), (0, .ref a), (1, .int x1), (3, .int x3)]) hx hb d_J_fillI_14 hl (k := 2) rfl rfl (by decide) rfl (fun ls hl => ?_)
    refine lv_goto (tgt := 5) hx hb d_J_fillI_17 (by decide) ?_
    exact hk5 x1 (x2 + (1 : Int32)) x3 (upd u x2.toNatClampNeg x1) H locs ls hP hD hS (lv_sub hl [1, 2, 0, 3] rfl) hM
theorem w_J_fillI_5 {res : (Nat → Int32)} (C : Cx p s m args meth c prog_8_method_103_code 4 (Option.none : Option FieldType) "java/util/Arrays" tb D cl9 (tyy cI cJ cZ) A) : ∀ (fu : Nat) (x1 : Int32) (x2 : Int32) (x3 : Int32) (u : (Nat → Int32)) (H : Heap) (locs : List Loc) (ls : Array Slot), va_P D cl9 ((cJI cI n a) u) H → va_D A ((cJI cI n a) u) → va_S A s.heap H locs → lv_has ls 4 [(0, .ref a), (1, .int x1), (2, .int x2), (3, .int x3)] → B_J_fillI_5 n fu x1 x2 x3 u = some res → W p l e rm_J_fillI s m args below meth c H locs 0 0 (MQ below (Qwv D cl9 (tyy cI cJ cZ) (cJI cI n a) A res) args s 0 0 A) (F0 m 5 ls []) := by
  intro fu
  induction fu with
  | zero =>
    intro x1 x2 x3 u H locs ls hP hD hS hl hM
    have hM : (none : Option (Nat → Int32)) = some res := hM
    cases hM
  | succ fu ih =>
    intro x1 x2 x3 u H locs ls hP hD hS hl hM
    exact w_J_fillI_5s C ih x1 x2 x3 u H locs ls hP hD hS hl hM
set_option maxHeartbeats 4000000 in
set_option maxRecDepth 100000 in
theorem w_J_fillI_0 {res : (Nat → Int32)} (C : Cx p s m args meth c prog_8_method_103_code 4 (Option.none : Option FieldType) "java/util/Arrays" tb D cl9 (tyy cI cJ cZ) A) (x1 : Int32) (u : (Nat → Int32)) (H : Heap) (locs : List Loc) (ls : Array Slot) (hP : va_P D cl9 ((cJI cI n a) u) H) (hD : va_D A ((cJI cI n a) u)) (hS : va_S A s.heap H locs) (hl : lv_has ls 4 [(0, .ref a), (1, .int x1)]) (hM : B_J_fillI_0 n x1 u = some res) : W p l e rm_J_fillI s m args below meth c H locs 0 0 (MQ below (Qwv D cl9 (tyy cI cJ cZ) (cJI cI n a) A res) args s 0 0 A) (F0 m 0 ls []) := by
  have C0 := C
  obtain ⟨hx, hb, hr, hml, hown, hts, hlocks, hK, hA⟩ := C
  replace C := C0
  unfold B_J_fillI_0 at hM
  refine lv_iconst (v := (0 : Int32)) hx hb d_J_fillI_0 (by decide) ?_
  refine lv_istore_n (lv' := [(2, .int (0 : Int32)), (0, .ref a), (1, .int x1)]) hx hb d_J_fillI_1 rfl hl (by decide) rfl (fun ls hl => ?_)
  refine lv_aload_n hx hb d_J_fillI_2 rfl (lv_at hl 1 rfl) ?_
  refine va_alen (v := (nI (n))) hx hb hK hP 0 0 rfl rfl rfl d_J_fillI_3 ?_
  refine lv_istore_n (lv' := [(3, .int (nI (n))), (2, .int (0 : Int32)), (0, .ref a), (1, .int x1)]) hx hb d_J_fillI_4 rfl hl (by decide) rfl (fun ls hl => ?_)
  exact w_J_fillI_5 C FU x1 (0 : Int32) (nI (n)) u H locs ls hP hD hS (lv_sub hl [2, 3, 1, 0] rfl) hM
end
set_option maxRecDepth 100000 in
theorem c_J_fillI (l : Launch) (D : va_G) (cI cJ cZ : ClassId) (n a : Nat) (sz : Nat) (x1 : Int32) (u : (Nat → Int32)) (res : (Nat → Int32)) (hM : B_J_fillI_0 n x1 u = some res) : Met l y_J_fillI ws_J_fillI rm_J_fillI (va_Pc [.ref a, .int x1] (pr_ D cl9 (tyy cI cJ cZ) (cJI cI n a) u sz)) (Qwv D cl9 (tyy cI cJ cZ) (cJI cI n a) (va_A ((cJI cI n a) u) sz) res) 0 0 (va_A ((cJI cI n a) u) sz) := by
  refine Met.ofW (cc := prog_8_method_103_code) (maxL := 4) (ret := (Option.none : Option FieldType)) (by decide) rfl ?_
  intro p e s m args below meth c s₁ B hml hv
  obtain ⟨rfl, hsz, hP, hK, hD0⟩ := hv
  subst hsz
  have hts0 := atoms_spec (ws := ws_J_fillI) B.pre
  have hl := lv_entry ([.ref a, .int x1]) (n := 4) (Nat.le_of_ble_eq_true rfl)
  rw [lg_entry_eq]
  generalize (lg_sl ([.ref a, .int x1]) ++ List.replicate (4 - (lg_sl ([.ref a, .int x1])).length) Slot.unset).toArray = ls at hl ⊢
  exact w_J_fillI_0 ⟨B.exec, B.bytes, B.returns, hml, findClass_of_methodNamed B.named, fun w h => hts0 w (List.mem_cons_of_mem _ h), B.notSynchronized, hK, fun q h => Or.inr h⟩ x1 u s.heap [] ls hP hD0.self va_S.rf hl hM
section
variable {p : Program} {l : Launch} {e : Env} {s : State} {m : MethodId} {args : Array Value} {below : List Frame} {meth : Method} {c : Code} {D : va_G} {cI cJ cZ : ClassId} {A : Nat → Prop} {ad : Nat → Nat}
set_option maxHeartbeats 4000000 in
set_option maxRecDepth 100000 in
theorem w_S_clear_0 {res : Lib} (C : Cx p s m args meth c prog_3_method_2_code 1 (Option.none : Option FieldType) "PlainLibrary$Shelves" tb D cl9 (tyy cI cJ cZ) A) (u : Lib) (H : Heap) (locs : List Loc) (ls : Array Slot) (hP : va_P D cl9 ((cL cI cJ cZ ad) u) H) (hD : va_D A ((cL cI cJ cZ ad) u)) (hS : va_S A s.heap H locs) (hl : lv_has ls 1 [(0, .ref (ad 6))]) (hM : B_S_clear_0 u = some res) : W p l e rm_S_clear s m args below meth c H locs 0 0 (MQ below (Qwv D cl9 (tyy cI cJ cZ) (cL cI cJ cZ ad) A res) args s 0 0 A) (F0 m 0 ls []) := by
  have C0 := C
  obtain ⟨hx, hb, hr, hml, hown, hts, hlocks, hK, hA⟩ := C
  replace C := C0
  unfold B_S_clear_0 at hM
  refine lv_aload_n hx hb d_S_clear_0 rfl (lv_at hl 0 rfl) ?_
  refine va_get (D := D) (ci := 1) (v := .ref (ad 7)) (C := R_S) (T := T_S) (N := 9) hx hb hts in_S hown hK hP 6 rfl rfl 0 (by decide) (hts _ mm_72) (fun _ h9 => h9) rfl d_S_clear_1 ?_
  refine lv_lconst (v := (0 : Int64)) hx hb d_S_clear_4 (by decide) ?_
  obtain ⟨v1, hq1, hM⟩ := bd_some hM
  refine fj_v (F := (cJJ cJ 42 (ad 7))) (u := (l_hb u)) (res := v1) (ws := ((cL cI cJ cZ ad) u)) (wr := ((((cL cI cJ cZ ad) u)).eraseIdx 7)) (va_runS (As := [.ref (ad 7), .long (0 : Int64)]) (rest := []) ⟨hx, hb, hml, hown, hts⟩ (c_J_fillJ l D cI cJ cZ 42 (ad 7) H.size (0 : Int64) (l_hb u) v1 hq1) (va_cwS 2 hts (gS mm_155 mm_156 mm_32 mm_157) rfl rfl rfl hs_J_fillJ ⟨Nat.le_of_ble_eq_true rfl, Nat.le_of_ble_eq_true rfl⟩) (ps_ (F := (cJJ cJ 42 (ad 7))) (u := (l_hb u)) hK (hP.sub (ws' := (cJJ cJ 42 (ad 7)) (l_hb u)) [7] rfl) (hD.sub (ws' := (cJJ cJ 42 (ad 7)) (l_hb u)) [7] (by decide) rfl)) rfl rfl hl.1 rfl (lv_room (Nat.le_of_ble_eq_true rfl)) d_S_clear_5 ⟨Nat.le_of_ble_eq_true rfl, Nat.le_of_ble_eq_true rfl⟩) hP hD hS (va_free (wc := (cJJ cJ 42 (ad 7)) (l_hb u)) hD hS hA [7] rfl) [7] [0, 1, 2, 3, 4, 5, 6, 8, 9, 10, 11, 12, 13, 14, 15, 16] rfl rfl (by decide) (by decide) (fun H locs hP hD hS => ?_)
  replace hP := hP.sub (ws' := ((cL cI cJ cZ ad) (l_hb_w u v1))) [0, 1, 2, 3, 4, 5, 6, 16, 7, 8, 9, 10, 11, 12, 13, 14, 15] (ycL_hb cI cJ cZ ad u v1)
  replace hD := hD.sub (ws' := ((cL cI cJ cZ ad) (l_hb_w u v1))) [0, 1, 2, 3, 4, 5, 6, 16, 7, 8, 9, 10, 11, 12, 13, 14, 15] (by decide) (xcL_hb cI cJ cZ ad u v1)
  refine lv_aload_n hx hb d_S_clear_8 rfl (lv_at hl 0 rfl) ?_
  refine va_get (D := D) (ci := 1) (v := .ref (ad 8)) (C := R_S) (T := T_S) (N := 9) hx hb hts in_S hown hK hP 6 rfl rfl 1 (by decide) (hts _ mm_73) (fun _ h9 => h9) rfl d_S_clear_9 ?_
  refine lv_iconst (v := (0 : Int32)) hx hb d_S_clear_12 (by decide) ?_
  obtain ⟨v2, hq2, hM⟩ := bd_some hM
  refine fj_v (F := (cJI cI 21 (ad 8))) (u := (l_rec (l_hb_w u v1))) (res := v2) (ws := ((cL cI cJ cZ ad) (l_hb_w u v1))) (wr := ((((cL cI cJ cZ ad) (l_hb_w u v1))).eraseIdx 8)) (va_runS (As := [.ref (ad 8), .int (0 : Int32)]) (rest := []) ⟨hx, hb, hml, hown, hts⟩ (c_J_fillI l D cI cJ cZ 21 (ad 8) H.size (0 : Int32) (l_rec (l_hb_w u v1)) v2 hq2) (va_cwS 2 hts (gS mm_158 mm_159 mm_32 mm_160) rfl rfl rfl hs_J_fillI ⟨Nat.le_of_ble_eq_true rfl, Nat.le_of_ble_eq_true rfl⟩) (ps_ (F := (cJI cI 21 (ad 8))) (u := (l_rec (l_hb_w u v1))) hK (hP.sub (ws' := (cJI cI 21 (ad 8)) (l_rec (l_hb_w u v1))) [8] rfl) (hD.sub (ws' := (cJI cI 21 (ad 8)) (l_rec (l_hb_w u v1))) [8] (by decide) rfl)) rfl rfl hl.1 rfl (lv_room (Nat.le_of_ble_eq_true rfl)) d_S_clear_13 ⟨Nat.le_of_ble_eq_true rfl, Nat.le_of_ble_eq_true rfl⟩) hP hD hS (va_free (wc := (cJI cI 21 (ad 8)) (l_rec (l_hb_w u v1))) hD hS hA [8] rfl) [8] [0, 1, 2, 3, 4, 5, 6, 7, 9, 10, 11, 12, 13, 14, 15, 16] rfl rfl (by decide) (by decide) (fun H locs hP hD hS => ?_)
  replace hP := hP.sub (ws' := ((cL cI cJ cZ ad) (l_rec_w (l_hb_w u v1) v2))) [0, 1, 2, 3, 4, 5, 6, 7, 16, 8, 9, 10, 11, 12, 13, 14, 15] (ycL_rec cI cJ cZ ad (l_hb_w u v1) v2)
  replace hD := hD.sub (ws' := ((cL cI cJ cZ ad) (l_rec_w (l_hb_w u v1) v2))) [0, 1, 2, 3, 4, 5, 6, 7, 16, 8, 9, 10, 11, 12, 13, 14, 15] (by decide) (xcL_rec cI cJ cZ ad (l_hb_w u v1) v2)
  refine lv_aload_n hx hb d_S_clear_16 rfl (lv_at hl 0 rfl) ?_
  refine va_get (D := D) (ci := 1) (v := .ref (ad 9)) (C := R_S) (T := T_S) (N := 9) hx hb hts in_S hown hK hP 6 rfl rfl 2 (by decide) (hts _ mm_74) (fun _ h9 => h9) rfl d_S_clear_17 ?_
  refine lv_iconst (v := (0 : Int32)) hx hb d_S_clear_20 (by decide) ?_
  obtain ⟨v3, hq3, hM⟩ := bd_some hM
  refine fj_v (F := (cJI cI 21 (ad 9))) (u := (l_per (l_rec_w (l_hb_w u v1) v2))) (res := v3) (ws := ((cL cI cJ cZ ad) (l_rec_w (l_hb_w u v1) v2))) (wr := ((((cL cI cJ cZ ad) (l_rec_w (l_hb_w u v1) v2))).eraseIdx 9)) (va_runS (As := [.ref (ad 9), .int (0 : Int32)]) (rest := []) ⟨hx, hb, hml, hown, hts⟩ (c_J_fillI l D cI cJ cZ 21 (ad 9) H.size (0 : Int32) (l_per (l_rec_w (l_hb_w u v1) v2)) v3 hq3) (va_cwS 2 hts (gS mm_158 mm_159 mm_32 mm_160) rfl rfl rfl hs_J_fillI ⟨Nat.le_of_ble_eq_true rfl, Nat.le_of_ble_eq_true rfl⟩) (ps_ (F := (cJI cI 21 (ad 9))) (u := (l_per (l_rec_w (l_hb_w u v1) v2))) hK (hP.sub (ws' := (cJI cI 21 (ad 9)) (l_per (l_rec_w (l_hb_w u v1) v2))) [9] rfl) (hD.sub (ws' := (cJI cI 21 (ad 9)) (l_per (l_rec_w (l_hb_w u v1) v2))) [9] (by decide) rfl)) rfl rfl hl.1 rfl (lv_room (Nat.le_of_ble_eq_true rfl)) d_S_clear_21 ⟨Nat.le_of_ble_eq_true rfl, Nat.le_of_ble_eq_true rfl⟩) hP hD hS (va_free (wc := (cJI cI 21 (ad 9)) (l_per (l_rec_w (l_hb_w u v1) v2))) hD hS hA [9] rfl) [9] [0, 1, 2, 3, 4, 5, 6, 7, 8, 10, 11, 12, 13, 14, 15, 16] rfl rfl (by decide) (by decide) (fun H locs hP hD hS => ?_)
  replace hP := hP.sub (ws' := ((cL cI cJ cZ ad) (l_per_w (l_rec_w (l_hb_w u v1) v2) v3))) [0, 1, 2, 3, 4, 5, 6, 7, 8, 16, 9, 10, 11, 12, 13, 14, 15] (ycL_per cI cJ cZ ad (l_rec_w (l_hb_w u v1) v2) v3)
  replace hD := hD.sub (ws' := ((cL cI cJ cZ ad) (l_per_w (l_rec_w (l_hb_w u v1) v2) v3))) [0, 1, 2, 3, 4, 5, 6, 7, 8, 16, 9, 10, 11, 12, 13, 14, 15] (by decide) (xcL_per cI cJ cZ ad (l_rec_w (l_hb_w u v1) v2) v3)
  refine lv_aload_n hx hb d_S_clear_24 rfl (lv_at hl 0 rfl) ?_
  refine va_get (D := D) (ci := 1) (v := .ref (ad 12)) (C := R_S) (T := T_S) (N := 9) hx hb hts in_S hown hK hP 6 rfl rfl 5 (by decide) (hts _ mm_77) (fun _ h9 => h9) rfl d_S_clear_25 ?_
  refine lv_iconst (v := (0 : Int32)) hx hb d_S_clear_28 (by decide) ?_
  obtain ⟨v4, hq4, hM⟩ := bd_some hM
  refine fj_v (F := (cJI cI 21 (ad 12))) (u := (l_ql (l_per_w (l_rec_w (l_hb_w u v1) v2) v3))) (res := v4) (ws := ((cL cI cJ cZ ad) (l_per_w (l_rec_w (l_hb_w u v1) v2) v3))) (wr := ((((cL cI cJ cZ ad) (l_per_w (l_rec_w (l_hb_w u v1) v2) v3))).eraseIdx 12)) (va_runS (As := [.ref (ad 12), .int (0 : Int32)]) (rest := []) ⟨hx, hb, hml, hown, hts⟩ (c_J_fillI l D cI cJ cZ 21 (ad 12) H.size (0 : Int32) (l_ql (l_per_w (l_rec_w (l_hb_w u v1) v2) v3)) v4 hq4) (va_cwS 2 hts (gS mm_158 mm_159 mm_32 mm_160) rfl rfl rfl hs_J_fillI ⟨Nat.le_of_ble_eq_true rfl, Nat.le_of_ble_eq_true rfl⟩) (ps_ (F := (cJI cI 21 (ad 12))) (u := (l_ql (l_per_w (l_rec_w (l_hb_w u v1) v2) v3))) hK (hP.sub (ws' := (cJI cI 21 (ad 12)) (l_ql (l_per_w (l_rec_w (l_hb_w u v1) v2) v3))) [12] rfl) (hD.sub (ws' := (cJI cI 21 (ad 12)) (l_ql (l_per_w (l_rec_w (l_hb_w u v1) v2) v3))) [12] (by decide) rfl)) rfl rfl hl.1 rfl (lv_room (Nat.le_of_ble_eq_true rfl)) d_S_clear_29 ⟨Nat.le_of_ble_eq_true rfl, Nat.le_of_ble_eq_true rfl⟩) hP hD hS (va_free (wc := (cJI cI 21 (ad 12)) (l_ql (l_per_w (l_rec_w (l_hb_w u v1) v2) v3))) hD hS hA [12] rfl) [12] [0, 1, 2, 3, 4, 5, 6, 7, 8, 9, 10, 11, 13, 14, 15, 16] rfl rfl (by decide) (by decide) (fun H locs hP hD hS => ?_)
  replace hP := hP.sub (ws' := ((cL cI cJ cZ ad) (l_ql_w (l_per_w (l_rec_w (l_hb_w u v1) v2) v3) v4))) [0, 1, 2, 3, 4, 5, 6, 7, 8, 9, 10, 11, 16, 12, 13, 14, 15] (ycL_ql cI cJ cZ ad (l_per_w (l_rec_w (l_hb_w u v1) v2) v3) v4)
  replace hD := hD.sub (ws' := ((cL cI cJ cZ ad) (l_ql_w (l_per_w (l_rec_w (l_hb_w u v1) v2) v3) v4))) [0, 1, 2, 3, 4, 5, 6, 7, 8, 9, 10, 11, 16, 12, 13, 14, 15] (by decide) (xcL_ql cI cJ cZ ad (l_per_w (l_rec_w (l_hb_w u v1) v2) v3) v4)
  refine lv_aload_n hx hb d_S_clear_32 rfl (lv_at hl 0 rfl) ?_
  refine va_get (D := D) (ci := 1) (v := .ref (ad 13)) (C := R_S) (T := T_S) (N := 9) hx hb hts in_S hown hK hP 6 rfl rfl 6 (by decide) (hts _ mm_78) (fun _ h9 => h9) rfl d_S_clear_33 ?_
  refine lv_iconst (v := (0 : Int32)) hx hb d_S_clear_36 (by decide) ?_
  obtain ⟨v5, hq5, hM⟩ := bd_some hM
  refine fj_v (F := (cJI cI 21 (ad 13))) (u := (l_cls (l_ql_w (l_per_w (l_rec_w (l_hb_w u v1) v2) v3) v4))) (res := v5) (ws := ((cL cI cJ cZ ad) (l_ql_w (l_per_w (l_rec_w (l_hb_w u v1) v2) v3) v4))) (wr := ((((cL cI cJ cZ ad) (l_ql_w (l_per_w (l_rec_w (l_hb_w u v1) v2) v3) v4))).eraseIdx 13)) (va_runS (As := [.ref (ad 13), .int (0 : Int32)]) (rest := []) ⟨hx, hb, hml, hown, hts⟩ (c_J_fillI l D cI cJ cZ 21 (ad 13) H.size (0 : Int32) (l_cls (l_ql_w (l_per_w (l_rec_w (l_hb_w u v1) v2) v3) v4)) v5 hq5) (va_cwS 2 hts (gS mm_158 mm_159 mm_32 mm_160) rfl rfl rfl hs_J_fillI ⟨Nat.le_of_ble_eq_true rfl, Nat.le_of_ble_eq_true rfl⟩) (ps_ (F := (cJI cI 21 (ad 13))) (u := (l_cls (l_ql_w (l_per_w (l_rec_w (l_hb_w u v1) v2) v3) v4))) hK (hP.sub (ws' := (cJI cI 21 (ad 13)) (l_cls (l_ql_w (l_per_w (l_rec_w (l_hb_w u v1) v2) v3) v4))) [13] rfl) (hD.sub (ws' := (cJI cI 21 (ad 13)) (l_cls (l_ql_w (l_per_w (l_rec_w (l_hb_w u v1) v2) v3) v4))) [13] (by decide) rfl)) rfl rfl hl.1 rfl (lv_room (Nat.le_of_ble_eq_true rfl)) d_S_clear_37 ⟨Nat.le_of_ble_eq_true rfl, Nat.le_of_ble_eq_true rfl⟩) hP hD hS (va_free (wc := (cJI cI 21 (ad 13)) (l_cls (l_ql_w (l_per_w (l_rec_w (l_hb_w u v1) v2) v3) v4))) hD hS hA [13] rfl) [13] [0, 1, 2, 3, 4, 5, 6, 7, 8, 9, 10, 11, 12, 14, 15, 16] rfl rfl (by decide) (by decide) (fun H locs hP hD hS => ?_)
  replace hP := hP.sub (ws' := ((cL cI cJ cZ ad) (l_cls_w (l_ql_w (l_per_w (l_rec_w (l_hb_w u v1) v2) v3) v4) v5))) [0, 1, 2, 3, 4, 5, 6, 7, 8, 9, 10, 11, 12, 16, 13, 14, 15] (ycL_cls cI cJ cZ ad (l_ql_w (l_per_w (l_rec_w (l_hb_w u v1) v2) v3) v4) v5)
  replace hD := hD.sub (ws' := ((cL cI cJ cZ ad) (l_cls_w (l_ql_w (l_per_w (l_rec_w (l_hb_w u v1) v2) v3) v4) v5))) [0, 1, 2, 3, 4, 5, 6, 7, 8, 9, 10, 11, 12, 16, 13, 14, 15] (by decide) (xcL_cls cI cJ cZ ad (l_ql_w (l_per_w (l_rec_w (l_hb_w u v1) v2) v3) v4) v5)
  refine lv_aload_n hx hb d_S_clear_40 rfl (lv_at hl 0 rfl) ?_
  refine va_get (D := D) (ci := 1) (v := .ref (ad 14)) (C := R_S) (T := T_S) (N := 9) hx hb hts in_S hown hK hP 6 rfl rfl 7 (by decide) (hts _ mm_79) (fun _ h9 => h9) rfl d_S_clear_41 ?_
  refine lv_bipush (v := (28 : Int32)) hx hb d_S_clear_44 (by decide) ?_
  obtain ⟨v6, hq6, hM⟩ := bd_some hM
  refine fj_v (F := (cJI cI 10 (ad 14))) (u := (l_ln (l_cls_w (l_ql_w (l_per_w (l_rec_w (l_hb_w u v1) v2) v3) v4) v5))) (res := v6) (ws := ((cL cI cJ cZ ad) (l_cls_w (l_ql_w (l_per_w (l_rec_w (l_hb_w u v1) v2) v3) v4) v5))) (wr := ((((cL cI cJ cZ ad) (l_cls_w (l_ql_w (l_per_w (l_rec_w (l_hb_w u v1) v2) v3) v4) v5))).eraseIdx 14)) (va_runS (As := [.ref (ad 14), .int (28 : Int32)]) (rest := []) ⟨hx, hb, hml, hown, hts⟩ (c_J_fillI l D cI cJ cZ 10 (ad 14) H.size (28 : Int32) (l_ln (l_cls_w (l_ql_w (l_per_w (l_rec_w (l_hb_w u v1) v2) v3) v4) v5)) v6 hq6) (va_cwS 2 hts (gS mm_158 mm_159 mm_32 mm_160) rfl rfl rfl hs_J_fillI ⟨Nat.le_of_ble_eq_true rfl, Nat.le_of_ble_eq_true rfl⟩) (ps_ (F := (cJI cI 10 (ad 14))) (u := (l_ln (l_cls_w (l_ql_w (l_per_w (l_rec_w (l_hb_w u v1) v2) v3) v4) v5))) hK (hP.sub (ws' := (cJI cI 10 (ad 14)) (l_ln (l_cls_w (l_ql_w (l_per_w (l_rec_w (l_hb_w u v1) v2) v3) v4) v5))) [14] rfl) (hD.sub (ws' := (cJI cI 10 (ad 14)) (l_ln (l_cls_w (l_ql_w (l_per_w (l_rec_w (l_hb_w u v1) v2) v3) v4) v5))) [14] (by decide) rfl)) rfl rfl hl.1 rfl (lv_room (Nat.le_of_ble_eq_true rfl)) d_S_clear_46 ⟨Nat.le_of_ble_eq_true rfl, Nat.le_of_ble_eq_true rfl⟩) hP hD hS (va_free (wc := (cJI cI 10 (ad 14)) (l_ln (l_cls_w (l_ql_w (l_per_w (l_rec_w (l_hb_w u v1) v2) v3) v4) v5))) hD hS hA [14] rfl) [14] [0, 1, 2, 3, 4, 5, 6, 7, 8, 9, 10, 11, 12, 13, 15, 16] rfl rfl (by decide) (by decide) (fun H locs hP hD hS => ?_)
  replace hP := hP.sub (ws' := ((cL cI cJ cZ ad) (l_ln_w (l_cls_w (l_ql_w (l_per_w (l_rec_w (l_hb_w u v1) v2) v3) v4) v5) v6))) [0, 1, 2, 3, 4, 5, 6, 7, 8, 9, 10, 11, 12, 13, 16, 14, 15] (ycL_ln cI cJ cZ ad (l_cls_w (l_ql_w (l_per_w (l_rec_w (l_hb_w u v1) v2) v3) v4) v5) v6)
  replace hD := hD.sub (ws' := ((cL cI cJ cZ ad) (l_ln_w (l_cls_w (l_ql_w (l_per_w (l_rec_w (l_hb_w u v1) v2) v3) v4) v5) v6))) [0, 1, 2, 3, 4, 5, 6, 7, 8, 9, 10, 11, 12, 13, 16, 14, 15] (by decide) (xcL_ln cI cJ cZ ad (l_cls_w (l_ql_w (l_per_w (l_rec_w (l_hb_w u v1) v2) v3) v4) v5) v6)
  refine lv_aload_n hx hb d_S_clear_49 rfl (lv_at hl 0 rfl) ?_
  refine va_get (D := D) (ci := 1) (v := .ref (ad 15)) (C := R_S) (T := T_S) (N := 9) hx hb hts in_S hown hK hP 6 rfl rfl 8 (by decide) (hts _ mm_80) (fun _ h9 => h9) rfl d_S_clear_50 ?_
  refine lv_iconst (v := (-1 : Int32)) hx hb d_S_clear_53 (by decide) ?_
  obtain ⟨v7, hq7, hM⟩ := bd_some hM
  refine fj_v (F := (cJI cI 126 (ad 15))) (u := (l_sm (l_ln_w (l_cls_w (l_ql_w (l_per_w (l_rec_w (l_hb_w u v1) v2) v3) v4) v5) v6))) (res := v7) (ws := ((cL cI cJ cZ ad) (l_ln_w (l_cls_w (l_ql_w (l_per_w (l_rec_w (l_hb_w u v1) v2) v3) v4) v5) v6))) (wr := ((((cL cI cJ cZ ad) (l_ln_w (l_cls_w (l_ql_w (l_per_w (l_rec_w (l_hb_w u v1) v2) v3) v4) v5) v6))).eraseIdx 15)) (va_runS (As := [.ref (ad 15), .int (-1 : Int32)]) (rest := []) ⟨hx, hb, hml, hown, hts⟩ (c_J_fillI l D cI cJ cZ 126 (ad 15) H.size (-1 : Int32) (l_sm (l_ln_w (l_cls_w (l_ql_w (l_per_w (l_rec_w (l_hb_w u v1) v2) v3) v4) v5) v6)) v7 hq7) (va_cwS 2 hts (gS mm_158 mm_159 mm_32 mm_160) rfl rfl rfl hs_J_fillI ⟨Nat.le_of_ble_eq_true rfl, Nat.le_of_ble_eq_true rfl⟩) (ps_ (F := (cJI cI 126 (ad 15))) (u := (l_sm (l_ln_w (l_cls_w (l_ql_w (l_per_w (l_rec_w (l_hb_w u v1) v2) v3) v4) v5) v6))) hK (hP.sub (ws' := (cJI cI 126 (ad 15)) (l_sm (l_ln_w (l_cls_w (l_ql_w (l_per_w (l_rec_w (l_hb_w u v1) v2) v3) v4) v5) v6))) [15] rfl) (hD.sub (ws' := (cJI cI 126 (ad 15)) (l_sm (l_ln_w (l_cls_w (l_ql_w (l_per_w (l_rec_w (l_hb_w u v1) v2) v3) v4) v5) v6))) [15] (by decide) rfl)) rfl rfl hl.1 rfl (lv_room (Nat.le_of_ble_eq_true rfl)) d_S_clear_54 ⟨Nat.le_of_ble_eq_true rfl, Nat.le_of_ble_eq_true rfl⟩) hP hD hS (va_free (wc := (cJI cI 126 (ad 15)) (l_sm (l_ln_w (l_cls_w (l_ql_w (l_per_w (l_rec_w (l_hb_w u v1) v2) v3) v4) v5) v6))) hD hS hA [15] rfl) [15] [0, 1, 2, 3, 4, 5, 6, 7, 8, 9, 10, 11, 12, 13, 14, 16] rfl rfl (by decide) (by decide) (fun H locs hP hD hS => ?_)
  replace hP := hP.sub (ws' := ((cL cI cJ cZ ad) (l_sm_w (l_ln_w (l_cls_w (l_ql_w (l_per_w (l_rec_w (l_hb_w u v1) v2) v3) v4) v5) v6) v7))) [0, 1, 2, 3, 4, 5, 6, 7, 8, 9, 10, 11, 12, 13, 14, 16, 15] (ycL_sm cI cJ cZ ad (l_ln_w (l_cls_w (l_ql_w (l_per_w (l_rec_w (l_hb_w u v1) v2) v3) v4) v5) v6) v7)
  replace hD := hD.sub (ws' := ((cL cI cJ cZ ad) (l_sm_w (l_ln_w (l_cls_w (l_ql_w (l_per_w (l_rec_w (l_hb_w u v1) v2) v3) v4) v5) v6) v7))) [0, 1, 2, 3, 4, 5, 6, 7, 8, 9, 10, 11, 12, 13, 14, 16, 15] (by decide) (xcL_sm cI cJ cZ ad (l_ln_w (l_cls_w (l_ql_w (l_per_w (l_rec_w (l_hb_w u v1) v2) v3) v4) v5) v6) v7)
  obtain rfl := Option.some.inj hM
  exact W.vret hx hb hr (fun t ht hW => ⟨⟨(l_sm_w (l_ln_w (l_cls_w (l_ql_w (l_per_w (l_rec_w (l_hb_w u v1) v2) v3) v4) v5) v6) v7), rfl, rfl, by rw [ht]; exact hP, va_K.moved hW.alike hK, hD⟩, hS.F ht⟩) hS.2.2 d_S_clear_57
end
set_option maxRecDepth 100000 in
theorem c_S_clear (l : Launch) (D : va_G) (cI cJ cZ : ClassId) (ad : Nat → Nat) (sz : Nat) (u : Lib) (res : Lib) (hM : B_S_clear_0 u = some res) : Met l y_S_clear ws_S_clear rm_S_clear (va_Pc [.ref (ad 6)] (pr_ D cl9 (tyy cI cJ cZ) (cL cI cJ cZ ad) u sz)) (Qwv D cl9 (tyy cI cJ cZ) (cL cI cJ cZ ad) (va_A ((cL cI cJ cZ ad) u) sz) res) 0 0 (va_A ((cL cI cJ cZ ad) u) sz) := by
  refine Met.ofW (cc := prog_3_method_2_code) (maxL := 1) (ret := (Option.none : Option FieldType)) (by decide) rfl ?_
  intro p e s m args below meth c s₁ B hml hv
  obtain ⟨rfl, hsz, hP, hK, hD0⟩ := hv
  subst hsz
  have hts0 := atoms_spec (ws := ws_S_clear) B.pre
  have hl := lv_entry ([.ref (ad 6)]) (n := 1) (Nat.le_of_ble_eq_true rfl)
  rw [lg_entry_eq]
  generalize (lg_sl ([.ref (ad 6)]) ++ List.replicate (1 - (lg_sl ([.ref (ad 6)])).length) Slot.unset).toArray = ls at hl ⊢
  exact w_S_clear_0 ⟨B.exec, B.bytes, B.returns, hml, findClass_of_methodNamed B.named, fun w h => hts0 w (List.mem_cons_of_mem _ h), B.notSynchronized, hK, fun q h => Or.inr h⟩ u s.heap [] ls hP hD0.self va_S.rf hl hM
section
variable {p : Program} {l : Launch} {e : Env} {s : State} {m : MethodId} {args : Array Value} {below : List Frame} {meth : Method} {c : Code} {D : va_G} {cI cJ cZ : ClassId} {A : Nat → Prop}
set_option maxHeartbeats 4000000 in
set_option maxRecDepth 100000 in
theorem w_S_wordIndex_0 {res : Int32} (C : Cx p s m args meth c prog_3_method_16_code 2 (Option.some FieldType.int) "PlainLibrary$Shelves" tb D cl9 (tyy cI cJ cZ) A) (x0 : Int32) (x1 : Int32) (H : Heap) (locs : List Loc) (ls : Array Slot) (hP : va_P D cl9 (nW ()) H) (hD : va_D (fun _ => True) (nW ())) (hS : va_S A s.heap H locs) (hl : lv_has ls 2 [(0, .int x0), (1, .int x1)]) (hM : B_S_wordIndex_0 x0 x1 = some res) : W p l e rm_S_wordIndex s m args below meth c H locs 0 0 (MQ below (Qri A res) args s 0 0 A) (F0 m 0 ls []) := by
  have C0 := C
  obtain ⟨hx, hb, hr, hml, hown, hts, hlocks, hK, hA⟩ := C
  replace C := C0
  unfold B_S_wordIndex_0 at hM
  refine lv_iload_n hx hb d_S_wordIndex_0 rfl (lv_at hl 0 rfl) ?_
  refine lv_iconst (v := (2 : Int32)) hx hb d_S_wordIndex_1 (by decide) ?_
  refine lv_imul hx hb d_S_wordIndex_2 ?_
  refine lv_iload_n hx hb d_S_wordIndex_3 rfl (lv_at hl 1 rfl) ?_
  refine lv_bipush (v := (64 : Int32)) hx hb d_S_wordIndex_4 (by decide) ?_
  refine lv_idiv hx hb d_S_wordIndex_6 (by decide) ?_
  refine lv_iadd hx hb d_S_wordIndex_7 ?_
  obtain rfl := Option.some.inj hM
  exact W.iret (v := ((x0 * (2 : Int32)) + (x1 / (64 : Int32)))) hx hb hr (fun t ht hW => ⟨⟨((x0 * (2 : Int32)) + (x1 / (64 : Int32))), (), rfl, rfl, trivial⟩, hS.F ht⟩) hS.2.2 d_S_wordIndex_8
end
set_option maxRecDepth 100000 in
theorem c_S_wordIndex (l : Launch) (D : va_G) (cI cJ cZ : ClassId) (sz : Nat) (x0 : Int32) (x1 : Int32) (res : Int32) (hM : B_S_wordIndex_0 x0 x1 = some res) : Met l y_S_wordIndex ws_S_wordIndex rm_S_wordIndex (va_Pc [.int x0, .int x1] (pr_ D cl9 (tyy cI cJ cZ) nW () sz)) (Qri (va_A [] sz) res) 0 0 (va_A [] sz) := by
  refine Met.ofW (cc := prog_3_method_16_code) (maxL := 2) (ret := (Option.some FieldType.int)) (by decide) rfl ?_
  intro p e s m args below meth c s₁ B hml hv
  obtain ⟨rfl, hsz, hP, hK, hD0⟩ := hv
  subst hsz
  have hts0 := atoms_spec (ws := ws_S_wordIndex) B.pre
  have hl := lv_entry ([.int x0, .int x1]) (n := 2) (Nat.le_of_ble_eq_true rfl)
  rw [lg_entry_eq]
  generalize (lg_sl ([.int x0, .int x1]) ++ List.replicate (2 - (lg_sl ([.int x0, .int x1])).length) Slot.unset).toArray = ls at hl ⊢
  exact w_S_wordIndex_0 ⟨B.exec, B.bytes, B.returns, hml, findClass_of_methodNamed B.named, fun w h => hts0 w (List.mem_cons_of_mem _ h), B.notSynchronized, hK, fun q h => Or.inr h⟩ x0 x1 s.heap [] ls hP hD0 va_S.rf hl hM
section
variable {p : Program} {l : Launch} {e : Env} {s : State} {m : MethodId} {args : Array Value} {below : List Frame} {meth : Method} {c : Code} {D : va_G} {cI cJ cZ : ClassId} {A : Nat → Prop}
set_option maxHeartbeats 4000000 in
set_option maxRecDepth 100000 in
theorem w_S_bitOf_0 {res : Int64} (C : Cx p s m args meth c prog_3_method_17_code 1 (Option.some FieldType.long) "PlainLibrary$Shelves" tb D cl9 (tyy cI cJ cZ) A) (x0 : Int32) (H : Heap) (locs : List Loc) (ls : Array Slot) (hP : va_P D cl9 (nW ()) H) (hD : va_D (fun _ => True) (nW ())) (hS : va_S A s.heap H locs) (hl : lv_has ls 1 [(0, .int x0)]) (hM : B_S_bitOf_0 x0 = some res) : W p l e rm_S_bitOf s m args below meth c H locs 0 0 (MQ below (Qrl A res) args s 0 0 A) (F0 m 0 ls []) := by
  have C0 := C
  obtain ⟨hx, hb, hr, hml, hown, hts, hlocks, hK, hA⟩ := C
  replace C := C0
  unfold B_S_bitOf_0 at hM
  refine lv_lconst (v := (1 : Int64)) hx hb d_S_bitOf_0 (by decide) ?_
  refine lv_iload_n hx hb d_S_bitOf_1 rfl (lv_at hl 0 rfl) ?_
  refine lv_bipush (v := (64 : Int32)) hx hb d_S_bitOf_2 (by decide) ?_
  refine lv_irem hx hb d_S_bitOf_4 (by decide) ?_
  refine lv_lshl (v := (1 : Int64) <<< ((x0 - x0 / (64 : Int32) * (64 : Int32)).toInt64 &&& 63)) hx hb d_S_bitOf_5 rfl ?_
  obtain rfl := Option.some.inj hM
  exact W.lret (v := ((1 : Int64) <<< ((x0 - x0 / (64 : Int32) * (64 : Int32)).toInt64 &&& 63))) hx hb hr (fun t ht hW => ⟨⟨((1 : Int64) <<< ((x0 - x0 / (64 : Int32) * (64 : Int32)).toInt64 &&& 63)), (), rfl, rfl, trivial⟩, hS.F ht⟩) hS.2.2 d_S_bitOf_6
end
set_option maxRecDepth 100000 in
theorem c_S_bitOf (l : Launch) (D : va_G) (cI cJ cZ : ClassId) (sz : Nat) (x0 : Int32) (res : Int64) (hM : B_S_bitOf_0 x0 = some res) : Met l y_S_bitOf ws_S_bitOf rm_S_bitOf (va_Pc [.int x0] (pr_ D cl9 (tyy cI cJ cZ) nW () sz)) (Qrl (va_A [] sz) res) 0 0 (va_A [] sz) := by
  refine Met.ofW (cc := prog_3_method_17_code) (maxL := 1) (ret := (Option.some FieldType.long)) (by decide) rfl ?_
  intro p e s m args below meth c s₁ B hml hv
  obtain ⟨rfl, hsz, hP, hK, hD0⟩ := hv
  subst hsz
  have hts0 := atoms_spec (ws := ws_S_bitOf) B.pre
  have hl := lv_entry ([.int x0]) (n := 1) (Nat.le_of_ble_eq_true rfl)
  rw [lg_entry_eq]
  generalize (lg_sl ([.int x0]) ++ List.replicate (1 - (lg_sl ([.int x0])).length) Slot.unset).toArray = ls at hl ⊢
  exact w_S_bitOf_0 ⟨B.exec, B.bytes, B.returns, hml, findClass_of_methodNamed B.named, fun w h => hts0 w (List.mem_cons_of_mem _ h), B.notSynchronized, hK, fun q h => Or.inr h⟩ x0 s.heap [] ls hP hD0 va_S.rf hl hM
section
variable {p : Program} {l : Launch} {e : Env} {s : State} {m : MethodId} {args : Array Value} {below : List Frame} {meth : Method} {c : Code} {D : va_G} {cI cJ cZ : ClassId} {A : Nat → Prop} {ad : Nat → Nat}
set_option maxHeartbeats 4000000 in
set_option maxRecDepth 100000 in
theorem w_S_hasHeading_0 {res : Int32} (C : Cx p s m args meth c prog_3_method_9_code 3 (Option.some FieldType.boolean) "PlainLibrary$Shelves" tb D cl9 (tyy cI cJ cZ) A) (x1 : Int32) (x2 : Int32) (u : Lib) (H : Heap) (locs : List Loc) (ls : Array Slot) (hP : va_P D cl9 ((cL cI cJ cZ ad) u) H) (hD : va_D (fun _ => True) ((cL cI cJ cZ ad) u)) (hS : va_S A s.heap H locs) (hl : lv_has ls 3 [(0, .ref (ad 6)), (1, .int x1), (2, .int x2)]) (hM : B_S_hasHeading_0 x1 x2 u = some res) : W p l e rm_S_hasHeading s m args below meth c H locs 0 0 (MQ below (Qri A res) args s 0 0 A) (F0 m 0 ls []) := by
  have C0 := C
  obtain ⟨hx, hb, hr, hml, hown, hts, hlocks, hK, hA⟩ := C
  replace C := C0
  unfold B_S_hasHeading_0 at hM
  refine lv_aload_n hx hb d_S_hasHeading_0 rfl (lv_at hl 0 rfl) ?_
  refine va_get (D := D) (ci := 1) (v := .ref (ad 7)) (C := R_S) (T := T_S) (N := 9) hx hb hts in_S hown hK hP 6 rfl rfl 0 (by decide) (hts _ mm_72) (fun _ h9 => h9) rfl d_S_hasHeading_1 ?_
  refine lv_iload_n hx hb d_S_hasHeading_4 rfl (lv_at hl 1 rfl) ?_
  refine lv_iload_n hx hb d_S_hasHeading_5 rfl (lv_at hl 2 rfl) ?_
  obtain ⟨v1, hq1, hM⟩ := bd_some hM
  refine fr_i (res := v1) (va_runS (As := [.int x1, .int x2]) (rest := [.ref (ad 7)]) ⟨hx, hb, hml, hown, hts⟩ (c_S_wordIndex l D cI cJ cZ H.size x1 x2 v1 hq1) (va_cwS 2 hts (gS mm_177 mm_178 mm_29 mm_179) rfl rfl rfl hs_S_wordIndex ⟨Nat.le_of_ble_eq_true rfl, Nat.le_of_ble_eq_true rfl⟩) (ps_ (F := nW) (u := ()) hK nP (nD (A := fun _ => True))) rfl rfl hl.1 rfl (lv_room (Nat.le_of_ble_eq_true rfl)) d_S_hasHeading_6 ⟨Nat.le_of_ble_eq_true rfl, Nat.le_of_ble_eq_true rfl⟩) hP hS hA (fun H locs hP hS => ?_)
  obtain ⟨h2, hM⟩ := gd_some hM
  refine va_lald hx hb hK hP 7 1 rfl rfl (vp_in_iff.mpr h2) d_S_hasHeading_9 ?_
  refine lv_iload_n hx hb d_S_hasHeading_10 rfl (lv_at hl 2 rfl) ?_
  obtain ⟨v3, hq3, hM⟩ := bd_some hM
  refine fr_l (res := v3) (va_runS (As := [.int x2]) (rest := [.long ((l_hb u) v1.toNatClampNeg)]) ⟨hx, hb, hml, hown, hts⟩ (c_S_bitOf l D cI cJ cZ H.size x2 v3 hq3) (va_cwS 1 hts (gS mm_180 mm_181 mm_29 mm_182) rfl rfl rfl hs_S_bitOf ⟨Nat.le_of_ble_eq_true rfl, Nat.le_of_ble_eq_true rfl⟩) (ps_ (F := nW) (u := ()) hK nP (nD (A := fun _ => True))) rfl rfl hl.1 rfl (lv_room (Nat.le_of_ble_eq_true rfl)) d_S_hasHeading_11 ⟨Nat.le_of_ble_eq_true rfl, Nat.le_of_ble_eq_true rfl⟩) hP hS hA (fun H locs hP hS => ?_)
  refine lv_land hx hb d_S_hasHeading_14 ?_
  refine lv_lconst (v := (0 : Int64)) hx hb d_S_hasHeading_15 (by decide) ?_
  refine W.lcmp hx hb d_S_hasHeading_16 ?_
  refine lv_if_eq (tgt := 24) hx hb d_S_hasHeading_17 (by decide) (fun c4 => ?_) (fun c4 => ?_)
  · replace hM := it_t c4 hM
    refine lv_iconst (v := (0 : Int32)) hx hb d_S_hasHeading_24 (by decide) ?_
    obtain rfl := Option.some.inj hM
    exact W.zret (v := (0 : Int32)) hx hb hr rfl (fun t ht hW => ⟨⟨(0 : Int32), (), rfl, rfl, trivial⟩, hS.F ht⟩) hS.2.2 d_S_hasHeading_25
  · replace hM := it_f c4 hM
    refine lv_iconst (v := (1 : Int32)) hx hb d_S_hasHeading_20 (by decide) ?_
    refine lv_goto (tgt := 25) hx hb d_S_hasHeading_21 (by decide) ?_
    obtain rfl := Option.some.inj hM
    exact W.zret (v := (1 : Int32)) hx hb hr rfl (fun t ht hW => ⟨⟨(1 : Int32), (), rfl, rfl, trivial⟩, hS.F ht⟩) hS.2.2 d_S_hasHeading_25
end
set_option maxRecDepth 100000 in
theorem c_S_hasHeading (l : Launch) (D : va_G) (cI cJ cZ : ClassId) (ad : Nat → Nat) (sz : Nat) (x1 : Int32) (x2 : Int32) (u : Lib) (res : Int32) (hM : B_S_hasHeading_0 x1 x2 u = some res) : Met l y_S_hasHeading ws_S_hasHeading rm_S_hasHeading (va_Pc [.ref (ad 6), .int x1, .int x2] (pr_ D cl9 (tyy cI cJ cZ) (cL cI cJ cZ ad) u sz)) (Qri (va_A [] sz) res) 0 0 (va_A [] sz) := by
  refine Met.ofW (cc := prog_3_method_9_code) (maxL := 3) (ret := (Option.some FieldType.boolean)) (by decide) rfl ?_
  intro p e s m args below meth c s₁ B hml hv
  obtain ⟨rfl, hsz, hP, hK, hD0⟩ := hv
  subst hsz
  have hts0 := atoms_spec (ws := ws_S_hasHeading) B.pre
  have hl := lv_entry ([.ref (ad 6), .int x1, .int x2]) (n := 3) (Nat.le_of_ble_eq_true rfl)
  rw [lg_entry_eq]
  generalize (lg_sl ([.ref (ad 6), .int x1, .int x2]) ++ List.replicate (3 - (lg_sl ([.ref (ad 6), .int x1, .int x2])).length) Slot.unset).toArray = ls at hl ⊢
  exact w_S_hasHeading_0 ⟨B.exec, B.bytes, B.returns, hml, findClass_of_methodNamed B.named, fun w h => hts0 w (List.mem_cons_of_mem _ h), B.notSynchronized, hK, fun q h => Or.inr h⟩ x1 x2 u s.heap [] ls hP hD0 va_S.rf hl hM
section
variable {p : Program} {l : Launch} {e : Env} {s : State} {m : MethodId} {args : Array Value} {below : List Frame} {meth : Method} {c : Code} {D : va_G} {cI cJ cZ : ClassId} {A : Nat → Prop} {ad : Nat → Nat}
set_option maxHeartbeats 4000000 in
set_option maxRecDepth 100000 in
theorem w_S_addHeading_0 {res : (Int32 × Lib)} (C : Cx p s m args meth c prog_3_method_18_code 3 (Option.some FieldType.boolean) "PlainLibrary$Shelves" tb D cl9 (tyy cI cJ cZ) A) (x1 : Int32) (x2 : Int32) (u : Lib) (H : Heap) (locs : List Loc) (ls : Array Slot) (hP : va_P D cl9 ((cL cI cJ cZ ad) u) H) (hD : va_D A ((cL cI cJ cZ ad) u)) (hS : va_S A s.heap H locs) (hl : lv_has ls 3 [(0, .ref (ad 6)), (1, .int x1), (2, .int x2)]) (hM : B_S_addHeading_0 x1 x2 u = some res) : W p l e rm_S_addHeading s m args below meth c H locs 0 0 (MQ below (Qwi D cl9 (tyy cI cJ cZ) (cL cI cJ cZ ad) A res) args s 0 0 A) (F0 m 0 ls []) := by
  have C0 := C
  obtain ⟨hx, hb, hr, hml, hown, hts, hlocks, hK, hA⟩ := C
  replace C := C0
  unfold B_S_addHeading_0 at hM
  refine lv_aload_n hx hb d_S_addHeading_0 rfl (lv_at hl 0 rfl) ?_
  refine lv_iload_n hx hb d_S_addHeading_1 rfl (lv_at hl 1 rfl) ?_
  refine lv_iload_n hx hb d_S_addHeading_2 rfl (lv_at hl 2 rfl) ?_
  obtain ⟨v1, hq1, hM⟩ := bd_some hM
  refine fr_i (res := v1) (va_runV (As := [.int x1, .int x2]) (rest := []) ⟨hx, hb, hml, hown, hts⟩ (c_S_hasHeading l D cI cJ cZ ad H.size x1 x2 u v1 hq1) (cwV 2 hts (gV mm_173 mm_174 mm_175 mm_29 mm_176) rfl rfl rfl hd_S_hasHeading ⟨Nat.le_of_ble_eq_true rfl, Nat.le_of_ble_eq_true rfl⟩) (pv_ (F := (cL cI cJ cZ ad)) (u := u) hK hP hD (va_recv hK hP (ci := 1) (q0 := 6) rfl rfl)) rfl rfl hl.1 rfl (lv_room (Nat.le_of_ble_eq_true rfl)) d_S_addHeading_3 ⟨Nat.le_of_ble_eq_true rfl, Nat.le_of_ble_eq_true rfl⟩) hP hS hA (fun H locs hP hS => ?_)
  refine lv_if_eq (tgt := 11) hx hb d_S_addHeading_6 (by decide) (fun c2 => ?_) (fun c2 => ?_)
  · replace hM := it_t c2 hM
    refine lv_aload_n hx hb d_S_addHeading_11 rfl (lv_at hl 0 rfl) ?_
    refine va_get (D := D) (ci := 1) (v := .ref (ad 7)) (C := R_S) (T := T_S) (N := 9) hx hb hts in_S hown hK hP 6 rfl rfl 0 (by decide) (hts _ mm_72) (fun _ h9 => h9) rfl d_S_addHeading_12 ?_
    refine lv_iload_n hx hb d_S_addHeading_15 rfl (lv_at hl 1 rfl) ?_
    refine lv_iload_n hx hb d_S_addHeading_16 rfl (lv_at hl 2 rfl) ?_
    obtain ⟨v3, hq3, hM⟩ := bd_some hM
    refine fr_i (res := v3) (va_runS (As := [.int x1, .int x2]) (rest := [.ref (ad 7)]) ⟨hx, hb, hml, hown, hts⟩ (c_S_wordIndex l D cI cJ cZ H.size x1 x2 v3 hq3) (va_cwS 2 hts (gS mm_177 mm_178 mm_29 mm_179) rfl rfl rfl hs_S_wordIndex ⟨Nat.le_of_ble_eq_true rfl, Nat.le_of_ble_eq_true rfl⟩) (ps_ (F := nW) (u := ()) hK nP (nD (A := fun _ => True))) rfl rfl hl.1 rfl (lv_room (Nat.le_of_ble_eq_true rfl)) d_S_addHeading_17 ⟨Nat.le_of_ble_eq_true rfl, Nat.le_of_ble_eq_true rfl⟩) hP hS hA (fun H locs hP hS => ?_)
    refine lv_dup2_11 hx hb d_S_addHeading_20 rfl rfl ?_
    obtain ⟨h4, hM⟩ := gd_some hM
    refine va_lald hx hb hK hP 7 1 rfl rfl (vp_in_iff.mpr h4) d_S_addHeading_21 ?_
    refine lv_iload_n hx hb d_S_addHeading_22 rfl (lv_at hl 2 rfl) ?_
    obtain ⟨v5, hq5, hM⟩ := bd_some hM
    refine fr_l (res := v5) (va_runS (As := [.int x2]) (rest := [.long ((l_hb u) v3.toNatClampNeg), .int v3, .ref (ad 7)]) ⟨hx, hb, hml, hown, hts⟩ (c_S_bitOf l D cI cJ cZ H.size x2 v5 hq5) (va_cwS 1 hts (gS mm_180 mm_181 mm_29 mm_182) rfl rfl rfl hs_S_bitOf ⟨Nat.le_of_ble_eq_true rfl, Nat.le_of_ble_eq_true rfl⟩) (ps_ (F := nW) (u := ()) hK nP (nD (A := fun _ => True))) rfl rfl hl.1 rfl (lv_room (Nat.le_of_ble_eq_true rfl)) d_S_addHeading_23 ⟨Nat.le_of_ble_eq_true rfl, Nat.le_of_ble_eq_true rfl⟩) hP hS hA (fun H locs hP hS => ?_)
    refine lv_lor hx hb d_S_addHeading_26 ?_
    obtain ⟨h6, hM⟩ := gd_some hM
    refine va_last hx hb hK hP hD hS 7 1 rfl rfl (vp_in_iff.mpr h6) d_S_addHeading_27 (fun H locs hP hD hS => ?_)
    have hP : va_P D cl9 ((cL cI cJ cZ ad) (l_hb_w u (vp_updL (l_hb u) v3.toNatClampNeg (((l_hb u) v3.toNatClampNeg) ||| v5)))) H := reP (zcL_hb cI cJ cZ ad u (vp_updL (l_hb u) v3.toNatClampNeg (((l_hb u) v3.toNatClampNeg) ||| v5))) hP
    have hD : va_D A ((cL cI cJ cZ ad) (l_hb_w u (vp_updL (l_hb u) v3.toNatClampNeg (((l_hb u) v3.toNatClampNeg) ||| v5)))) := reD (zcL_hb cI cJ cZ ad u (vp_updL (l_hb u) v3.toNatClampNeg (((l_hb u) v3.toNatClampNeg) ||| v5))) hD
    refine lv_iconst (v := (1 : Int32)) hx hb d_S_addHeading_28 (by decide) ?_
    obtain rfl := Option.some.inj hM
    exact W.zret (v := (1 : Int32)) hx hb hr rfl (fun t ht hW => ⟨⟨(1 : Int32), (l_hb_w u (vp_updL (l_hb u) v3.toNatClampNeg (((l_hb u) v3.toNatClampNeg) ||| v5))), rfl, rfl, by rw [ht]; exact hP, va_K.moved hW.alike hK, hD⟩, hS.F ht⟩) hS.2.2 d_S_addHeading_29
  · replace hM := it_f c2 hM
    refine lv_iconst (v := (0 : Int32)) hx hb d_S_addHeading_9 (by decide) ?_
    obtain rfl := Option.some.inj hM
    exact W.zret (v := (0 : Int32)) hx hb hr rfl (fun t ht hW => ⟨⟨(0 : Int32), u, rfl, rfl, by rw [ht]; exact hP, va_K.moved hW.alike hK, hD⟩, hS.F ht⟩) hS.2.2 d_S_addHeading_10
end
set_option maxRecDepth 100000 in
theorem c_S_addHeading (l : Launch) (D : va_G) (cI cJ cZ : ClassId) (ad : Nat → Nat) (sz : Nat) (x1 : Int32) (x2 : Int32) (u : Lib) (res : (Int32 × Lib)) (hM : B_S_addHeading_0 x1 x2 u = some res) : Met l y_S_addHeading ws_S_addHeading rm_S_addHeading (va_Pc [.ref (ad 6), .int x1, .int x2] (pr_ D cl9 (tyy cI cJ cZ) (cL cI cJ cZ ad) u sz)) (Qwi D cl9 (tyy cI cJ cZ) (cL cI cJ cZ ad) (va_A ((cL cI cJ cZ ad) u) sz) res) 0 0 (va_A ((cL cI cJ cZ ad) u) sz) := by
  refine Met.ofW (cc := prog_3_method_18_code) (maxL := 3) (ret := (Option.some FieldType.boolean)) (by decide) rfl ?_
  intro p e s m args below meth c s₁ B hml hv
  obtain ⟨rfl, hsz, hP, hK, hD0⟩ := hv
  subst hsz
  have hts0 := atoms_spec (ws := ws_S_addHeading) B.pre
  have hl := lv_entry ([.ref (ad 6), .int x1, .int x2]) (n := 3) (Nat.le_of_ble_eq_true rfl)
  rw [lg_entry_eq]
  generalize (lg_sl ([.ref (ad 6), .int x1, .int x2]) ++ List.replicate (3 - (lg_sl ([.ref (ad 6), .int x1, .int x2])).length) Slot.unset).toArray = ls at hl ⊢
  exact w_S_addHeading_0 ⟨B.exec, B.bytes, B.returns, hml, findClass_of_methodNamed B.named, fun w h => hts0 w (List.mem_cons_of_mem _ h), B.notSynchronized, hK, fun q h => Or.inr h⟩ x1 x2 u s.heap [] ls hP hD0.self va_S.rf hl hM
section
variable {p : Program} {l : Launch} {e : Env} {s : State} {m : MethodId} {args : Array Value} {below : List Frame} {meth : Method} {c : Code} {D : va_G} {cI cJ cZ : ClassId} {A : Nat → Prop} {ad : Nat → Nat}
set_option maxHeartbeats 4000000 in
set_option maxRecDepth 100000 in
theorem w_S_dropHeading_0 {res : (Int32 × Lib)} (C : Cx p s m args meth c prog_3_method_19_code 3 (Option.some FieldType.boolean) "PlainLibrary$Shelves" tb D cl9 (tyy cI cJ cZ) A) (x1 : Int32) (x2 : Int32) (u : Lib) (H : Heap) (locs : List Loc) (ls : Array Slot) (hP : va_P D cl9 ((cL cI cJ cZ ad) u) H) (hD : va_D A ((cL cI cJ cZ ad) u)) (hS : va_S A s.heap H locs) (hl : lv_has ls 3 [(0, .ref (ad 6)), (1, .int x1), (2, .int x2)]) (hM : B_S_dropHeading_0 x1 x2 u = some res) : W p l e rm_S_dropHeading s m args below meth c H locs 0 0 (MQ below (Qwi D cl9 (tyy cI cJ cZ) (cL cI cJ cZ ad) A res) args s 0 0 A) (F0 m 0 ls []) := by
  have C0 := C
  obtain ⟨hx, hb, hr, hml, hown, hts, hlocks, hK, hA⟩ := C
  replace C := C0
  unfold B_S_dropHeading_0 at hM
  refine lv_aload_n hx hb d_S_dropHeading_0 rfl (lv_at hl 0 rfl) ?_
  refine lv_iload_n hx hb d_S_dropHeading_1 rfl (lv_at hl 1 rfl) ?_
  refine lv_iload_n hx hb d_S_dropHeading_2 rfl (lv_at hl 2 rfl) ?_
  obtain ⟨v1, hq1, hM⟩ := bd_some hM
  refine fr_i (res := v1) (va_runV (As := [.int x1, .int x2]) (rest := []) ⟨hx, hb, hml, hown, hts⟩ (c_S_hasHeading l D cI cJ cZ ad H.size x1 x2 u v1 hq1) (cwV 2 hts (gV mm_173 mm_174 mm_175 mm_29 mm_176) rfl rfl rfl hd_S_hasHeading ⟨Nat.le_of_ble_eq_true rfl, Nat.le_of_ble_eq_true rfl⟩) (pv_ (F := (cL cI cJ cZ ad)) (u := u) hK hP hD (va_recv hK hP (ci := 1) (q0 := 6) rfl rfl)) rfl rfl hl.1 rfl (lv_room (Nat.le_of_ble_eq_true rfl)) d_S_dropHeading_3 ⟨Nat.le_of_ble_eq_true rfl, Nat.le_of_ble_eq_true rfl⟩) hP hS hA (fun H locs hP hS => ?_)
  refine lv_if_ne (tgt := 11) hx hb d_S_dropHeading_6 (by decide) (fun c2 => ?_) (fun c2 => ?_)
  · replace hM := it_f c2 hM
    refine lv_aload_n hx hb d_S_dropHeading_11 rfl (lv_at hl 0 rfl) ?_
    refine va_get (D := D) (ci := 1) (v := .ref (ad 7)) (C := R_S) (T := T_S) (N := 9) hx hb hts in_S hown hK hP 6 rfl rfl 0 (by decide) (hts _ mm_72) (fun _ h9 => h9) rfl d_S_dropHeading_12 ?_
    refine lv_iload_n hx hb d_S_dropHeading_15 rfl (lv_at hl 1 rfl) ?_
    refine lv_iload_n hx hb d_S_dropHeading_16 rfl (lv_at hl 2 rfl) ?_
    obtain ⟨v3, hq3, hM⟩ := bd_some hM
    refine fr_i (res := v3) (va_runS (As := [.int x1, .int x2]) (rest := [.ref (ad 7)]) ⟨hx, hb, hml, hown, hts⟩ (c_S_wordIndex l D cI cJ cZ H.size x1 x2 v3 hq3) (va_cwS 2 hts (gS mm_177 mm_178 mm_29 mm_179) rfl rfl rfl hs_S_wordIndex ⟨Nat.le_of_ble_eq_true rfl, Nat.le_of_ble_eq_true rfl⟩) (ps_ (F := nW) (u := ()) hK nP (nD (A := fun _ => True))) rfl rfl hl.1 rfl (lv_room (Nat.le_of_ble_eq_true rfl)) d_S_dropHeading_17 ⟨Nat.le_of_ble_eq_true rfl, Nat.le_of_ble_eq_true rfl⟩) hP hS hA (fun H locs hP hS => ?_)
    refine lv_dup2_11 hx hb d_S_dropHeading_20 rfl rfl ?_
    obtain ⟨h4, hM⟩ := gd_some hM
    refine va_lald hx hb hK hP 7 1 rfl rfl (vp_in_iff.mpr h4) d_S_dropHeading_21 ?_
    refine lv_iload_n hx hb d_S_dropHeading_22 rfl (lv_at hl 2 rfl) ?_
    obtain ⟨v5, hq5, hM⟩ := bd_some hM
    refine fr_l (res := v5) (va_runS (As := [.int x2]) (rest := [.long ((l_hb u) v3.toNatClampNeg), .int v3, .ref (ad 7)]) ⟨hx, hb, hml, hown, hts⟩ (c_S_bitOf l D cI cJ cZ H.size x2 v5 hq5) (va_cwS 1 hts (gS mm_180 mm_181 mm_29 mm_182) rfl rfl rfl hs_S_bitOf ⟨Nat.le_of_ble_eq_true rfl, Nat.le_of_ble_eq_true rfl⟩) (ps_ (F := nW) (u := ()) hK nP (nD (A := fun _ => True))) rfl rfl hl.1 rfl (lv_room (Nat.le_of_ble_eq_true rfl)) d_S_dropHeading_23 ⟨Nat.le_of_ble_eq_true rfl, Nat.le_of_ble_eq_true rfl⟩) hP hS hA (fun H locs hP hS => ?_)
    refine lv_ldc2 (v := (-1 : Int64)) hx hb hown (hts _ mm_187) d_S_dropHeading_26 ?_
    refine lv_lxor hx hb d_S_dropHeading_29 ?_
    refine lv_land hx hb d_S_dropHeading_30 ?_
    obtain ⟨h6, hM⟩ := gd_some hM
    refine va_last hx hb hK hP hD hS 7 1 rfl rfl (vp_in_iff.mpr h6) d_S_dropHeading_31 (fun H locs hP hD hS => ?_)
    have hP : va_P D cl9 ((cL cI cJ cZ ad) (l_hb_w u (vp_updL (l_hb u) v3.toNatClampNeg (((l_hb u) v3.toNatClampNeg) &&& (v5 ^^^ (-1 : Int64)))))) H := reP (zcL_hb cI cJ cZ ad u (vp_updL (l_hb u) v3.toNatClampNeg (((l_hb u) v3.toNatClampNeg) &&& (v5 ^^^ (-1 : Int64))))) hP
    have hD : va_D A ((cL cI cJ cZ ad) (l_hb_w u (vp_updL (l_hb u) v3.toNatClampNeg (((l_hb u) v3.toNatClampNeg) &&& (v5 ^^^ (-1 : Int64)))))) := reD (zcL_hb cI cJ cZ ad u (vp_updL (l_hb u) v3.toNatClampNeg (((l_hb u) v3.toNatClampNeg) &&& (v5 ^^^ (-1 : Int64))))) hD
    refine lv_iconst (v := (1 : Int32)) hx hb d_S_dropHeading_32 (by decide) ?_
    obtain rfl := Option.some.inj hM
    exact W.zret (v := (1 : Int32)) hx hb hr rfl (fun t ht hW => ⟨⟨(1 : Int32), (l_hb_w u (vp_updL (l_hb u) v3.toNatClampNeg (((l_hb u) v3.toNatClampNeg) &&& (v5 ^^^ (-1 : Int64))))), rfl, rfl, by rw [ht]; exact hP, va_K.moved hW.alike hK, hD⟩, hS.F ht⟩) hS.2.2 d_S_dropHeading_33
  · replace hM := it_t c2 hM
    refine lv_iconst (v := (0 : Int32)) hx hb d_S_dropHeading_9 (by decide) ?_
    obtain rfl := Option.some.inj hM
    exact W.zret (v := (0 : Int32)) hx hb hr rfl (fun t ht hW => ⟨⟨(0 : Int32), u, rfl, rfl, by rw [ht]; exact hP, va_K.moved hW.alike hK, hD⟩, hS.F ht⟩) hS.2.2 d_S_dropHeading_10
end
set_option maxRecDepth 100000 in
theorem c_S_dropHeading (l : Launch) (D : va_G) (cI cJ cZ : ClassId) (ad : Nat → Nat) (sz : Nat) (x1 : Int32) (x2 : Int32) (u : Lib) (res : (Int32 × Lib)) (hM : B_S_dropHeading_0 x1 x2 u = some res) : Met l y_S_dropHeading ws_S_dropHeading rm_S_dropHeading (va_Pc [.ref (ad 6), .int x1, .int x2] (pr_ D cl9 (tyy cI cJ cZ) (cL cI cJ cZ ad) u sz)) (Qwi D cl9 (tyy cI cJ cZ) (cL cI cJ cZ ad) (va_A ((cL cI cJ cZ ad) u) sz) res) 0 0 (va_A ((cL cI cJ cZ ad) u) sz) := by
  refine Met.ofW (cc := prog_3_method_19_code) (maxL := 3) (ret := (Option.some FieldType.boolean)) (by decide) rfl ?_
  intro p e s m args below meth c s₁ B hml hv
  obtain ⟨rfl, hsz, hP, hK, hD0⟩ := hv
  subst hsz
  have hts0 := atoms_spec (ws := ws_S_dropHeading) B.pre
  have hl := lv_entry ([.ref (ad 6), .int x1, .int x2]) (n := 3) (Nat.le_of_ble_eq_true rfl)
  rw [lg_entry_eq]
  generalize (lg_sl ([.ref (ad 6), .int x1, .int x2]) ++ List.replicate (3 - (lg_sl ([.ref (ad 6), .int x1, .int x2])).length) Slot.unset).toArray = ls at hl ⊢
  exact w_S_dropHeading_0 ⟨B.exec, B.bytes, B.returns, hml, findClass_of_methodNamed B.named, fun w h => hts0 w (List.mem_cons_of_mem _ h), B.notSynchronized, hK, fun q h => Or.inr h⟩ x1 x2 u s.heap [] ls hP hD0.self va_S.rf hl hM
section
variable {p : Program} {l : Launch} {e : Env} {s : State} {m : MethodId} {args : Array Value} {below : List Frame} {meth : Method} {c : Code} {D : va_G} {cI cJ cZ : ClassId} {A : Nat → Prop} {ad : Nat → Nat}
set_option maxHeartbeats 4000000 in
set_option maxRecDepth 100000 in
theorem w_S_setRecord_0 {res : (Int32 × Lib)} (C : Cx p s m args meth c prog_3_method_20_code 3 (Option.some FieldType.boolean) "PlainLibrary$Shelves" tb D cl9 (tyy cI cJ cZ) A) (x1 : Int32) (x2 : Int32) (u : Lib) (H : Heap) (locs : List Loc) (ls : Array Slot) (hP : va_P D cl9 ((cL cI cJ cZ ad) u) H) (hD : va_D A ((cL cI cJ cZ ad) u)) (hS : va_S A s.heap H locs) (hl : lv_has ls 3 [(0, .ref (ad 6)), (1, .int x1), (2, .int x2)]) (hM : B_S_setRecord_0 x1 x2 u = some res) : W p l e rm_S_setRecord s m args below meth c H locs 0 0 (MQ below (Qwi D cl9 (tyy cI cJ cZ) (cL cI cJ cZ ad) A res) args s 0 0 A) (F0 m 0 ls []) := by
  have C0 := C
  obtain ⟨hx, hb, hr, hml, hown, hts, hlocks, hK, hA⟩ := C
  replace C := C0
  unfold B_S_setRecord_0 at hM
  refine lv_aload_n hx hb d_S_setRecord_0 rfl (lv_at hl 0 rfl) ?_
  refine va_get (D := D) (ci := 1) (v := .ref (ad 9)) (C := R_S) (T := T_S) (N := 9) hx hb hts in_S hown hK hP 6 rfl rfl 2 (by decide) (hts _ mm_74) (fun _ h9 => h9) rfl d_S_setRecord_1 ?_
  refine lv_iload_n hx hb d_S_setRecord_4 rfl (lv_at hl 1 rfl) ?_
  obtain ⟨h1, hM⟩ := gd_some hM
  refine va_iald hx hb hK hP 9 0 rfl rfl (vp_in_iff.mpr h1) d_S_setRecord_5 ?_
  refine lv_if_eq (tgt := 11) hx hb d_S_setRecord_6 (by decide) (fun c2 => ?_) (fun c2 => ?_)
  · replace hM := it_t c2 hM
    refine lv_aload_n hx hb d_S_setRecord_11 rfl (lv_at hl 0 rfl) ?_
    refine va_get (D := D) (ci := 1) (v := .ref (ad 8)) (C := R_S) (T := T_S) (N := 9) hx hb hts in_S hown hK hP 6 rfl rfl 1 (by decide) (hts _ mm_73) (fun _ h9 => h9) rfl d_S_setRecord_12 ?_
    refine lv_iload_n hx hb d_S_setRecord_15 rfl (lv_at hl 1 rfl) ?_
    refine lv_iload_n hx hb d_S_setRecord_16 rfl (lv_at hl 2 rfl) ?_
    obtain ⟨h3, hM⟩ := gd_some hM
    refine va_iast hx hb hK hP hD hS 8 0 rfl rfl (vp_in_iff.mpr h3) d_S_setRecord_17 (fun H locs hP hD hS => ?_)
    have hP : va_P D cl9 ((cL cI cJ cZ ad) (l_rec_w u (upd (l_rec u) x1.toNatClampNeg x2))) H := reP (zcL_rec cI cJ cZ ad u (upd (l_rec u) x1.toNatClampNeg x2)) hP
    have hD : va_D A ((cL cI cJ cZ ad) (l_rec_w u (upd (l_rec u) x1.toNatClampNeg x2))) := reD (zcL_rec cI cJ cZ ad u (upd (l_rec u) x1.toNatClampNeg x2)) hD
    refine lv_iconst (v := (1 : Int32)) hx hb d_S_setRecord_18 (by decide) ?_
    obtain rfl := Option.some.inj hM
    exact W.zret (v := (1 : Int32)) hx hb hr rfl (fun t ht hW => ⟨⟨(1 : Int32), (l_rec_w u (upd (l_rec u) x1.toNatClampNeg x2)), rfl, rfl, by rw [ht]; exact hP, va_K.moved hW.alike hK, hD⟩, hS.F ht⟩) hS.2.2 d_S_setRecord_19
  · replace hM := it_f c2 hM
    refine lv_iconst (v := (0 : Int32)) hx hb d_S_setRecord_9 (by decide) ?_
    obtain rfl := Option.some.inj hM
    exact W.zret (v := (0 : Int32)) hx hb hr rfl (fun t ht hW => ⟨⟨(0 : Int32), u, rfl, rfl, by rw [ht]; exact hP, va_K.moved hW.alike hK, hD⟩, hS.F ht⟩) hS.2.2 d_S_setRecord_10
end
set_option maxRecDepth 100000 in
theorem c_S_setRecord (l : Launch) (D : va_G) (cI cJ cZ : ClassId) (ad : Nat → Nat) (sz : Nat) (x1 : Int32) (x2 : Int32) (u : Lib) (res : (Int32 × Lib)) (hM : B_S_setRecord_0 x1 x2 u = some res) : Met l y_S_setRecord ws_S_setRecord rm_S_setRecord (va_Pc [.ref (ad 6), .int x1, .int x2] (pr_ D cl9 (tyy cI cJ cZ) (cL cI cJ cZ ad) u sz)) (Qwi D cl9 (tyy cI cJ cZ) (cL cI cJ cZ ad) (va_A ((cL cI cJ cZ ad) u) sz) res) 0 0 (va_A ((cL cI cJ cZ ad) u) sz) := by
  refine Met.ofW (cc := prog_3_method_20_code) (maxL := 3) (ret := (Option.some FieldType.boolean)) (by decide) rfl ?_
  intro p e s m args below meth c s₁ B hml hv
  obtain ⟨rfl, hsz, hP, hK, hD0⟩ := hv
  subst hsz
  have hts0 := atoms_spec (ws := ws_S_setRecord) B.pre
  have hl := lv_entry ([.ref (ad 6), .int x1, .int x2]) (n := 3) (Nat.le_of_ble_eq_true rfl)
  rw [lg_entry_eq]
  generalize (lg_sl ([.ref (ad 6), .int x1, .int x2]) ++ List.replicate (3 - (lg_sl ([.ref (ad 6), .int x1, .int x2])).length) Slot.unset).toArray = ls at hl ⊢
  exact w_S_setRecord_0 ⟨B.exec, B.bytes, B.returns, hml, findClass_of_methodNamed B.named, fun w h => hts0 w (List.mem_cons_of_mem _ h), B.notSynchronized, hK, fun q h => Or.inr h⟩ x1 x2 u s.heap [] ls hP hD0.self va_S.rf hl hM
section
variable {p : Program} {l : Launch} {e : Env} {s : State} {m : MethodId} {args : Array Value} {below : List Frame} {meth : Method} {c : Code} {D : va_G} {cI cJ cZ : ClassId} {A : Nat → Prop} {ad : Nat → Nat}
set_option maxHeartbeats 4000000 in
set_option maxRecDepth 100000 in
theorem w_S_personAt_0 {res : Int32} (C : Cx p s m args meth c prog_3_method_12_code 3 (Option.some FieldType.int) "PlainLibrary$Shelves" tb D cl9 (tyy cI cJ cZ) A) (x1 : Int32) (x2 : Int32) (u : Lib) (H : Heap) (locs : List Loc) (ls : Array Slot) (hP : va_P D cl9 ((cL cI cJ cZ ad) u) H) (hD : va_D (fun _ => True) ((cL cI cJ cZ ad) u)) (hS : va_S A s.heap H locs) (hl : lv_has ls 3 [(0, .ref (ad 6)), (1, .int x1), (2, .int x2)]) (hM : B_S_personAt_0 x1 x2 u = some res) : W p l e rm_S_personAt s m args below meth c H locs 0 0 (MQ below (Qri A res) args s 0 0 A) (F0 m 0 ls []) := by
  have C0 := C
  obtain ⟨hx, hb, hr, hml, hown, hts, hlocks, hK, hA⟩ := C
  replace C := C0
  unfold B_S_personAt_0 at hM
  refine lv_iload_n hx hb d_S_personAt_0 rfl (lv_at hl 2 rfl) ?_
  refine lv_if_lt (tgt := 28) hx hb d_S_personAt_1 (by decide) (fun c1 => ?_) (fun c1 => ?_)
  · replace hM := it_t c1 hM
    refine lv_iconst (v := (-1 : Int32)) hx hb d_S_personAt_28 (by decide) ?_
    obtain rfl := Option.some.inj hM
    exact W.iret (v := (-1 : Int32)) hx hb hr (fun t ht hW => ⟨⟨(-1 : Int32), (), rfl, rfl, trivial⟩, hS.F ht⟩) hS.2.2 d_S_personAt_29
  · replace hM := it_f c1 hM
    refine lv_iload_n hx hb d_S_personAt_4 rfl (lv_at hl 2 rfl) ?_
    refine lv_aload_n hx hb d_S_personAt_5 rfl (lv_at hl 0 rfl) ?_
    refine va_get (D := D) (ci := 1) (v := .ref (ad 12)) (C := R_S) (T := T_S) (N := 9) hx hb hts in_S hown hK hP 6 rfl rfl 5 (by decide) (hts _ mm_77) (fun _ h9 => h9) rfl d_S_personAt_6 ?_
    refine lv_iload_n hx hb d_S_personAt_9 rfl (lv_at hl 1 rfl) ?_
    obtain ⟨h2, hM⟩ := gd_some hM
    refine va_iald hx hb hK hP 12 0 rfl rfl (vp_in_iff.mpr h2) d_S_personAt_10 ?_
    refine lv_icmp_ge (tgt := 28) hx hb d_S_personAt_11 (by decide) (fun c3 => ?_) (fun c3 => ?_)
    · replace hM := it_t c3 hM
      refine lv_iconst (v := (-1 : Int32)) hx hb d_S_personAt_28 (by decide) ?_
      obtain rfl := Option.some.inj hM
      exact W.iret (v := (-1 : Int32)) hx hb hr (fun t ht hW => ⟨⟨(-1 : Int32), (), rfl, rfl, trivial⟩, hS.F ht⟩) hS.2.2 d_S_personAt_29
    · replace hM := it_f c3 hM
      refine lv_aload_n hx hb d_S_personAt_14 rfl (lv_at hl 0 rfl) ?_
      refine va_get (D := D) (ci := 1) (v := .ref (ad 11)) (C := R_S) (T := T_S) (N := 9) hx hb hts in_S hown hK hP 6 rfl rfl 4 (by decide) (hts _ mm_76) (fun _ h9 => h9) rfl d_S_personAt_15 ?_
      refine lv_iload_n hx hb d_S_personAt_18 rfl (lv_at hl 1 rfl) ?_
      refine lv_bipush (v := (20 : Int32)) hx hb d_S_personAt_19 (by decide) ?_
      refine lv_imul hx hb d_S_personAt_21 ?_
      refine lv_iload_n hx hb d_S_personAt_22 rfl (lv_at hl 2 rfl) ?_
      refine lv_iadd hx hb d_S_personAt_23 ?_
      obtain ⟨h4, hM⟩ := gd_some hM
      refine va_iald hx hb hK hP 11 0 rfl rfl (vp_in_iff.mpr h4) d_S_personAt_24 ?_
      refine lv_goto (tgt := 29) hx hb d_S_personAt_25 (by decide) ?_
      obtain rfl := Option.some.inj hM
      exact W.iret (v := ((l_qd u) ((x1 * (20 : Int32)) + x2).toNatClampNeg)) hx hb hr (fun t ht hW => ⟨⟨((l_qd u) ((x1 * (20 : Int32)) + x2).toNatClampNeg), (), rfl, rfl, trivial⟩, hS.F ht⟩) hS.2.2 d_S_personAt_29
end
set_option maxRecDepth 100000 in
theorem c_S_personAt (l : Launch) (D : va_G) (cI cJ cZ : ClassId) (ad : Nat → Nat) (sz : Nat) (x1 : Int32) (x2 : Int32) (u : Lib) (res : Int32) (hM : B_S_personAt_0 x1 x2 u = some res) : Met l y_S_personAt ws_S_personAt rm_S_personAt (va_Pc [.ref (ad 6), .int x1, .int x2] (pr_ D cl9 (tyy cI cJ cZ) (cL cI cJ cZ ad) u sz)) (Qri (va_A [] sz) res) 0 0 (va_A [] sz) := by
  refine Met.ofW (cc := prog_3_method_12_code) (maxL := 3) (ret := (Option.some FieldType.int)) (by decide) rfl ?_
  intro p e s m args below meth c s₁ B hml hv
  obtain ⟨rfl, hsz, hP, hK, hD0⟩ := hv
  subst hsz
  have hts0 := atoms_spec (ws := ws_S_personAt) B.pre
  have hl := lv_entry ([.ref (ad 6), .int x1, .int x2]) (n := 3) (Nat.le_of_ble_eq_true rfl)
  rw [lg_entry_eq]
  generalize (lg_sl ([.ref (ad 6), .int x1, .int x2]) ++ List.replicate (3 - (lg_sl ([.ref (ad 6), .int x1, .int x2])).length) Slot.unset).toArray = ls at hl ⊢
  exact w_S_personAt_0 ⟨B.exec, B.bytes, B.returns, hml, findClass_of_methodNamed B.named, fun w h => hts0 w (List.mem_cons_of_mem _ h), B.notSynchronized, hK, fun q h => Or.inr h⟩ x1 x2 u s.heap [] ls hP hD0 va_S.rf hl hM
section
variable {p : Program} {l : Launch} {e : Env} {s : State} {m : MethodId} {args : Array Value} {below : List Frame} {meth : Method} {c : Code} {D : va_G} {cI cJ cZ : ClassId} {A : Nat → Prop} {ad : Nat → Nat}
set_option maxHeartbeats 4000000 in
set_option maxRecDepth 100000 in
theorem w_S_placeInQueue_2s {res : Int32} (C : Cx p s m args meth c prog_3_method_23_code 4 (Option.some FieldType.int) "PlainLibrary$Shelves" tb D cl9 (tyy cI cJ cZ) A) {k2 : Int32 → Int32 → Int32 → Lib → Option Int32} (hk2 : ∀ (x1 : Int32) (x2 : Int32) (x3 : Int32) (u : Lib) (H : Heap) (locs : List Loc) (ls : Array Slot), va_P D cl9 ((cL cI cJ cZ ad) u) H → va_D (fun _ => True) ((cL cI cJ cZ ad) u) → va_S A s.heap H locs → lv_has ls 4 [(0, .ref (ad 6)), (1, .int x1), (2, .int x2), (3, .int x3)] → k2 x1 x2 x3 u = some res → W p l e rm_S_placeInQueue s m args below meth c H locs 0 0 (MQ below (Qri A res) args s 0 0 A) (F0 m 2 ls [])) (x1 : Int32) (x2 : Int32) (x3 : Int32) (u : Lib) (H : Heap) (locs : List Loc) (ls : Array Slot) (hP : va_P D cl9 ((cL cI cJ cZ ad) u) H) (hD : va_D (fun _ => True) ((cL cI cJ cZ ad) u)) (hS : va_S A s.heap H locs) (hl : lv_has ls 4 [(0, .ref (ad 6)), (1, .int x1), (2, .int x2), (3, .int x3)]) (hM : B_S_placeInQueue_2s k2 x1 x2 x3 u = some res) : W p l e rm_S_placeInQueue s m args below meth c H locs 0 0 (MQ below (Qri A res) args s 0 0 A) (F0 m 2 ls []) := by
  have C0 := C
  obtain ⟨hx, hb, hr, hml, hown, hts, hlocks, hK, hA⟩ := C
  replace C := C0
  unfold B_S_placeInQueue_2s at hM
  refine lv_iload_n hx hb d_S_placeInQueue_2 rfl (lv_at hl 3 rfl) ?_
  refine lv_aload_n hx hb d_S_placeInQueue_3 rfl (lv_at hl 0 rfl) ?_
  refine va_get (D := D) (ci := 1) (v := .ref (ad 12)) (C := R_S) (T := T_S) (N := 9) hx hb hts in_S hown hK hP 6 rfl rfl 5 (by decide) (hts _ mm_77) (fun _ h9 => h9) rfl d_S_placeInQueue_4 ?_
  refine lv_iload_n hx hb d_S_placeInQueue_7 rfl (lv_at hl 1 rfl) ?_
  obtain ⟨h1, hM⟩ := gd_some hM
  refine va_iald hx hb hK hP 12 0 rfl rfl (vp_in_iff.mpr h1) d_S_placeInQueue_8 ?_
  refine lv_icmp_ge (tgt := 35) hx hb d_S_placeInQueue_9 (by decide) (fun c2 => ?_) (fun c2 => ?_)
  · replace hM := it_t c2 hM
    refine lv_iconst (v := (-1 : Int32)) hx hb d_S_placeInQueue_35 (by decide) ?_
    obtain rfl := Option.some.inj hM
    exact W.iret (v := (-1 : Int32)) hx hb hr (fun t ht hW => ⟨⟨(-1 : Int32), (), rfl, rfl, trivial⟩, hS.F ht⟩) hS.2.2 d_S_placeInQueue_36
  · replace hM := it_f c2 hM
    refine lv_aload_n hx hb d_S_placeInQueue_12 rfl (lv_at hl 0 rfl) ?_
    refine va_get (D := D) (ci := 1) (v := .ref (ad 11)) (C := R_S) (T := T_S) (N := 9) hx hb hts in_S hown hK hP 6 rfl rfl 4 (by decide) (hts _ mm_76) (fun _ h9 => h9) rfl d_S_placeInQueue_13 ?_
    refine lv_iload_n hx hb d_S_placeInQueue_16 rfl (lv_at hl 1 rfl) ?_
    refine lv_bipush (v := (20 : Int32)) hx hb d_S_placeInQueue_17 (by decide) ?_
    refine lv_imul hx hb d_S_placeInQueue_19 ?_
    refine lv_iload_n hx hb d_S_placeInQueue_20 rfl (lv_at hl 3 rfl) ?_
    refine lv_iadd hx hb d_S_placeInQueue_21 ?_
    obtain ⟨h3, hM⟩ := gd_some hM
    refine va_iald hx hb hK hP 11 0 rfl rfl (vp_in_iff.mpr h3) d_S_placeInQueue_22 ?_
    refine lv_iload_n hx hb d_S_placeInQueue_23 rfl (lv_at hl 2 rfl) ?_
    refine lv_icmp_ne (tgt := 29) hx hb d_S_placeInQueue_24 (by decide) (fun c4 => ?_) (fun c4 => ?_)
    · replace hM := it_f c4 hM
      refine lv_iinc (v := (x3 + (1 : Int32))) (lv' := [(3, .int (x3 + (1 : Int32))), (0, .ref (ad 6)), (1, .int x1), (2, .int x2)]) hx hb d_S_placeInQueue_29 hl (k := 3) rfl rfl (by decide) rfl (fun ls hl => ?_)
      refine lv_goto (tgt := 2) hx hb d_S_placeInQueue_32 (by decide) ?_
      exact hk2 x1 x2 (x3 + (1 : Int32)) u H locs ls hP hD hS (lv_sub hl [1, 2, 3, 0] rfl) hM
    · replace hM := it_t c4 hM
      refine lv_iload_n hx hb d_S_placeInQueue_27 rfl (lv_at hl 3 rfl) ?_
      obtain rfl := Option.some.inj hM
      exact W.iret (v := x3) hx hb hr (fun t ht hW => ⟨⟨x3, (), rfl, rfl, trivial⟩, hS.F ht⟩) hS.2.2 d_S_placeInQueue_28
theorem w_S_placeInQueue_2 {res : Int32} (C : Cx p s m args meth c prog_3_method_23_code 4 (Option.some FieldType.int) "PlainLibrary$Shelves" tb D cl9 (tyy cI cJ cZ) A) : ∀ (fu : Nat) (x1 : Int32) (x2 : Int32) (x3 : Int32) (u : Lib) (H : Heap) (locs : List Loc) (ls : Array Slot), va_P D cl9 ((cL cI cJ cZ ad) u) H → va_D (fun _ => True) ((cL cI cJ cZ ad) u) → va_S A s.heap H locs → lv_has ls 4 [(0, .ref (ad 6)), (1, .int x1), (2, .int x2), (3, .int x3)] → B_S_placeInQueue_2 fu x1 x2 x3 u = some res → W p l e rm_S_placeInQueue s m args below meth c H locs 0 0 (MQ below (Qri A res) args s 0 0 A) (F0 m 2 ls []) := by
  intro fu
  induction fu with
  | zero =>
    intro x1 x2 x3 u H locs ls hP hD hS hl hM
    have hM : (none : Option Int32) = some res := hM
    cases hM
  | succ fu ih =>
    intro x1 x2 x3 u H locs ls hP hD hS hl hM
    exact w_S_placeInQueue_2s C ih x1 x2 x3 u H locs ls hP hD hS hl hM
set_option maxHeartbeats 4000000 in
set_option maxRecDepth 100000 in
theorem w_S_placeInQueue_0 {res : Int32} (C : Cx p s m args meth c prog_3_method_23_code 4 (Option.some FieldType.int) "PlainLibrary$Shelves" tb D cl9 (tyy cI cJ cZ) A) (x1 : Int32) (x2 : Int32) (u : Lib) (H : Heap) (locs : List Loc) (ls : Array Slot) (hP : va_P D cl9 ((cL cI cJ cZ ad) u) H) (hD : va_D (fun _ => True) ((cL cI cJ cZ ad) u)) (hS : va_S A s.heap H locs) (hl : lv_has ls 4 [(0, .ref (ad 6)), (1, .int x1), (2, .int x2)]) (hM : B_S_placeInQueue_0 x1 x2 u = some res) : W p l e rm_S_placeInQueue s m args below meth c H locs 0 0 (MQ below (Qri A res) args s 0 0 A) (F0 m 0 ls []) := by
  have C0 := C
  obtain ⟨hx, hb, hr, hml, hown, hts, hlocks, hK, hA⟩ := C
  replace C := C0
  unfold B_S_placeInQueue_0 at hM
  refine lv_iconst (v := (0 : Int32)) hx hb d_S_placeInQueue_0 (by decide) ?_
  refine lv_istore_n (lv' := [(3, .int (0 : Int32)), (0, .ref (ad 6)), (1, .int x1), (2, .int x2)]) hx hb d_S_placeInQueue_1 rfl hl (by decide) rfl (fun ls hl => ?_)
  exact w_S_placeInQueue_2 C FU x1 x2 (0 : Int32) u H locs ls hP hD hS (lv_sub hl [1, 2, 3, 0] rfl) hM
end
set_option maxRecDepth 100000 in
theorem c_S_placeInQueue (l : Launch) (D : va_G) (cI cJ cZ : ClassId) (ad : Nat → Nat) (sz : Nat) (x1 : Int32) (x2 : Int32) (u : Lib) (res : Int32) (hM : B_S_placeInQueue_0 x1 x2 u = some res) : Met l y_S_placeInQueue ws_S_placeInQueue rm_S_placeInQueue (va_Pc [.ref (ad 6), .int x1, .int x2] (pr_ D cl9 (tyy cI cJ cZ) (cL cI cJ cZ ad) u sz)) (Qri (va_A [] sz) res) 0 0 (va_A [] sz) := by
  refine Met.ofW (cc := prog_3_method_23_code) (maxL := 4) (ret := (Option.some FieldType.int)) (by decide) rfl ?_
  intro p e s m args below meth c s₁ B hml hv
  obtain ⟨rfl, hsz, hP, hK, hD0⟩ := hv
  subst hsz
  have hts0 := atoms_spec (ws := ws_S_placeInQueue) B.pre
  have hl := lv_entry ([.ref (ad 6), .int x1, .int x2]) (n := 4) (Nat.le_of_ble_eq_true rfl)
  rw [lg_entry_eq]
  generalize (lg_sl ([.ref (ad 6), .int x1, .int x2]) ++ List.replicate (4 - (lg_sl ([.ref (ad 6), .int x1, .int x2])).length) Slot.unset).toArray = ls at hl ⊢
  exact w_S_placeInQueue_0 ⟨B.exec, B.bytes, B.returns, hml, findClass_of_methodNamed B.named, fun w h => hts0 w (List.mem_cons_of_mem _ h), B.notSynchronized, hK, fun q h => Or.inr h⟩ x1 x2 u s.heap [] ls hP hD0 va_S.rf hl hM
section
variable {p : Program} {l : Launch} {e : Env} {s : State} {m : MethodId} {args : Array Value} {below : List Frame} {meth : Method} {c : Code} {D : va_G} {cI cJ cZ : ClassId} {A : Nat → Prop} {ad : Nat → Nat}
set_option maxHeartbeats 4000000 in
set_option maxRecDepth 100000 in
theorem w_S_leaveQueue_0 {res : (Int32 × Lib)} (C : Cx p s m args meth c prog_3_method_25_code 5 (Option.some FieldType.boolean) "PlainLibrary$Shelves" tb D cl9 (tyy cI cJ cZ) A) (x1 : Int32) (x2 : Int32) (u : Lib) (H : Heap) (locs : List Loc) (ls : Array Slot) (hP : va_P D cl9 ((cL cI cJ cZ ad) u) H) (hD : va_D A ((cL cI cJ cZ ad) u)) (hS : va_S A s.heap H locs) (hl : lv_has ls 5 [(0, .ref (ad 6)), (1, .int x1), (2, .int x2)]) (hM : B_S_leaveQueue_0 x1 x2 u = some res) : W p l e rm_S_leaveQueue s m args below meth c H locs 0 0 (MQ below (Qwi D cl9 (tyy cI cJ cZ) (cL cI cJ cZ ad) A res) args s 0 0 A) (F0 m 0 ls []) := by
  have C0 := C
  obtain ⟨hx, hb, hr, hml, hown, hts, hlocks, hK, hA⟩ := C
  replace C := C0
  unfold B_S_leaveQueue_0 at hM
  refine lv_aload_n hx hb d_S_leaveQueue_0 rfl (lv_at hl 0 rfl) ?_
  refine lv_iload_n hx hb d_S_leaveQueue_1 rfl (lv_at hl 1 rfl) ?_
  refine lv_iload_n hx hb d_S_leaveQueue_2 rfl (lv_at hl 2 rfl) ?_
  obtain ⟨v1, hq1, hM⟩ := bd_some hM
  refine fr_i (res := v1) (va_runV (As := [.int x1, .int x2]) (rest := []) ⟨hx, hb, hml, hown, hts⟩ (c_S_placeInQueue l D cI cJ cZ ad H.size x1 x2 u v1 hq1) (cwV 2 hts (gV mm_204 mm_206 (ms_ 6 rfl rfl) mm_29 mm_207) rfl rfl rfl hd_S_placeInQueue ⟨Nat.le_of_ble_eq_true rfl, Nat.le_of_ble_eq_true rfl⟩) (pv_ (F := (cL cI cJ cZ ad)) (u := u) hK hP hD (va_recv hK hP (ci := 1) (q0 := 6) rfl rfl)) rfl rfl hl.1 rfl (lv_room (Nat.le_of_ble_eq_true rfl)) d_S_leaveQueue_3 ⟨Nat.le_of_ble_eq_true rfl, Nat.le_of_ble_eq_true rfl⟩) hP hS hA (fun H locs hP hS => ?_)
  refine lv_istore_n (lv' := [(3, .int v1), (0, .ref (ad 6)), (1, .int x1), (2, .int x2)]) hx hb d_S_leaveQueue_6 rfl hl (by decide) rfl (fun ls hl => ?_)
  refine lv_iload_n hx hb d_S_leaveQueue_7 rfl (lv_at hl 0 rfl) ?_
  refine lv_iconst (v := (-1 : Int32)) hx hb d_S_leaveQueue_8 (by decide) ?_
  refine lv_icmp_ne (tgt := 14) hx hb d_S_leaveQueue_9 (by decide) (fun c2 => ?_) (fun c2 => ?_)
  · replace hM := it_f c2 hM
    refine lv_iload_n hx hb d_S_leaveQueue_14 rfl (lv_at hl 2 rfl) ?_
    refine lv_bipush (v := (20 : Int32)) hx hb d_S_leaveQueue_15 (by decide) ?_
    refine lv_imul hx hb d_S_leaveQueue_17 ?_
    refine lv_iload_n hx hb d_S_leaveQueue_18 rfl (lv_at hl 0 rfl) ?_
    refine lv_iadd hx hb d_S_leaveQueue_19 ?_
    refine lv_istore (lv' := [(4, .int ((x1 * (20 : Int32)) + v1)), (3, .int v1), (0, .ref (ad 6)), (1, .int x1), (2, .int x2)]) hx hb d_S_leaveQueue_20 hl (by decide) rfl (fun ls hl => ?_)
    refine lv_aload_n hx hb d_S_leaveQueue_22 rfl (lv_at hl 2 rfl) ?_
    refine va_get (D := D) (ci := 1) (v := .ref (ad 11)) (C := R_S) (T := T_S) (N := 9) hx hb hts in_S hown hK hP 6 rfl rfl 4 (by decide) (hts _ mm_76) (fun _ h9 => h9) rfl d_S_leaveQueue_23 ?_
    refine lv_iload hx hb d_S_leaveQueue_26 (lv_at hl 0 rfl) ?_
    refine lv_iconst (v := (1 : Int32)) hx hb d_S_leaveQueue_28 (by decide) ?_
    refine lv_iadd hx hb d_S_leaveQueue_29 ?_
    refine lv_aload_n hx hb d_S_leaveQueue_30 rfl (lv_at hl 2 rfl) ?_
    refine va_get (D := D) (ci := 1) (v := .ref (ad 11)) (C := R_S) (T := T_S) (N := 9) hx hb hts in_S hown hK hP 6 rfl rfl 4 (by decide) (hts _ mm_76) (fun _ h9 => h9) rfl d_S_leaveQueue_31 ?_
    refine lv_iload hx hb d_S_leaveQueue_34 (lv_at hl 0 rfl) ?_
    refine lv_aload_n hx hb d_S_leaveQueue_36 rfl (lv_at hl 2 rfl) ?_
    refine va_get (D := D) (ci := 1) (v := .ref (ad 12)) (C := R_S) (T := T_S) (N := 9) hx hb hts in_S hown hK hP 6 rfl rfl 5 (by decide) (hts _ mm_77) (fun _ h9 => h9) rfl d_S_leaveQueue_37 ?_
    refine lv_iload_n hx hb d_S_leaveQueue_40 rfl (lv_at hl 3 rfl) ?_
    obtain ⟨h3, hM⟩ := gd_some hM
    refine va_iald hx hb hK hP 12 0 rfl rfl (vp_in_iff.mpr h3) d_S_leaveQueue_41 ?_
    refine lv_iload_n hx hb d_S_leaveQueue_42 rfl (lv_at hl 1 rfl) ?_
    refine lv_isub hx hb d_S_leaveQueue_43 ?_
    refine lv_iconst (v := (1 : Int32)) hx hb d_S_leaveQueue_44 (by decide) ?_
    refine lv_isub hx hb d_S_leaveQueue_45 ?_
    obtain ⟨⟨h4a, h4b, h4c, h4d, h4e⟩, hM⟩ := gd_some hM
    refine va_copyi (ty := .int) hx hb (hml.trans hl.1.symm) hown (hts _ mm_208) (hts _ mm_142) (hts _ mm_141) (hts _ mm_31) hK hP hD hS 11 11 0 0 rfl rfl rfl rfl rfl (ic_nn h4a) (ic_nn h4b) (ic_nn h4c) (ic_le h4a h4c h4d) (ic_le h4b h4c h4e) (fun _ _ => rfl) (Nat.le_of_ble_eq_true rfl) (Nat.le_of_ble_eq_true rfl) d_S_leaveQueue_46 (fun H locs hP hD hS => ?_)
    have hP : va_P D cl9 ((cL cI cJ cZ ad) (l_qd_w u (va_cpy (l_qd u) (l_qd u) (((x1 * (20 : Int32)) + v1) + (1 : Int32)).toNatClampNeg ((x1 * (20 : Int32)) + v1).toNatClampNeg ((((l_ql u) x1.toNatClampNeg) - v1) - (1 : Int32)).toNatClampNeg))) H := reP (zcL_qd cI cJ cZ ad u (va_cpy (l_qd u) (l_qd u) (((x1 * (20 : Int32)) + v1) + (1 : Int32)).toNatClampNeg ((x1 * (20 : Int32)) + v1).toNatClampNeg ((((l_ql u) x1.toNatClampNeg) - v1) - (1 : Int32)).toNatClampNeg)) hP
    have hD : va_D A ((cL cI cJ cZ ad) (l_qd_w u (va_cpy (l_qd u) (l_qd u) (((x1 * (20 : Int32)) + v1) + (1 : Int32)).toNatClampNeg ((x1 * (20 : Int32)) + v1).toNatClampNeg ((((l_ql u) x1.toNatClampNeg) - v1) - (1 : Int32)).toNatClampNeg))) := reD (zcL_qd cI cJ cZ ad u (va_cpy (l_qd u) (l_qd u) (((x1 * (20 : Int32)) + v1) + (1 : Int32)).toNatClampNeg ((x1 * (20 : Int32)) + v1).toNatClampNeg ((((l_ql u) x1.toNatClampNeg) - v1) - (1 : Int32)).toNatClampNeg)) hD
    obtain ⟨u5, hu5, hM⟩ := bd_some hM
    rw [Option.some.inj hu5] at hP hD
    refine lv_aload_n hx hb d_S_leaveQueue_49 rfl (lv_at hl 2 rfl) ?_
    refine va_get (D := D) (ci := 1) (v := .ref (ad 12)) (C := R_S) (T := T_S) (N := 9) hx hb hts in_S hown hK hP 6 rfl rfl 5 (by decide) (hts _ mm_77) (fun _ h9 => h9) rfl d_S_leaveQueue_50 ?_
    refine lv_iload_n hx hb d_S_leaveQueue_53 rfl (lv_at hl 3 rfl) ?_
    refine lv_dup2_11 hx hb d_S_leaveQueue_54 rfl rfl ?_
    obtain ⟨h6, hM⟩ := gd_some hM
    refine va_iald hx hb hK hP 12 0 rfl rfl (vp_in_iff.mpr h6) d_S_leaveQueue_55 ?_
    refine lv_iconst (v := (1 : Int32)) hx hb d_S_leaveQueue_56 (by decide) ?_
    refine lv_isub hx hb d_S_leaveQueue_57 ?_
    obtain ⟨h7, hM⟩ := gd_some hM
    refine va_iast hx hb hK hP hD hS 12 0 rfl rfl (vp_in_iff.mpr h7) d_S_leaveQueue_58 (fun H locs hP hD hS => ?_)
    have hP : va_P D cl9 ((cL cI cJ cZ ad) (l_ql_w u5 (upd (l_ql u5) x1.toNatClampNeg (((l_ql u5) x1.toNatClampNeg) - (1 : Int32))))) H := reP (zcL_ql cI cJ cZ ad u5 (upd (l_ql u5) x1.toNatClampNeg (((l_ql u5) x1.toNatClampNeg) - (1 : Int32)))) hP
    have hD : va_D A ((cL cI cJ cZ ad) (l_ql_w u5 (upd (l_ql u5) x1.toNatClampNeg (((l_ql u5) x1.toNatClampNeg) - (1 : Int32))))) := reD (zcL_ql cI cJ cZ ad u5 (upd (l_ql u5) x1.toNatClampNeg (((l_ql u5) x1.toNatClampNeg) - (1 : Int32)))) hD
    refine lv_iconst (v := (1 : Int32)) hx hb d_S_leaveQueue_59 (by decide) ?_
    obtain rfl := Option.some.inj hM
    exact W.zret (v := (1 : Int32)) hx hb hr rfl (fun t ht hW => ⟨⟨(1 : Int32), (l_ql_w u5 (upd (l_ql u5) x1.toNatClampNeg (((l_ql u5) x1.toNatClampNeg) - (1 : Int32)))), rfl, rfl, by rw [ht]; exact hP, va_K.moved hW.alike hK, hD⟩, hS.F ht⟩) hS.2.2 d_S_leaveQueue_60
  · replace hM := it_t c2 hM
    refine lv_iconst (v := (0 : Int32)) hx hb d_S_leaveQueue_12 (by decide) ?_
    obtain rfl := Option.some.inj hM
    exact W.zret (v := (0 : Int32)) hx hb hr rfl (fun t ht hW => ⟨⟨(0 : Int32), u, rfl, rfl, by rw [ht]; exact hP, va_K.moved hW.alike hK, hD⟩, hS.F ht⟩) hS.2.2 d_S_leaveQueue_13
end
set_option maxRecDepth 100000 in
theorem c_S_leaveQueue (l : Launch) (D : va_G) (cI cJ cZ : ClassId) (ad : Nat → Nat) (sz : Nat) (x1 : Int32) (x2 : Int32) (u : Lib) (res : (Int32 × Lib)) (hM : B_S_leaveQueue_0 x1 x2 u = some res) : Met l y_S_leaveQueue ws_S_leaveQueue rm_S_leaveQueue (va_Pc [.ref (ad 6), .int x1, .int x2] (pr_ D cl9 (tyy cI cJ cZ) (cL cI cJ cZ ad) u sz)) (Qwi D cl9 (tyy cI cJ cZ) (cL cI cJ cZ ad) (va_A ((cL cI cJ cZ ad) u) sz) res) 0 0 (va_A ((cL cI cJ cZ ad) u) sz) := by
  refine Met.ofW (cc := prog_3_method_25_code) (maxL := 5) (ret := (Option.some FieldType.boolean)) (by decide) rfl ?_
  intro p e s m args below meth c s₁ B hml hv
  obtain ⟨rfl, hsz, hP, hK, hD0⟩ := hv
  subst hsz
  have hts0 := atoms_spec (ws := ws_S_leaveQueue) B.pre
  have hl := lv_entry ([.ref (ad 6), .int x1, .int x2]) (n := 5) (Nat.le_of_ble_eq_true rfl)
  rw [lg_entry_eq]
  generalize (lg_sl ([.ref (ad 6), .int x1, .int x2]) ++ List.replicate (5 - (lg_sl ([.ref (ad 6), .int x1, .int x2])).length) Slot.unset).toArray = ls at hl ⊢
  exact w_S_leaveQueue_0 ⟨B.exec, B.bytes, B.returns, hml, findClass_of_methodNamed B.named, fun w h => hts0 w (List.mem_cons_of_mem _ h), B.notSynchronized, hK, fun q h => Or.inr h⟩ x1 x2 u s.heap [] ls hP hD0.self va_S.rf hl hM
section
variable {p : Program} {l : Launch} {e : Env} {s : State} {m : MethodId} {args : Array Value} {below : List Frame} {meth : Method} {c : Code} {D : va_G} {cI cJ cZ : ClassId} {A : Nat → Prop} {ad : Nat → Nat}
set_option maxHeartbeats 4000000 in
set_option maxRecDepth 100000 in
theorem w_S_lend_47 {res : (Int32 × Lib)} (C : Cx p s m args meth c prog_3_method_21_code 7 (Option.some FieldType.boolean) "PlainLibrary$Shelves" tb D cl9 (tyy cI cJ cZ) A) (x1 : Int32) (x2 : Int32) (y3 : Int64) (x5 : Int32) (u : Lib) (H : Heap) (locs : List Loc) (ls : Array Slot) (hP : va_P D cl9 ((cL cI cJ cZ ad) u) H) (hD : va_D A ((cL cI cJ cZ ad) u)) (hS : va_S A s.heap H locs) (hl : lv_has ls 7 [(0, .ref (ad 6)), (1, .int x1), (2, .int x2), (3, .long y3), (5, .int x5)]) (hM : B_S_lend_47 x1 x2 y3 x5 u = some res) : W p l e rm_S_lend s m args below meth c H locs 0 0 (MQ below (Qwi D cl9 (tyy cI cJ cZ) (cL cI cJ cZ ad) A res) args s 0 0 A) (F0 m 47 ls []) := by
  have C0 := C
  obtain ⟨hx, hb, hr, hml, hown, hts, hlocks, hK, hA⟩ := C
  replace C := C0
  unfold B_S_lend_47 at hM
  refine lv_aload_n hx hb d_S_lend_47 rfl (lv_at hl 0 rfl) ?_
  refine lv_iload hx hb d_S_lend_48 (lv_at hl 4 rfl) ?_
  refine lv_iload_n hx hb d_S_lend_50 rfl (lv_at hl 2 rfl) ?_
  obtain ⟨v1, hq1, hM⟩ := bd_some hM
  refine fw_i (F := (cL cI cJ cZ ad)) (u := u) (res := v1) (va_runV (As := [.int x5, .int x2]) (rest := []) ⟨hx, hb, hml, hown, hts⟩ (c_S_leaveQueue l D cI cJ cZ ad H.size x5 x2 u v1 hq1) (cwV 2 hts (gV mm_200 mm_202 (ms_ 5 rfl rfl) mm_29 mm_203) rfl rfl rfl hd_S_leaveQueue ⟨Nat.le_of_ble_eq_true rfl, Nat.le_of_ble_eq_true rfl⟩) (pv_ (F := (cL cI cJ cZ ad)) (u := u) hK hP hD (va_recv hK hP (ci := 1) (q0 := 6) rfl rfl)) rfl rfl hl.1 rfl (lv_room (Nat.le_of_ble_eq_true rfl)) d_S_lend_51 ⟨Nat.le_of_ble_eq_true rfl, Nat.le_of_ble_eq_true rfl⟩) hS (fa_ hD hS hA) (fun H locs hP hD hS => ?_)
  refine lv_pop hx hb d_S_lend_54 rfl ?_
  refine lv_aload_n hx hb d_S_lend_55 rfl (lv_at hl 0 rfl) ?_
  refine va_get (D := D) (ci := 1) (v := .ref (ad 9)) (C := R_S) (T := T_S) (N := 9) hx hb hts in_S hown hK hP 6 rfl rfl 2 (by decide) (hts _ mm_74) (fun _ h9 => h9) rfl d_S_lend_56 ?_
  refine lv_iload_n hx hb d_S_lend_59 rfl (lv_at hl 1 rfl) ?_
  refine lv_iload_n hx hb d_S_lend_60 rfl (lv_at hl 2 rfl) ?_
  obtain ⟨h2, hM⟩ := gd_some hM
  refine va_iast hx hb hK hP hD hS 9 0 rfl rfl (vp_in_iff.mpr h2) d_S_lend_61 (fun H locs hP hD hS => ?_)
  have hP : va_P D cl9 ((cL cI cJ cZ ad) (l_per_w v1.2 (upd (l_per v1.2) x1.toNatClampNeg x2))) H := reP (zcL_per cI cJ cZ ad v1.2 (upd (l_per v1.2) x1.toNatClampNeg x2)) hP
  have hD : va_D A ((cL cI cJ cZ ad) (l_per_w v1.2 (upd (l_per v1.2) x1.toNatClampNeg x2))) := reD (zcL_per cI cJ cZ ad v1.2 (upd (l_per v1.2) x1.toNatClampNeg x2)) hD
  refine lv_aload_n hx hb d_S_lend_62 rfl (lv_at hl 0 rfl) ?_
  refine va_get (D := D) (ci := 1) (v := .ref (ad 10)) (C := R_S) (T := T_S) (N := 9) hx hb hts in_S hown hK hP 6 rfl rfl 3 (by decide) (hts _ mm_75) (fun _ h9 => h9) rfl d_S_lend_63 ?_
  refine lv_iload_n hx hb d_S_lend_66 rfl (lv_at hl 1 rfl) ?_
  refine lv_lload_n hx hb d_S_lend_67 rfl (lv_at hl 3 rfl) ?_
  refine lv_aload_n hx hb d_S_lend_68 rfl (lv_at hl 0 rfl) ?_
  refine va_get (D := D) (ci := 1) (v := .ref (ad 14)) (C := R_S) (T := T_S) (N := 9) hx hb hts in_S hown hK hP 6 rfl rfl 7 (by decide) (hts _ mm_79) (fun _ h9 => h9) rfl d_S_lend_69 ?_
  refine lv_aload_n hx hb d_S_lend_72 rfl (lv_at hl 0 rfl) ?_
  refine va_get (D := D) (ci := 1) (v := .ref (ad 13)) (C := R_S) (T := T_S) (N := 9) hx hb hts in_S hown hK hP 6 rfl rfl 6 (by decide) (hts _ mm_78) (fun _ h9 => h9) rfl d_S_lend_73 ?_
  refine lv_iload hx hb d_S_lend_76 (lv_at hl 4 rfl) ?_
  obtain ⟨h3, hM⟩ := gd_some hM
  refine va_iald hx hb hK hP 13 0 rfl rfl (vp_in_iff.mpr h3) d_S_lend_78 ?_
  obtain ⟨h4, hM⟩ := gd_some hM
  refine va_iald hx hb hK hP 14 0 rfl rfl (vp_in_iff.mpr h4) d_S_lend_79 ?_
  refine lv_i2l (v := ((l_ln (l_per_w v1.2 (upd (l_per v1.2) x1.toNatClampNeg x2))) ((l_cls (l_per_w v1.2 (upd (l_per v1.2) x1.toNatClampNeg x2))) x5.toNatClampNeg).toNatClampNeg).toInt64) hx hb d_S_lend_80 rfl ?_
  refine lv_ladd hx hb d_S_lend_81 ?_
  obtain ⟨h5, hM⟩ := gd_some hM
  refine va_last hx hb hK hP hD hS 10 1 rfl rfl (vp_in_iff.mpr h5) d_S_lend_82 (fun H locs hP hD hS => ?_)
  have hP : va_P D cl9 ((cL cI cJ cZ ad) (l_due_w (l_per_w v1.2 (upd (l_per v1.2) x1.toNatClampNeg x2)) (vp_updL (l_due (l_per_w v1.2 (upd (l_per v1.2) x1.toNatClampNeg x2))) x1.toNatClampNeg (y3 + (((l_ln (l_per_w v1.2 (upd (l_per v1.2) x1.toNatClampNeg x2))) ((l_cls (l_per_w v1.2 (upd (l_per v1.2) x1.toNatClampNeg x2))) x5.toNatClampNeg).toNatClampNeg).toInt64))))) H := reP (zcL_due cI cJ cZ ad (l_per_w v1.2 (upd (l_per v1.2) x1.toNatClampNeg x2)) (vp_updL (l_due (l_per_w v1.2 (upd (l_per v1.2) x1.toNatClampNeg x2))) x1.toNatClampNeg (y3 + (((l_ln (l_per_w v1.2 (upd (l_per v1.2) x1.toNatClampNeg x2))) ((l_cls (l_per_w v1.2 (upd (l_per v1.2) x1.toNatClampNeg x2))) x5.toNatClampNeg).toNatClampNeg).toInt64)))) hP
  have hD : va_D A ((cL cI cJ cZ ad) (l_due_w (l_per_w v1.2 (upd (l_per v1.2) x1.toNatClampNeg x2)) (vp_updL (l_due (l_per_w v1.2 (upd (l_per v1.2) x1.toNatClampNeg x2))) x1.toNatClampNeg (y3 + (((l_ln (l_per_w v1.2 (upd (l_per v1.2) x1.toNatClampNeg x2))) ((l_cls (l_per_w v1.2 (upd (l_per v1.2) x1.toNatClampNeg x2))) x5.toNatClampNeg).toNatClampNeg).toInt64))))) := reD (zcL_due cI cJ cZ ad (l_per_w v1.2 (upd (l_per v1.2) x1.toNatClampNeg x2)) (vp_updL (l_due (l_per_w v1.2 (upd (l_per v1.2) x1.toNatClampNeg x2))) x1.toNatClampNeg (y3 + (((l_ln (l_per_w v1.2 (upd (l_per v1.2) x1.toNatClampNeg x2))) ((l_cls (l_per_w v1.2 (upd (l_per v1.2) x1.toNatClampNeg x2))) x5.toNatClampNeg).toNatClampNeg).toInt64)))) hD
  obtain ⟨u6, hu6, hM⟩ := bd_some hM
  rw [Option.some.inj hu6] at hP hD
  refine lv_iconst (v := (1 : Int32)) hx hb d_S_lend_83 (by decide) ?_
  obtain rfl := Option.some.inj hM
  exact W.zret (v := (1 : Int32)) hx hb hr rfl (fun t ht hW => ⟨⟨(1 : Int32), u6, rfl, rfl, by rw [ht]; exact hP, va_K.moved hW.alike hK, hD⟩, hS.F ht⟩) hS.2.2 d_S_lend_84
set_option maxHeartbeats 4000000 in
set_option maxRecDepth 100000 in
theorem w_S_lend_0 {res : (Int32 × Lib)} (C : Cx p s m args meth c prog_3_method_21_code 7 (Option.some FieldType.boolean) "PlainLibrary$Shelves" tb D cl9 (tyy cI cJ cZ) A) (x1 : Int32) (x2 : Int32) (y3 : Int64) (u : Lib) (H : Heap) (locs : List Loc) (ls : Array Slot) (hP : va_P D cl9 ((cL cI cJ cZ ad) u) H) (hD : va_D A ((cL cI cJ cZ ad) u)) (hS : va_S A s.heap H locs) (hl : lv_has ls 7 [(0, .ref (ad 6)), (1, .int x1), (2, .int x2), (3, .long y3)]) (hM : B_S_lend_0 x1 x2 y3 u = some res) : W p l e rm_S_lend s m args below meth c H locs 0 0 (MQ below (Qwi D cl9 (tyy cI cJ cZ) (cL cI cJ cZ ad) A res) args s 0 0 A) (F0 m 0 ls []) := by
  have C0 := C
  obtain ⟨hx, hb, hr, hml, hown, hts, hlocks, hK, hA⟩ := C
  replace C := C0
  unfold B_S_lend_0 at hM
  refine lv_aload_n hx hb d_S_lend_0 rfl (lv_at hl 0 rfl) ?_
  refine va_get (D := D) (ci := 1) (v := .ref (ad 8)) (C := R_S) (T := T_S) (N := 9) hx hb hts in_S hown hK hP 6 rfl rfl 1 (by decide) (hts _ mm_73) (fun _ h9 => h9) rfl d_S_lend_1 ?_
  refine lv_iload_n hx hb d_S_lend_4 rfl (lv_at hl 1 rfl) ?_
  obtain ⟨h1, hM⟩ := gd_some hM
  refine va_iald hx hb hK hP 8 0 rfl rfl (vp_in_iff.mpr h1) d_S_lend_5 ?_
  refine lv_istore (lv' := [(5, .int ((l_rec u) x1.toNatClampNeg)), (0, .ref (ad 6)), (1, .int x1), (2, .int x2), (3, .long y3)]) hx hb d_S_lend_6 hl (by decide) rfl (fun ls hl => ?_)
  refine lv_iload hx hb d_S_lend_8 (lv_at hl 0 rfl) ?_
  refine lv_if_eq (tgt := 22) hx hb d_S_lend_10 (by decide) (fun c2 => ?_) (fun c2 => ?_)
  · replace hM := it_t c2 hM
    refine lv_iconst (v := (0 : Int32)) hx hb d_S_lend_22 (by decide) ?_
    obtain rfl := Option.some.inj hM
    exact W.zret (v := (0 : Int32)) hx hb hr rfl (fun t ht hW => ⟨⟨(0 : Int32), u, rfl, rfl, by rw [ht]; exact hP, va_K.moved hW.alike hK, hD⟩, hS.F ht⟩) hS.2.2 d_S_lend_23
  · replace hM := it_f c2 hM
    refine lv_aload_n hx hb d_S_lend_13 rfl (lv_at hl 1 rfl) ?_
    refine va_get (D := D) (ci := 1) (v := .ref (ad 9)) (C := R_S) (T := T_S) (N := 9) hx hb hts in_S hown hK hP 6 rfl rfl 2 (by decide) (hts _ mm_74) (fun _ h9 => h9) rfl d_S_lend_14 ?_
    refine lv_iload_n hx hb d_S_lend_17 rfl (lv_at hl 2 rfl) ?_
    obtain ⟨h3, hM⟩ := gd_some hM
    refine va_iald hx hb hK hP 9 0 rfl rfl (vp_in_iff.mpr h3) d_S_lend_18 ?_
    refine lv_if_eq (tgt := 24) hx hb d_S_lend_19 (by decide) (fun c4 => ?_) (fun c4 => ?_)
    · replace hM := it_t c4 hM
      refine lv_aload_n hx hb d_S_lend_24 rfl (lv_at hl 1 rfl) ?_
      refine lv_iload hx hb d_S_lend_25 (lv_at hl 0 rfl) ?_
      refine lv_iconst (v := (0 : Int32)) hx hb d_S_lend_27 (by decide) ?_
      obtain ⟨v5, hq5, hM⟩ := bd_some hM
      refine fr_i (res := v5) (va_runV (As := [.int ((l_rec u) x1.toNatClampNeg), .int (0 : Int32)]) (rest := []) ⟨hx, hb, hml, hown, hts⟩ (c_S_personAt l D cI cJ cZ ad H.size ((l_rec u) x1.toNatClampNeg) (0 : Int32) u v5 hq5) (cwV 2 hts (gV mm_196 mm_197 mm_198 mm_29 mm_199) rfl rfl rfl hd_S_personAt ⟨Nat.le_of_ble_eq_true rfl, Nat.le_of_ble_eq_true rfl⟩) (pv_ (F := (cL cI cJ cZ ad)) (u := u) hK hP hD (va_recv hK hP (ci := 1) (q0 := 6) rfl rfl)) rfl rfl hl.1 rfl (lv_room (Nat.le_of_ble_eq_true rfl)) d_S_lend_28 ⟨Nat.le_of_ble_eq_true rfl, Nat.le_of_ble_eq_true rfl⟩) hP hS hA (fun H locs hP hS => ?_)
      refine lv_istore (lv' := [(6, .int v5), (5, .int ((l_rec u) x1.toNatClampNeg)), (0, .ref (ad 6)), (1, .int x1), (2, .int x2), (3, .long y3)]) hx hb d_S_lend_31 hl (by decide) rfl (fun ls hl => ?_)
      refine lv_iload hx hb d_S_lend_33 (lv_at hl 0 rfl) ?_
      refine lv_iconst (v := (-1 : Int32)) hx hb d_S_lend_35 (by decide) ?_
      refine lv_icmp_eq (tgt := 47) hx hb d_S_lend_36 (by decide) (fun c6 => ?_) (fun c6 => ?_)
      · replace hM := it_t c6 hM
        exact w_S_lend_47 C x1 x2 y3 ((l_rec u) x1.toNatClampNeg) u H locs ls hP hD hS (lv_sub hl [2, 3, 4, 5, 1] rfl) hM
      · replace hM := it_f c6 hM
        refine lv_iload hx hb d_S_lend_39 (lv_at hl 0 rfl) ?_
        refine lv_iload_n hx hb d_S_lend_41 rfl (lv_at hl 4 rfl) ?_
        refine lv_icmp_eq (tgt := 47) hx hb d_S_lend_42 (by decide) (fun c7 => ?_) (fun c7 => ?_)
        · replace hM := it_t c7 hM
          exact w_S_lend_47 C x1 x2 y3 ((l_rec u) x1.toNatClampNeg) u H locs ls hP hD hS (lv_sub hl [2, 3, 4, 5, 1] rfl) hM
        · replace hM := it_f c7 hM
          refine lv_iconst (v := (0 : Int32)) hx hb d_S_lend_45 (by decide) ?_
          obtain rfl := Option.some.inj hM
          exact W.zret (v := (0 : Int32)) hx hb hr rfl (fun t ht hW => ⟨⟨(0 : Int32), u, rfl, rfl, by rw [ht]; exact hP, va_K.moved hW.alike hK, hD⟩, hS.F ht⟩) hS.2.2 d_S_lend_46
    · replace hM := it_f c4 hM
      refine lv_iconst (v := (0 : Int32)) hx hb d_S_lend_22 (by decide) ?_
      obtain rfl := Option.some.inj hM
      exact W.zret (v := (0 : Int32)) hx hb hr rfl (fun t ht hW => ⟨⟨(0 : Int32), u, rfl, rfl, by rw [ht]; exact hP, va_K.moved hW.alike hK, hD⟩, hS.F ht⟩) hS.2.2 d_S_lend_23
end
set_option maxRecDepth 100000 in
theorem c_S_lend (l : Launch) (D : va_G) (cI cJ cZ : ClassId) (ad : Nat → Nat) (sz : Nat) (x1 : Int32) (x2 : Int32) (y3 : Int64) (u : Lib) (res : (Int32 × Lib)) (hM : B_S_lend_0 x1 x2 y3 u = some res) : Met l y_S_lend ws_S_lend rm_S_lend (va_Pc [.ref (ad 6), .int x1, .int x2, .long y3] (pr_ D cl9 (tyy cI cJ cZ) (cL cI cJ cZ ad) u sz)) (Qwi D cl9 (tyy cI cJ cZ) (cL cI cJ cZ ad) (va_A ((cL cI cJ cZ ad) u) sz) res) 0 0 (va_A ((cL cI cJ cZ ad) u) sz) := by
  refine Met.ofW (cc := prog_3_method_21_code) (maxL := 7) (ret := (Option.some FieldType.boolean)) (by decide) rfl ?_
  intro p e s m args below meth c s₁ B hml hv
  obtain ⟨rfl, hsz, hP, hK, hD0⟩ := hv
  subst hsz
  have hts0 := atoms_spec (ws := ws_S_lend) B.pre
  have hl := lv_entry ([.ref (ad 6), .int x1, .int x2, .long y3]) (n := 7) (Nat.le_of_ble_eq_true rfl)
  rw [lg_entry_eq]
  generalize (lg_sl ([.ref (ad 6), .int x1, .int x2, .long y3]) ++ List.replicate (7 - (lg_sl ([.ref (ad 6), .int x1, .int x2, .long y3])).length) Slot.unset).toArray = ls at hl ⊢
  exact w_S_lend_0 ⟨B.exec, B.bytes, B.returns, hml, findClass_of_methodNamed B.named, fun w h => hts0 w (List.mem_cons_of_mem _ h), B.notSynchronized, hK, fun q h => Or.inr h⟩ x1 x2 y3 u s.heap [] ls hP hD0.self va_S.rf hl hM
