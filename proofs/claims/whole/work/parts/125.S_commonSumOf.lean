section
variable {p : Program} {l : Launch} {e : Env} {s : State} {m : MethodId} {args : Array Value} {below : List Frame} {meth : Method} {c : Code} {D : va_G} {cI cJ cZ : ClassId} {A : Nat → Prop} {ad : Nat → Nat}
set_option maxHeartbeats 4000000 in
set_option maxRecDepth 100000 in
theorem w_S_commonSumOf_33s {res : Int32} (C : Cx p s m args meth c prog_3_method_13_code 4 (Option.some FieldType.int) "PlainLibrary$Shelves" tb D cl9 (tyy cI cJ cZ) A) {k33 : Int32 → Int32 → Int32 → Lib → Option Int32} (hk33 : ∀ (x1 : Int32) (x2 : Int32) (x3 : Int32) (u : Lib) (H : Heap) (locs : List Loc) (ls : Array Slot), va_P D cl9 ((cL cI cJ cZ ad) u) H → va_D (fun _ => True) ((cL cI cJ cZ ad) u) → va_S A s.heap H locs → lv_has ls 4 [(0, .ref (ad 6)), (1, .int x1), (2, .int x2), (3, .int x3)] → k33 x1 x2 x3 u = some res → W p l e rm_S_commonSumOf s m args below meth c H locs 0 0 (MQ below (Qri A res) args s 0 0 A) (F0 m 33 ls [])) (x1 : Int32) (x2 : Int32) (x3 : Int32) (u : Lib) (H : Heap) (locs : List Loc) (ls : Array Slot) (hP : va_P D cl9 ((cL cI cJ cZ ad) u) H) (hD : va_D (fun _ => True) ((cL cI cJ cZ ad) u)) (hS : va_S A s.heap H locs) (hl : lv_has ls 4 [(0, .ref (ad 6)), (1, .int x1), (2, .int x2), (3, .int x3)]) (hM : B_S_commonSumOf_33s k33 x1 x2 x3 u = some res) : W p l e rm_S_commonSumOf s m args below meth c H locs 0 0 (MQ below (Qri A res) args s 0 0 A) (F0 m 33 ls []) := by
  have C0 := C
  obtain ⟨hx, hb, hr, hml, hown, hts, hlocks, hK, hA⟩ := C
  replace C := C0
  unfold B_S_commonSumOf_33s at hM
  refine lv_iload_n hx hb d_S_commonSumOf_33 rfl (lv_at hl 3 rfl) ?_
  refine lv_bipush (v := (7 : Int32)) hx hb d_S_commonSumOf_34 (by decide) ?_
  refine lv_icmp_ge (tgt := 59) hx hb d_S_commonSumOf_36 (by decide) (fun c1 => ?_) (fun c1 => ?_)
  · replace hM := it_t c1 hM
    refine lv_bipush (v := (7 : Int32)) hx hb d_S_commonSumOf_59 (by decide) ?_
    obtain rfl := Option.some.inj hM
    exact W.iret (v := (7 : Int32)) hx hb hr (fun t ht hW => ⟨⟨(7 : Int32), (), rfl, rfl, trivial⟩, hS.F ht⟩) hS.2.2 d_S_commonSumOf_61
  · replace hM := it_f c1 hM
    refine lv_iconst (v := (2 : Int32)) hx hb d_S_commonSumOf_39 (by decide) ?_
    refine lv_aload_n hx hb d_S_commonSumOf_40 rfl (lv_at hl 0 rfl) ?_
    refine lv_iload_n hx hb d_S_commonSumOf_41 rfl (lv_at hl 1 rfl) ?_
    refine lv_iload_n hx hb d_S_commonSumOf_42 rfl (lv_at hl 3 rfl) ?_
    obtain ⟨v2, hq2, hM⟩ := bd_some hM
    refine fr_i (res := v2) (va_runV (As := [.int x1, .int x3]) (rest := [.int (2 : Int32)]) ⟨hx, hb, hml, hown, hts⟩ (c_S_storesWith l D cI cJ cZ ad H.size x1 x3 u v2 hq2) (cwV 2 hts (gV mm_304 mm_306 (ms_ 12 rfl rfl) mm_29 mm_307) rfl rfl rfl hd_S_storesWith ⟨Nat.le_of_ble_eq_true rfl, Nat.le_of_ble_eq_true rfl⟩) (pv_ (F := (cL cI cJ cZ ad)) (u := u) hK hP hD (va_recv hK hP (ci := 1) (q0 := 6) rfl rfl)) rfl rfl hl.1 rfl (lv_room (Nat.le_of_ble_eq_true rfl)) d_S_commonSumOf_43 ⟨Nat.le_of_ble_eq_true rfl, Nat.le_of_ble_eq_true rfl⟩) hP hS hA (fun H locs hP hS => ?_)
    refine lv_imul hx hb d_S_commonSumOf_46 ?_
    refine lv_iload_n hx hb d_S_commonSumOf_47 rfl (lv_at hl 2 rfl) ?_
    refine lv_icmp_le (tgt := 53) hx hb d_S_commonSumOf_48 (by decide) (fun c3 => ?_) (fun c3 => ?_)
    · replace hM := it_t c3 hM
      refine lv_iinc (v := (x3 + (1 : Int32))) (lv' := [(3, .int (x3 + (1 : Int32))), (0, .ref (ad 6)), (1, .int x1), (2, .int x2)]) hx hb d_S_commonSumOf_53 hl (k := 3) rfl rfl (by decide) rfl (fun ls hl => ?_)
      refine lv_goto (tgt := 33) hx hb d_S_commonSumOf_56 (by decide) ?_
      exact hk33 x1 x2 (x3 + (1 : Int32)) u H locs ls hP hD hS (lv_sub hl [1, 2, 3, 0] rfl) hM
    · replace hM := it_f c3 hM
      refine lv_iload_n hx hb d_S_commonSumOf_51 rfl (lv_at hl 3 rfl) ?_
      obtain rfl := Option.some.inj hM
      exact W.iret (v := x3) hx hb hr (fun t ht hW => ⟨⟨x3, (), rfl, rfl, trivial⟩, hS.F ht⟩) hS.2.2 d_S_commonSumOf_52
theorem w_S_commonSumOf_33 {res : Int32} (C : Cx p s m args meth c prog_3_method_13_code 4 (Option.some FieldType.int) "PlainLibrary$Shelves" tb D cl9 (tyy cI cJ cZ) A) : ∀ (fu : Nat) (x1 : Int32) (x2 : Int32) (x3 : Int32) (u : Lib) (H : Heap) (locs : List Loc) (ls : Array Slot), va_P D cl9 ((cL cI cJ cZ ad) u) H → va_D (fun _ => True) ((cL cI cJ cZ ad) u) → va_S A s.heap H locs → lv_has ls 4 [(0, .ref (ad 6)), (1, .int x1), (2, .int x2), (3, .int x3)] → B_S_commonSumOf_33 fu x1 x2 x3 u = some res → W p l e rm_S_commonSumOf s m args below meth c H locs 0 0 (MQ below (Qri A res) args s 0 0 A) (F0 m 33 ls []) := by
  intro fu
  induction fu with
  | zero =>
    intro x1 x2 x3 u H locs ls hP hD hS hl hM
    have hM : (none : Option Int32) = some res := hM
    cases hM
  | succ fu ih =>
    intro x1 x2 x3 u H locs ls hP hD hS hl hM
    exact w_S_commonSumOf_33s C ih x1 x2 x3 u H locs ls hP hD hS hl hM
set_option maxHeartbeats 4000000 in
set_option maxRecDepth 100000 in
theorem w_S_commonSumOf_4s {res : Int32} (C : Cx p s m args meth c prog_3_method_13_code 4 (Option.some FieldType.int) "PlainLibrary$Shelves" tb D cl9 (tyy cI cJ cZ) A) {k4 : Int32 → Int32 → Int32 → Lib → Option Int32} (hk4 : ∀ (x1 : Int32) (x2 : Int32) (x3 : Int32) (u : Lib) (H : Heap) (locs : List Loc) (ls : Array Slot), va_P D cl9 ((cL cI cJ cZ ad) u) H → va_D (fun _ => True) ((cL cI cJ cZ ad) u) → va_S A s.heap H locs → lv_has ls 4 [(0, .ref (ad 6)), (1, .int x1), (2, .int x2), (3, .int x3)] → k4 x1 x2 x3 u = some res → W p l e rm_S_commonSumOf s m args below meth c H locs 0 0 (MQ below (Qri A res) args s 0 0 A) (F0 m 4 ls [])) (x1 : Int32) (x2 : Int32) (x3 : Int32) (u : Lib) (H : Heap) (locs : List Loc) (ls : Array Slot) (hP : va_P D cl9 ((cL cI cJ cZ ad) u) H) (hD : va_D (fun _ => True) ((cL cI cJ cZ ad) u)) (hS : va_S A s.heap H locs) (hl : lv_has ls 4 [(0, .ref (ad 6)), (1, .int x1), (2, .int x2), (3, .int x3)]) (hM : B_S_commonSumOf_4s k4 x1 x2 x3 u = some res) : W p l e rm_S_commonSumOf s m args below meth c H locs 0 0 (MQ below (Qri A res) args s 0 0 A) (F0 m 4 ls []) := by
  have C0 := C
  obtain ⟨hx, hb, hr, hml, hown, hts, hlocks, hK, hA⟩ := C
  replace C := C0
  unfold B_S_commonSumOf_4s at hM
  refine lv_iload_n hx hb d_S_commonSumOf_4 rfl (lv_at hl 3 rfl) ?_
  refine lv_bipush (v := (7 : Int32)) hx hb d_S_commonSumOf_5 (by decide) ?_
  refine lv_icmp_ge (tgt := 25) hx hb d_S_commonSumOf_7 (by decide) (fun c1 => ?_) (fun c1 => ?_)
  · replace hM := it_t c1 hM
    refine lv_iload_n hx hb d_S_commonSumOf_25 rfl (lv_at hl 2 rfl) ?_
    refine lv_if_ne (tgt := 31) hx hb d_S_commonSumOf_26 (by decide) (fun c2 => ?_) (fun c2 => ?_)
    · replace hM := it_f c2 hM
      refine lv_iconst (v := (0 : Int32)) hx hb d_S_commonSumOf_31 (by decide) ?_
      refine lv_istore_n (lv' := [(3, .int (0 : Int32)), (0, .ref (ad 6)), (1, .int x1), (2, .int x2)]) hx hb d_S_commonSumOf_32 rfl hl (by decide) rfl (fun ls hl => ?_)
      exact w_S_commonSumOf_33 C FU x1 x2 (0 : Int32) u H locs ls hP hD hS (lv_sub hl [1, 2, 3, 0] rfl) hM
    · replace hM := it_t c2 hM
      refine lv_iconst (v := (-1 : Int32)) hx hb d_S_commonSumOf_29 (by decide) ?_
      obtain rfl := Option.some.inj hM
      exact W.iret (v := (-1 : Int32)) hx hb hr (fun t ht hW => ⟨⟨(-1 : Int32), (), rfl, rfl, trivial⟩, hS.F ht⟩) hS.2.2 d_S_commonSumOf_30
  · replace hM := it_f c1 hM
    refine lv_iload_n hx hb d_S_commonSumOf_10 rfl (lv_at hl 2 rfl) ?_
    refine lv_aload_n hx hb d_S_commonSumOf_11 rfl (lv_at hl 0 rfl) ?_
    refine lv_iload_n hx hb d_S_commonSumOf_12 rfl (lv_at hl 1 rfl) ?_
    refine lv_iload_n hx hb d_S_commonSumOf_13 rfl (lv_at hl 3 rfl) ?_
    obtain ⟨v3, hq3, hM⟩ := bd_some hM
    refine fr_i (res := v3) (va_runV (As := [.int x1, .int x3]) (rest := [.int x2]) ⟨hx, hb, hml, hown, hts⟩ (c_S_storesWith l D cI cJ cZ ad H.size x1 x3 u v3 hq3) (cwV 2 hts (gV mm_304 mm_306 (ms_ 12 rfl rfl) mm_29 mm_307) rfl rfl rfl hd_S_storesWith ⟨Nat.le_of_ble_eq_true rfl, Nat.le_of_ble_eq_true rfl⟩) (pv_ (F := (cL cI cJ cZ ad)) (u := u) hK hP hD (va_recv hK hP (ci := 1) (q0 := 6) rfl rfl)) rfl rfl hl.1 rfl (lv_room (Nat.le_of_ble_eq_true rfl)) d_S_commonSumOf_14 ⟨Nat.le_of_ble_eq_true rfl, Nat.le_of_ble_eq_true rfl⟩) hP hS hA (fun H locs hP hS => ?_)
    refine lv_iadd hx hb d_S_commonSumOf_17 ?_
    refine lv_istore_n (lv' := [(2, .int (x2 + v3)), (0, .ref (ad 6)), (1, .int x1), (3, .int x3)]) hx hb d_S_commonSumOf_18 rfl hl (by decide) rfl (fun ls hl => ?_)
    refine lv_iinc (v := (x3 + (1 : Int32))) (lv' := [(3, .int (x3 + (1 : Int32))), (2, .int (x2 + v3)), (0, .ref (ad 6)), (1, .int x1)]) hx hb d_S_commonSumOf_19 hl (k := 3) rfl rfl (by decide) rfl (fun ls hl => ?_)
    refine lv_goto (tgt := 4) hx hb d_S_commonSumOf_22 (by decide) ?_
    exact hk4 x1 (x2 + v3) (x3 + (1 : Int32)) u H locs ls hP hD hS (lv_sub hl [2, 3, 1, 0] rfl) hM
theorem w_S_commonSumOf_4 {res : Int32} (C : Cx p s m args meth c prog_3_method_13_code 4 (Option.some FieldType.int) "PlainLibrary$Shelves" tb D cl9 (tyy cI cJ cZ) A) : ∀ (fu : Nat) (x1 : Int32) (x2 : Int32) (x3 : Int32) (u : Lib) (H : Heap) (locs : List Loc) (ls : Array Slot), va_P D cl9 ((cL cI cJ cZ ad) u) H → va_D (fun _ => True) ((cL cI cJ cZ ad) u) → va_S A s.heap H locs → lv_has ls 4 [(0, .ref (ad 6)), (1, .int x1), (2, .int x2), (3, .int x3)] → B_S_commonSumOf_4 fu x1 x2 x3 u = some res → W p l e rm_S_commonSumOf s m args below meth c H locs 0 0 (MQ below (Qri A res) args s 0 0 A) (F0 m 4 ls []) := by
  intro fu
  induction fu with
  | zero =>
    intro x1 x2 x3 u H locs ls hP hD hS hl hM
    have hM : (none : Option Int32) = some res := hM
    cases hM
  | succ fu ih =>
    intro x1 x2 x3 u H locs ls hP hD hS hl hM
    exact w_S_commonSumOf_4s C ih x1 x2 x3 u H locs ls hP hD hS hl hM
set_option maxHeartbeats 4000000 in
set_option maxRecDepth 100000 in
theorem w_S_commonSumOf_0 {res : Int32} (C : Cx p s m args meth c prog_3_method_13_code 4 (Option.some FieldType.int) "PlainLibrary$Shelves" tb D cl9 (tyy cI cJ cZ) A) (x1 : Int32) (u : Lib) (H : Heap) (locs : List Loc) (ls : Array Slot) (hP : va_P D cl9 ((cL cI cJ cZ ad) u) H) (hD : va_D (fun _ => True) ((cL cI cJ cZ ad) u)) (hS : va_S A s.heap H locs) (hl : lv_has ls 4 [(0, .ref (ad 6)), (1, .int x1)]) (hM : B_S_commonSumOf_0 x1 u = some res) : W p l e rm_S_commonSumOf s m args below meth c H locs 0 0 (MQ below (Qri A res) args s 0 0 A) (F0 m 0 ls []) := by
  have C0 := C
  obtain ⟨hx, hb, hr, hml, hown, hts, hlocks, hK, hA⟩ := C
  replace C := C0
  unfold B_S_commonSumOf_0 at hM
  refine lv_iconst (v := (0 : Int32)) hx hb d_S_commonSumOf_0 (by decide) ?_
  refine lv_istore_n (lv' := [(2, .int (0 : Int32)), (0, .ref (ad 6)), (1, .int x1)]) hx hb d_S_commonSumOf_1 rfl hl (by decide) rfl (fun ls hl => ?_)
  refine lv_iconst (v := (0 : Int32)) hx hb d_S_commonSumOf_2 (by decide) ?_
  refine lv_istore_n (lv' := [(3, .int (0 : Int32)), (2, .int (0 : Int32)), (0, .ref (ad 6)), (1, .int x1)]) hx hb d_S_commonSumOf_3 rfl hl (by decide) rfl (fun ls hl => ?_)
  exact w_S_commonSumOf_4 C FU x1 (0 : Int32) (0 : Int32) u H locs ls hP hD hS (lv_sub hl [2, 3, 1, 0] rfl) hM
end
set_option maxRecDepth 100000 in
theorem c_S_commonSumOf (l : Launch) (D : va_G) (cI cJ cZ : ClassId) (ad : Nat → Nat) (sz : Nat) (x1 : Int32) (u : Lib) (res : Int32) (hM : B_S_commonSumOf_0 x1 u = some res) : Met l y_S_commonSumOf ws_S_commonSumOf rm_S_commonSumOf (va_Pc [.ref (ad 6), .int x1] (pr_ D cl9 (tyy cI cJ cZ) (cL cI cJ cZ ad) u sz)) (Qri (va_A [] sz) res) 0 0 (va_A [] sz) := by
  refine Met.ofW (cc := prog_3_method_13_code) (maxL := 4) (ret := (Option.some FieldType.int)) (by decide) rfl ?_
  intro p e s m args below meth c s₁ B hml hv
  obtain ⟨rfl, hsz, hP, hK, hD0⟩ := hv
  subst hsz
  have hts0 := atoms_spec (ws := ws_S_commonSumOf) B.pre
  have hl := lv_entry ([.ref (ad 6), .int x1]) (n := 4) (Nat.le_of_ble_eq_true rfl)
  rw [lg_entry_eq]
  generalize (lg_sl ([.ref (ad 6), .int x1]) ++ List.replicate (4 - (lg_sl ([.ref (ad 6), .int x1])).length) Slot.unset).toArray = ls at hl ⊢
  exact w_S_commonSumOf_0 ⟨B.exec, B.bytes, B.returns, hml, findClass_of_methodNamed B.named, fun w h => hts0 w (List.mem_cons_of_mem _ h), B.notSynchronized, hK, fun q h => Or.inr h⟩ x1 u s.heap [] ls hP hD0 va_S.rf hl hM
