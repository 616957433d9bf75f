section
variable {p : Program} {l : Launch} {e : Env} {s : State} {m : MethodId} {args : Array Value} {below : List Frame} {meth : Method} {c : Code} {D : va_G} {cI cJ cZ : ClassId} {A : Nat → Prop} {ad : Nat → Nat}
set_option maxHeartbeats 4000000 in
set_option maxRecDepth 100000 in
theorem w_S_headingAt_33 {k5 : Int32 → Int32 → Int32 → Int32 → Lib → Option Int32} {res : Int32} (C : Cx p s m args meth c prog_3_method_10_code 5 (Option.some FieldType.int) "PlainLibrary$Shelves" tb D cl9 (tyy cI cJ cZ) A) (hk5 : ∀ (x1 : Int32) (x2 : Int32) (x3 : Int32) (x4 : Int32) (u : Lib) (H : Heap) (locs : List Loc) (ls : Array Slot), va_P D cl9 ((cL cI cJ cZ ad) u) H → va_D (fun _ => True) ((cL cI cJ cZ ad) u) → va_S A s.heap H locs → lv_has ls 5 [(0, .ref (ad 6)), (1, .int x1), (2, .int x2), (3, .int x3), (4, .int x4)] → k5 x1 x2 x3 x4 u = some res → W p l e rm_S_headingAt s m args below meth c H locs 0 0 (MQ below (Qri A res) args s 0 0 A) (F0 m 5 ls [])) (x1 : Int32) (x2 : Int32) (x3 : Int32) (x4 : Int32) (u : Lib) (H : Heap) (locs : List Loc) (ls : Array Slot) (hP : va_P D cl9 ((cL cI cJ cZ ad) u) H) (hD : va_D (fun _ => True) ((cL cI cJ cZ ad) u)) (hS : va_S A s.heap H locs) (hl : lv_has ls 5 [(0, .ref (ad 6)), (1, .int x1), (2, .int x2), (3, .int x3), (4, .int x4)]) (hM : B_S_headingAt_33 k5 x1 x2 x3 x4 u = some res) : W p l e rm_S_headingAt s m args below meth c H locs 0 0 (MQ below (Qri A res) args s 0 0 A) (F0 m 33 ls []) := by
  have C0 := C
  obtain ⟨hx, hb, hr, hml, hown, hts, hlocks, hK, hA⟩ := C
  replace C := C0
  unfold B_S_headingAt_33 at hM
  refine lv_iinc (v := (x4 + (1 : Int32))) (lv' := [(4, .int (x4 + (1 : Int32))), (0, .ref (ad 6)), (1, .int x1), (2, .int x2), (3, .int x3)]) hx hb d_S_headingAt_33 hl (k := 4) rfl rfl (by decide) rfl (fun ls hl => ?_)
  refine lv_goto (tgt := 5) hx hb d_S_headingAt_36 (by decide) ?_
  exact hk5 x1 x2 x3 (x4 + (1 : Int32)) u H locs ls hP hD hS (lv_sub hl [1, 2, 3, 4, 0] rfl) hM
set_option maxHeartbeats 4000000 in
set_option maxRecDepth 100000 in
theorem w_S_headingAt_5s {res : Int32} (C : Cx p s m args meth c prog_3_method_10_code 5 (Option.some FieldType.int) "PlainLibrary$Shelves" tb D cl9 (tyy cI cJ cZ) A) {k5 : Int32 → Int32 → Int32 → Int32 → Lib → Option Int32} (hk5 : ∀ (x1 : Int32) (x2 : Int32) (x3 : Int32) (x4 : Int32) (u : Lib) (H : Heap) (locs : List Loc) (ls : Array Slot), va_P D cl9 ((cL cI cJ cZ ad) u) H → va_D (fun _ => True) ((cL cI cJ cZ ad) u) → va_S A s.heap H locs → lv_has ls 5 [(0, .ref (ad 6)), (1, .int x1), (2, .int x2), (3, .int x3), (4, .int x4)] → k5 x1 x2 x3 x4 u = some res → W p l e rm_S_headingAt s m args below meth c H locs 0 0 (MQ below (Qri A res) args s 0 0 A) (F0 m 5 ls [])) (x1 : Int32) (x2 : Int32) (x3 : Int32) (x4 : Int32) (u : Lib) (H : Heap) (locs : List Loc) (ls : Array Slot) (hP : va_P D cl9 ((cL cI cJ cZ ad) u) H) (hD : va_D (fun _ => True) ((cL cI cJ cZ ad) u)) (hS : va_S A s.heap H locs) (hl : lv_has ls 5 [(0, .ref (ad 6)), (1, .int x1), (2, .int x2), (3, .int x3), (4, .int x4)]) (hM : B_S_headingAt_5s k5 x1 x2 x3 x4 u = some res) : W p l e rm_S_headingAt s m args below meth c H locs 0 0 (MQ below (Qri A res) args s 0 0 A) (F0 m 5 ls []) := by
  have C0 := C
  obtain ⟨hx, hb, hr, hml, hown, hts, hlocks, hK, hA⟩ := C
  replace C := C0
  unfold B_S_headingAt_5s at hM
  refine lv_iload hx hb d_S_headingAt_5 (lv_at hl 4 rfl) ?_
  refine lv_bipush (v := (99 : Int32)) hx hb d_S_headingAt_7 (by decide) ?_
  refine lv_icmp_gt (tgt := 39) hx hb d_S_headingAt_9 (by decide) (fun c1 => ?_) (fun c1 => ?_)
  · replace hM := it_t c1 hM
    refine lv_iconst (v := (-1 : Int32)) hx hb d_S_headingAt_39 (by decide) ?_
    obtain rfl := Option.some.inj hM
    exact W.iret (v := (-1 : Int32)) hx hb hr (fun t ht hW => ⟨⟨(-1 : Int32), (), rfl, rfl, trivial⟩, hS.F ht⟩) hS.2.2 d_S_headingAt_40
  · replace hM := it_f c1 hM
    refine lv_aload_n hx hb d_S_headingAt_12 rfl (lv_at hl 0 rfl) ?_
    refine lv_iload_n hx hb d_S_headingAt_13 rfl (lv_at hl 1 rfl) ?_
    refine lv_iload hx hb d_S_headingAt_14 (lv_at hl 4 rfl) ?_
    obtain ⟨v2, hq2, hM⟩ := bd_some hM
    refine fr_i (res := v2) (va_runV (As := [.int x1, .int x4]) (rest := []) ⟨hx, hb, hml, hown, hts⟩ (c_S_hasHeading l D cI cJ cZ ad H.size x1 x4 u v2 hq2) (cwV 2 hts (gV mm_173 mm_174 mm_175 mm_29 mm_176) rfl rfl rfl hd_S_hasHeading ⟨Nat.le_of_ble_eq_true rfl, Nat.le_of_ble_eq_true rfl⟩) (pv_ (F := (cL cI cJ cZ ad)) (u := u) hK hP hD (va_recv hK hP (ci := 1) (q0 := 6) rfl rfl)) rfl rfl hl.1 rfl (lv_room (Nat.le_of_ble_eq_true rfl)) d_S_headingAt_16 ⟨Nat.le_of_ble_eq_true rfl, Nat.le_of_ble_eq_true rfl⟩) hP hS hA (fun H locs hP hS => ?_)
    refine lv_if_eq (tgt := 33) hx hb d_S_headingAt_19 (by decide) (fun c3 => ?_) (fun c3 => ?_)
    · replace hM := it_t c3 hM
      exact w_S_headingAt_33 C hk5 x1 x2 x3 x4 u H locs ls hP hD hS (lv_sub hl [0, 1, 2, 3, 4] rfl) hM
    · replace hM := it_f c3 hM
      refine lv_iload_n hx hb d_S_headingAt_22 rfl (lv_at hl 3 rfl) ?_
      refine lv_iload_n hx hb d_S_headingAt_23 rfl (lv_at hl 2 rfl) ?_
      refine lv_icmp_ne (tgt := 30) hx hb d_S_headingAt_24 (by decide) (fun c4 => ?_) (fun c4 => ?_)
      · replace hM := it_f c4 hM
        refine lv_iinc (v := (x3 + (1 : Int32))) (lv' := [(3, .int (x3 + (1 : Int32))), (0, .ref (ad 6)), (1, .int x1), (2, .int x2), (4, .int x4)]) hx hb d_S_headingAt_30 hl (k := 3) rfl rfl (by decide) rfl (fun ls hl => ?_)
        exact w_S_headingAt_33 C hk5 x1 x2 (x3 + (1 : Int32)) x4 u H locs ls hP hD hS (lv_sub hl [1, 2, 3, 0, 4] rfl) hM
      · replace hM := it_t c4 hM
        refine lv_iload hx hb d_S_headingAt_27 (lv_at hl 4 rfl) ?_
        obtain rfl := Option.some.inj hM
        exact W.iret (v := x4) hx hb hr (fun t ht hW => ⟨⟨x4, (), rfl, rfl, trivial⟩, hS.F ht⟩) hS.2.2 d_S_headingAt_29
theorem w_S_headingAt_5 {res : Int32} (C : Cx p s m args meth c prog_3_method_10_code 5 (Option.some FieldType.int) "PlainLibrary$Shelves" tb D cl9 (tyy cI cJ cZ) A) : ∀ (fu : Nat) (x1 : Int32) (x2 : Int32) (x3 : Int32) (x4 : Int32) (u : Lib) (H : Heap) (locs : List Loc) (ls : Array Slot), va_P D cl9 ((cL cI cJ cZ ad) u) H → va_D (fun _ => True) ((cL cI cJ cZ ad) u) → va_S A s.heap H locs → lv_has ls 5 [(0, .ref (ad 6)), (1, .int x1), (2, .int x2), (3, .int x3), (4, .int x4)] → B_S_headingAt_5 fu x1 x2 x3 x4 u = some res → W p l e rm_S_headingAt s m args below meth c H locs 0 0 (MQ below (Qri A res) args s 0 0 A) (F0 m 5 ls []) := by
  intro fu
  induction fu with
  | zero =>
    intro x1 x2 x3 x4 u H locs ls hP hD hS hl hM
    have hM : (none : Option Int32) = some res := hM
    cases hM
  | succ fu ih =>
    intro x1 x2 x3 x4 u H locs ls hP hD hS hl hM
    exact w_S_headingAt_5s C ih x1 x2 x3 x4 u H locs ls hP hD hS hl hM
set_option maxHeartbeats 4000000 in
set_option maxRecDepth 100000 in
theorem w_S_headingAt_0 {res : Int32} (C : Cx p s m args meth c prog_3_method_10_code 5 (Option.some FieldType.int) "PlainLibrary$Shelves" tb D cl9 (tyy cI cJ cZ) A) (x1 : Int32) (x2 : Int32) (u : Lib) (H : Heap) (locs : List Loc) (ls : Array Slot) (hP : va_P D cl9 ((cL cI cJ cZ ad) u) H) (hD : va_D (fun _ => True) ((cL cI cJ cZ ad) u)) (hS : va_S A s.heap H locs) (hl : lv_has ls 5 [(0, .ref (ad 6)), (1, .int x1), (2, .int x2)]) (hM : B_S_headingAt_0 x1 x2 u = some res) : W p l e rm_S_headingAt s m args below meth c H locs 0 0 (MQ below (Qri A res) args s 0 0 A) (F0 m 0 ls []) := by
  have C0 := C
  obtain ⟨hx, hb, hr, hml, hown, hts, hlocks, hK, hA⟩ := C
  replace C := C0
  unfold B_S_headingAt_0 at hM
  refine lv_iconst (v := (0 : Int32)) hx hb d_S_headingAt_0 (by decide) ?_
  refine lv_istore_n (lv' := [(3, .int (0 : Int32)), (0, .ref (ad 6)), (1, .int x1), (2, .int x2)]) hx hb d_S_headingAt_1 rfl hl (by decide) rfl (fun ls hl => ?_)
  refine lv_iconst (v := (1 : Int32)) hx hb d_S_headingAt_2 (by decide) ?_
  refine lv_istore (lv' := [(4, .int (1 : Int32)), (3, .int (0 : Int32)), (0, .ref (ad 6)), (1, .int x1), (2, .int x2)]) hx hb d_S_headingAt_3 hl (by decide) rfl (fun ls hl => ?_)
  exact w_S_headingAt_5 C FU x1 x2 (0 : Int32) (1 : Int32) u H locs ls hP hD hS (lv_sub hl [2, 3, 4, 1, 0] rfl) hM
end
set_option maxRecDepth 100000 in
theorem c_S_headingAt (l : Launch) (D : va_G) (cI cJ cZ : ClassId) (ad : Nat → Nat) (sz : Nat) (x1 : Int32) (x2 : Int32) (u : Lib) (res : Int32) (hM : B_S_headingAt_0 x1 x2 u = some res) : Met l y_S_headingAt ws_S_headingAt rm_S_headingAt (va_Pc [.ref (ad 6), .int x1, .int x2] (pr_ D cl9 (tyy cI cJ cZ) (cL cI cJ cZ ad) u sz)) (Qri (va_A [] sz) res) 0 0 (va_A [] sz) := by
  refine Met.ofW (cc := prog_3_method_10_code) (maxL := 5) (ret := (Option.some FieldType.int)) (by decide) rfl ?_
  intro p e s m args below meth c s₁ B hml hv
  obtain ⟨rfl, hsz, hP, hK, hD0⟩ := hv
  subst hsz
  have hts0 := atoms_spec (ws := ws_S_headingAt) B.pre
  have hl := lv_entry ([.ref (ad 6), .int x1, .int x2]) (n := 5) (Nat.le_of_ble_eq_true rfl)
  rw [lg_entry_eq]
  generalize (lg_sl ([.ref (ad 6), .int x1, .int x2]) ++ List.replicate (5 - (lg_sl ([.ref (ad 6), .int x1, .int x2])).length) Slot.unset).toArray = ls at hl ⊢
  exact w_S_headingAt_0 ⟨B.exec, B.bytes, B.returns, hml, findClass_of_methodNamed B.named, fun w h => hts0 w (List.mem_cons_of_mem _ h), B.notSynchronized, hK, fun q h => Or.inr h⟩ x1 x2 u s.heap [] ls hP hD0 va_S.rf hl hM
