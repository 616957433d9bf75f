section
variable {p : Program} {l : Launch} {e : Env} {s : State} {m : MethodId} {args : Array Value} {below : List Frame} {meth : Method} {c : Code} {D : va_G} {cI cJ cZ : ClassId} {A : Nat → Prop} {ad : Nat → Nat}
set_option maxHeartbeats 4000000 in
set_option maxRecDepth 100000 in
theorem w_S_placeInQueue_2s {res : Int32} (C : Cx p s m args meth c prog_3_method_23_code 4 (Option.some FieldType.int) "PlainLibrary$Shelves" tb D cl9 (tyy cI cJ cZ) A) {k2 : Int32 → Int32 → Int32 → Lib → Option Int32} (hk2 : ∀ (x1 : Int32) (x2 : Int32) (x3 : Int32) (u : Lib) (H : Heap) (locs : List Loc) (ls : Array Slot), va_P D cl9 ((cL cI cJ cZ ad) u) H → va_D (fun _ => True) ((cL cI cJ cZ ad) u) → va_S A s.heap H locs → lv_has ls 4 [(0, .ref (ad 6)), (1, .int x1), (2, .int x2), (3, .int x3)] → k2 x1 x2 x3 u = some res → W p l e rm_S_placeInQueue s m args below meth c H locs 0 0 (MQ below (Qri A res) args s 0 0 A) (F0 m 2 ls [])) (x1 : Int32) (x2 : Int32) (x3 : Int32) (u : Lib) (H : Heap) (locs : List Loc) (ls : Array Slot) (hP : va_P D cl9 ((cL cI cJ cZ ad) u) H) (hD : va_D (fun _ => True) ((cL cI cJ cZ ad) u)) (hS : va_S A s.heap H locs) (hl : lv_has ls 4 [(0, .ref (ad 6)), (1, .int x1), (2, .int x2), (3, .int x3)]) (hM : B_S_placeInQueue_2s k2 x1 x2 x3 u = some res) : W p l e rm_S_placeInQueue s m args below meth c H locs 0 0 (MQ below (Qri A res) args s 0 0 A) (F0 m 2 ls []) := by
  have C0 := C
  obtain ⟨hx, hb, hr, hml, hown, hts, hlocks, hK, hA⟩ := C
  replace C := C0
  unfold B_S_placeInQueue_2s at hM
  refine lv_iload_n hx hb d_S_placeInQueue_2 rfl (lv_at hl 3 rfl) ?_
  refine lv_aload_n hx hb d_S_placeInQueue_3 rfl (lv_at hl 0 rfl) ?_
  refine va_get (D := D) (ci := 1) (v := .ref (ad 12)) (C := R_S) (T := T_S) (N := 9) hx hb hts in_S hown hK hP 6 rfl rfl 5 (by decide) (hts _ mm_77) (fun _ h9 => h9) rfl d_S_placeInQueue_4 ?_
  refine lv_iload_n hx hb d_S_placeInQueue_7 rfl (lv_at hl 1 rfl) ?_
  obtain ⟨h1, hM⟩ := gd_some hM
  refine va_iald hx hb hK hP 12 0 rfl rfl (vp_in_iff.mpr h1) d_S_placeInQueue_8 ?_
  refine lv_icmp_ge (tgt := 35) hx hb d_S_placeInQueue_9 (by decide) (fun c2 => ?_) (fun c2 => ?_)
  · replace hM := it_t c2 hM
    refine lv_iconst (v := (-1 : Int32)) hx hb d_S_placeInQueue_35 (by decide) ?_
    obtain rfl := Option.some.inj hM
    exact W.iret (v := (-1 : Int32)) hx hb hr (fun t ht hW => ⟨⟨(-1 : Int32), (), rfl, rfl, trivial⟩, hS.F ht⟩) hS.2.2 d_S_placeInQueue_36
  · replace hM := it_f c2 hM
    refine lv_aload_n hx hb d_S_placeInQueue_12 rfl (lv_at hl 0 rfl) ?_
    refine va_get (D := D) (ci := 1) (v := .ref (ad 11)) (C := R_S) (T := T_S) (N := 9) hx hb hts in_S hown hK hP 6 rfl rfl 4 (by decide) (hts _ mm_76) (fun _ h9 => h9) rfl d_S_placeInQueue_13 ?_
    refine lv_iload_n hx hb d_S_placeInQueue_16 rfl (lv_at hl 1 rfl) ?_
    refine lv_bipush (v := (20 : Int32)) hx hb d_S_placeInQueue_17 (by decide) ?_
    refine lv_imul hx hb d_S_placeInQueue_19 ?_
    refine lv_iload_n hx hb d_S_placeInQueue_20 rfl (lv_at hl 3 rfl) ?_
    refine lv_iadd hx hb d_S_placeInQueue_21 ?_
    obtain ⟨h3, hM⟩ := gd_some hM
    refine va_iald hx hb hK hP 11 0 rfl rfl (vp_in_iff.mpr h3) d_S_placeInQueue_22 ?_
    refine lv_iload_n hx hb d_S_placeInQueue_23 rfl (lv_at hl 2 rfl) ?_
    refine lv_icmp_ne (tgt := 29) hx hb d_S_placeInQueue_24 (by decide) (fun c4 => ?_) (fun c4 => ?_)
    · replace hM := it_f c4 hM
      refine lv_iinc (v := (x3 + (1 : Int32))) (lv' := [(3, .int (x3 + (1 : Int32))), (0, .ref (ad 6)), (1, .int x1), (2, .int x2)]) hx hb d_S_placeInQueue_29 hl (k := 3) rfl rfl (by decide) rfl (fun ls hl => ?_)
      refine lv_goto (tgt := 2) hx hb d_S_placeInQueue_32 (by decide) ?_
      exact hk2 x1 x2 (x3 + (1 : Int32)) u H locs ls hP hD hS (lv_sub hl [1, 2, 3, 0] rfl) hM
    · replace hM := it_t c4 hM
      refine lv_iload_n hx hb d_S_placeInQueue_27 rfl (lv_at hl 3 rfl) ?_
      obtain rfl := Option.some.inj hM
      exact W.iret (v := x3) hx hb hr (fun t ht hW => ⟨⟨x3, (), rfl, rfl, trivial⟩, hS.F ht⟩) hS.2.2 d_S_placeInQueue_28
theorem w_S_placeInQueue_2 {res : Int32} (C : Cx p s m args meth c prog_3_method_23_code 4 (Option.some FieldType.int) "PlainLibrary$Shelves" tb D cl9 (tyy cI cJ cZ) A) : ∀ (fu : Nat) (x1 : Int32) (x2 : Int32) (x3 : Int32) (u : Lib) (H : Heap) (locs : List Loc) (ls : Array Slot), va_P D cl9 ((cL cI cJ cZ ad) u) H → va_D (fun _ => True) ((cL cI cJ cZ ad) u) → va_S A s.heap H locs → lv_has ls 4 [(0, .ref (ad 6)), (1, .int x1), (2, .int x2), (3, .int x3)] → B_S_placeInQueue_2 fu x1 x2 x3 u = some res → W p l e rm_S_placeInQueue s m args below meth c H locs 0 0 (MQ below (Qri A res) args s 0 0 A) (F0 m 2 ls []) := by
  intro fu
  induction fu with
  | zero =>
    intro x1 x2 x3 u H locs ls hP hD hS hl hM
    have hM : (none : Option Int32) = some res := hM
    cases hM
  | succ fu ih =>
    intro x1 x2 x3 u H locs ls hP hD hS hl hM
    exact w_S_placeInQueue_2s C ih x1 x2 x3 u H locs ls hP hD hS hl hM
set_option maxHeartbeats 4000000 in
set_option maxRecDepth 100000 in
theorem w_S_placeInQueue_0 {res : Int32} (C : Cx p s m args meth c prog_3_method_23_code 4 (Option.some FieldType.int) "PlainLibrary$Shelves" tb D cl9 (tyy cI cJ cZ) A) (x1 : Int32) (x2 : Int32) (u : Lib) (H : Heap) (locs : List Loc) (ls : Array Slot) (hP : va_P D cl9 ((cL cI cJ cZ ad) u) H) (hD : va_D (fun _ => True) ((cL cI cJ cZ ad) u)) (hS : va_S A s.heap H locs) (hl : lv_has ls 4 [(0, .ref (ad 6)), (1, .int x1), (2, .int x2)]) (hM : B_S_placeInQueue_0 x1 x2 u = some res) : W p l e rm_S_placeInQueue s m args below meth c H locs 0 0 (MQ below (Qri A res) args s 0 0 A) (F0 m 0 ls []) := by
  have C0 := C
  obtain ⟨hx, hb, hr, hml, hown, hts, hlocks, hK, hA⟩ := C
  replace C := C0
  unfold B_S_placeInQueue_0 at hM
  refine lv_iconst (v := (0 : Int32)) hx hb d_S_placeInQueue_0 (by decide) ?_
  refine lv_istore_n (lv' := [(3, .int (0 : Int32)), (0, .ref (ad 6)), (1, .int x1), (2, .int x2)]) hx hb d_S_placeInQueue_1 rfl hl (by decide) rfl (fun ls hl => ?_)
  exact w_S_placeInQueue_2 C FU x1 x2 (0 : Int32) u H locs ls hP hD hS (lv_sub hl [1, 2, 3, 0] rfl) hM
end
set_option maxRecDepth 100000 in
theorem c_S_placeInQueue (l : Launch) (D : va_G) (cI cJ cZ : ClassId) (ad : Nat → Nat) (sz : Nat) (x1 : Int32) (x2 : Int32) (u : Lib) (res : Int32) (hM : B_S_placeInQueue_0 x1 x2 u = some res) : Met l y_S_placeInQueue ws_S_placeInQueue rm_S_placeInQueue (va_Pc [.ref (ad 6), .int x1, .int x2] (pr_ D cl9 (tyy cI cJ cZ) (cL cI cJ cZ ad) u sz)) (Qri (va_A [] sz) res) 0 0 (va_A [] sz) := by
  refine Met.ofW (cc := prog_3_method_23_code) (maxL := 4) (ret := (Option.some FieldType.int)) (by decide) rfl ?_
  intro p e s m args below meth c s₁ B hml hv
  obtain ⟨rfl, hsz, hP, hK, hD0⟩ := hv
  subst hsz
  have hts0 := atoms_spec (ws := ws_S_placeInQueue) B.pre
  have hl := lv_entry ([.ref (ad 6), .int x1, .int x2]) (n := 4) (Nat.le_of_ble_eq_true rfl)
  rw [lg_entry_eq]
  generalize (lg_sl ([.ref (ad 6), .int x1, .int x2]) ++ List.replicate (4 - (lg_sl ([.ref (ad 6), .int x1, .int x2])).length) Slot.unset).toArray = ls at hl ⊢
  exact w_S_placeInQueue_0 ⟨B.exec, B.bytes, B.returns, hml, findClass_of_methodNamed B.named, fun w h => hts0 w (List.mem_cons_of_mem _ h), B.notSynchronized, hK, fun q h => Or.inr h⟩ x1 x2 u s.heap [] ls hP hD0 va_S.rf hl hM
