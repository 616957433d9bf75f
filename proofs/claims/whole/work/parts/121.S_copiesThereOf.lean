section
variable {p : Program} {l : Launch} {e : Env} {s : State} {m : MethodId} {args : Array Value} {below : List Frame} {meth : Method} {c : Code} {D : va_G} {cI cJ cZ : ClassId} {A : Nat → Prop} {ad : Nat → Nat}
set_option maxHeartbeats 4000000 in
set_option maxRecDepth 100000 in
theorem w_S_copiesThereOf_32 {k4 : Int32 → Int32 → Int32 → Lib → Option Int32} {res : Int32} (C : Cx p s m args meth c prog_3_method_7_code 4 (Option.some FieldType.int) "PlainLibrary$Shelves" tb D cl9 (tyy cI cJ cZ) A) (hk4 : ∀ (x1 : Int32) (x2 : Int32) (x3 : Int32) (u : Lib) (H : Heap) (locs : List Loc) (ls : Array Slot), va_P D cl9 ((cL cI cJ cZ ad) u) H → va_D (fun _ => True) ((cL cI cJ cZ ad) u) → va_S A s.heap H locs → lv_has ls 4 [(0, .ref (ad 6)), (1, .int x1), (2, .int x2), (3, .int x3)] → k4 x1 x2 x3 u = some res → W p l e rm_S_copiesThereOf s m args below meth c H locs 0 0 (MQ below (Qri A res) args s 0 0 A) (F0 m 4 ls [])) (x1 : Int32) (x2 : Int32) (x3 : Int32) (u : Lib) (H : Heap) (locs : List Loc) (ls : Array Slot) (hP : va_P D cl9 ((cL cI cJ cZ ad) u) H) (hD : va_D (fun _ => True) ((cL cI cJ cZ ad) u)) (hS : va_S A s.heap H locs) (hl : lv_has ls 4 [(0, .ref (ad 6)), (1, .int x1), (2, .int x2), (3, .int x3)]) (hM : B_S_copiesThereOf_32 k4 x1 x2 x3 u = some res) : W p l e rm_S_copiesThereOf s m args below meth c H locs 0 0 (MQ below (Qri A res) args s 0 0 A) (F0 m 32 ls []) := by
  have C0 := C
  obtain ⟨hx, hb, hr, hml, hown, hts, hlocks, hK, hA⟩ := C
  replace C := C0
  unfold B_S_copiesThereOf_32 at hM
  refine lv_iinc (v := (x3 + (1 : Int32))) (lv' := [(3, .int (x3 + (1 : Int32))), (0, .ref (ad 6)), (1, .int x1), (2, .int x2)]) hx hb d_S_copiesThereOf_32 hl (k := 3) rfl rfl (by decide) rfl (fun ls hl => ?_)
  refine lv_goto (tgt := 4) hx hb d_S_copiesThereOf_35 (by decide) ?_
  exact hk4 x1 x2 (x3 + (1 : Int32)) u H locs ls hP hD hS (lv_sub hl [1, 2, 3, 0] rfl) hM
set_option maxHeartbeats 4000000 in
set_option maxRecDepth 100000 in
theorem w_S_copiesThereOf_4s {res : Int32} (C : Cx p s m args meth c prog_3_method_7_code 4 (Option.some FieldType.int) "PlainLibrary$Shelves" tb D cl9 (tyy cI cJ cZ) A) {k4 : Int32 → Int32 → Int32 → Lib → Option Int32} (hk4 : ∀ (x1 : Int32) (x2 : Int32) (x3 : Int32) (u : Lib) (H : Heap) (locs : List Loc) (ls : Array Slot), va_P D cl9 ((cL cI cJ cZ ad) u) H → va_D (fun _ => True) ((cL cI cJ cZ ad) u) → va_S A s.heap H locs → lv_has ls 4 [(0, .ref (ad 6)), (1, .int x1), (2, .int x2), (3, .int x3)] → k4 x1 x2 x3 u = some res → W p l e rm_S_copiesThereOf s m args below meth c H locs 0 0 (MQ below (Qri A res) args s 0 0 A) (F0 m 4 ls [])) (x1 : Int32) (x2 : Int32) (x3 : Int32) (u : Lib) (H : Heap) (locs : List Loc) (ls : Array Slot) (hP : va_P D cl9 ((cL cI cJ cZ ad) u) H) (hD : va_D (fun _ => True) ((cL cI cJ cZ ad) u)) (hS : va_S A s.heap H locs) (hl : lv_has ls 4 [(0, .ref (ad 6)), (1, .int x1), (2, .int x2), (3, .int x3)]) (hM : B_S_copiesThereOf_4s k4 x1 x2 x3 u = some res) : W p l e rm_S_copiesThereOf s m args below meth c H locs 0 0 (MQ below (Qri A res) args s 0 0 A) (F0 m 4 ls []) := by
  have C0 := C
  obtain ⟨hx, hb, hr, hml, hown, hts, hlocks, hK, hA⟩ := C
  replace C := C0
  unfold B_S_copiesThereOf_4s at hM
  refine lv_iload_n hx hb d_S_copiesThereOf_4 rfl (lv_at hl 3 rfl) ?_
  refine lv_bipush (v := (20 : Int32)) hx hb d_S_copiesThereOf_5 (by decide) ?_
  refine lv_icmp_gt (tgt := 38) hx hb d_S_copiesThereOf_7 (by decide) (fun c1 => ?_) (fun c1 => ?_)
  · replace hM := it_t c1 hM
    refine lv_iload_n hx hb d_S_copiesThereOf_38 rfl (lv_at hl 2 rfl) ?_
    obtain rfl := Option.some.inj hM
    exact W.iret (v := x2) hx hb hr (fun t ht hW => ⟨⟨x2, (), rfl, rfl, trivial⟩, hS.F ht⟩) hS.2.2 d_S_copiesThereOf_39
  · replace hM := it_f c1 hM
    refine lv_aload_n hx hb d_S_copiesThereOf_10 rfl (lv_at hl 0 rfl) ?_
    refine va_get (D := D) (ci := 1) (v := .ref (ad 8)) (C := R_S) (T := T_S) (N := 9) hx hb hts in_S hown hK hP 6 rfl rfl 1 (by decide) (hts _ mm_73) (fun _ h9 => h9) rfl d_S_copiesThereOf_11 ?_
    refine lv_iload_n hx hb d_S_copiesThereOf_14 rfl (lv_at hl 3 rfl) ?_
    obtain ⟨h2, hM⟩ := gd_some hM
    refine va_iald hx hb hK hP 8 0 rfl rfl (vp_in_iff.mpr h2) d_S_copiesThereOf_15 ?_
    refine lv_iload_n hx hb d_S_copiesThereOf_16 rfl (lv_at hl 1 rfl) ?_
    refine lv_icmp_ne (tgt := 32) hx hb d_S_copiesThereOf_17 (by decide) (fun c3 => ?_) (fun c3 => ?_)
    · replace hM := it_f c3 hM
      exact w_S_copiesThereOf_32 C hk4 x1 x2 x3 u H locs ls hP hD hS (lv_sub hl [0, 1, 2, 3] rfl) hM
    · replace hM := it_t c3 hM
      refine lv_aload_n hx hb d_S_copiesThereOf_20 rfl (lv_at hl 0 rfl) ?_
      refine va_get (D := D) (ci := 1) (v := .ref (ad 9)) (C := R_S) (T := T_S) (N := 9) hx hb hts in_S hown hK hP 6 rfl rfl 2 (by decide) (hts _ mm_74) (fun _ h9 => h9) rfl d_S_copiesThereOf_21 ?_
      refine lv_iload_n hx hb d_S_copiesThereOf_24 rfl (lv_at hl 3 rfl) ?_
      obtain ⟨h4, hM⟩ := gd_some hM
      refine va_iald hx hb hK hP 9 0 rfl rfl (vp_in_iff.mpr h4) d_S_copiesThereOf_25 ?_
      refine lv_if_ne (tgt := 32) hx hb d_S_copiesThereOf_26 (by decide) (fun c5 => ?_) (fun c5 => ?_)
      · replace hM := it_f c5 hM
        exact w_S_copiesThereOf_32 C hk4 x1 x2 x3 u H locs ls hP hD hS (lv_sub hl [0, 1, 2, 3] rfl) hM
      · replace hM := it_t c5 hM
        refine lv_iinc (v := (x2 + (1 : Int32))) (lv' := [(2, .int (x2 + (1 : Int32))), (0, .ref (ad 6)), (1, .int x1), (3, .int x3)]) hx hb d_S_copiesThereOf_29 hl (k := 2) rfl rfl (by decide) rfl (fun ls hl => ?_)
        exact w_S_copiesThereOf_32 C hk4 x1 (x2 + (1 : Int32)) x3 u H locs ls hP hD hS (lv_sub hl [1, 2, 0, 3] rfl) hM
theorem w_S_copiesThereOf_4 {res : Int32} (C : Cx p s m args meth c prog_3_method_7_code 4 (Option.some FieldType.int) "PlainLibrary$Shelves" tb D cl9 (tyy cI cJ cZ) A) : ∀ (fu : Nat) (x1 : Int32) (x2 : Int32) (x3 : Int32) (u : Lib) (H : Heap) (locs : List Loc) (ls : Array Slot), va_P D cl9 ((cL cI cJ cZ ad) u) H → va_D (fun _ => True) ((cL cI cJ cZ ad) u) → va_S A s.heap H locs → lv_has ls 4 [(0, .ref (ad 6)), (1, .int x1), (2, .int x2), (3, .int x3)] → B_S_copiesThereOf_4 fu x1 x2 x3 u = some res → W p l e rm_S_copiesThereOf s m args below meth c H locs 0 0 (MQ below (Qri A res) args s 0 0 A) (F0 m 4 ls []) := by
  intro fu
  induction fu with
  | zero =>
    intro x1 x2 x3 u H locs ls hP hD hS hl hM
    have hM : (none : Option Int32) = some res := hM
    cases hM
  | succ fu ih =>
    intro x1 x2 x3 u H locs ls hP hD hS hl hM
    exact w_S_copiesThereOf_4s C ih x1 x2 x3 u H locs ls hP hD hS hl hM
set_option maxHeartbeats 4000000 in
set_option maxRecDepth 100000 in
theorem w_S_copiesThereOf_0 {res : Int32} (C : Cx p s m args meth c prog_3_method_7_code 4 (Option.some FieldType.int) "PlainLibrary$Shelves" tb D cl9 (tyy cI cJ cZ) A) (x1 : Int32) (u : Lib) (H : Heap) (locs : List Loc) (ls : Array Slot) (hP : va_P D cl9 ((cL cI cJ cZ ad) u) H) (hD : va_D (fun _ => True) ((cL cI cJ cZ ad) u)) (hS : va_S A s.heap H locs) (hl : lv_has ls 4 [(0, .ref (ad 6)), (1, .int x1)]) (hM : B_S_copiesThereOf_0 x1 u = some res) : W p l e rm_S_copiesThereOf s m args below meth c H locs 0 0 (MQ below (Qri A res) args s 0 0 A) (F0 m 0 ls []) := by
  have C0 := C
  obtain ⟨hx, hb, hr, hml, hown, hts, hlocks, hK, hA⟩ := C
  replace C := C0
  unfold B_S_copiesThereOf_0 at hM
  refine lv_iconst (v := (0 : Int32)) hx hb d_S_copiesThereOf_0 (by decide) ?_
  refine lv_istore_n (lv' := [(2, .int (0 : Int32)), (0, .ref (ad 6)), (1, .int x1)]) hx hb d_S_copiesThereOf_1 rfl hl (by decide) rfl (fun ls hl => ?_)
  refine lv_iconst (v := (1 : Int32)) hx hb d_S_copiesThereOf_2 (by decide) ?_
  refine lv_istore_n (lv' := [(3, .int (1 : Int32)), (2, .int (0 : Int32)), (0, .ref (ad 6)), (1, .int x1)]) hx hb d_S_copiesThereOf_3 rfl hl (by decide) rfl (fun ls hl => ?_)
  exact w_S_copiesThereOf_4 C FU x1 (0 : Int32) (1 : Int32) u H locs ls hP hD hS (lv_sub hl [2, 3, 1, 0] rfl) hM
end
set_option maxRecDepth 100000 in
theorem c_S_copiesThereOf (l : Launch) (D : va_G) (cI cJ cZ : ClassId) (ad : Nat → Nat) (sz : Nat) (x1 : Int32) (u : Lib) (res : Int32) (hM : B_S_copiesThereOf_0 x1 u = some res) : Met l y_S_copiesThereOf ws_S_copiesThereOf rm_S_copiesThereOf (va_Pc [.ref (ad 6), .int x1] (pr_ D cl9 (tyy cI cJ cZ) (cL cI cJ cZ ad) u sz)) (Qri (va_A [] sz) res) 0 0 (va_A [] sz) := by
  refine Met.ofW (cc := prog_3_method_7_code) (maxL := 4) (ret := (Option.some FieldType.int)) (by decide) rfl ?_
  intro p e s m args below meth c s₁ B hml hv
  obtain ⟨rfl, hsz, hP, hK, hD0⟩ := hv
  subst hsz
  have hts0 := atoms_spec (ws := ws_S_copiesThereOf) B.pre
  have hl := lv_entry ([.ref (ad 6), .int x1]) (n := 4) (Nat.le_of_ble_eq_true rfl)
  rw [lg_entry_eq]
  generalize (lg_sl ([.ref (ad 6), .int x1]) ++ List.replicate (4 - (lg_sl ([.ref (ad 6), .int x1])).length) Slot.unset).toArray = ls at hl ⊢
  exact w_S_copiesThereOf_0 ⟨B.exec, B.bytes, B.returns, hml, findClass_of_methodNamed B.named, fun w h => hts0 w (List.mem_cons_of_mem _ h), B.notSynchronized, hK, fun q h => Or.inr h⟩ x1 u s.heap [] ls hP hD0 va_S.rf hl hM
