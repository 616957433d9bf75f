section
variable {p : Program} {l : Launch} {e : Env} {s : State} {m : MethodId} {args : Array Value} {below : List Frame} {meth : Method} {c : Code} {D : va_G} {cI cJ cZ : ClassId} {A : Nat → Prop} {ad : Nat → Nat}
set_option maxHeartbeats 4000000 in
set_option maxRecDepth 100000 in
theorem w_S_storesWith_29 {k5 : Int32 → Int32 → Int32 → Int32 → Lib → Option Int32} {res : Int32} (C : Cx p s m args meth c prog_3_method_14_code 5 (Option.some FieldType.int) "PlainLibrary$Shelves" tb D cl9 (tyy cI cJ cZ) A) (hk5 : ∀ (x1 : Int32) (x2 : Int32) (x3 : Int32) (x4 : Int32) (u : Lib) (H : Heap) (locs : List Loc) (ls : Array Slot), va_P D cl9 ((cL cI cJ cZ ad) u) H → va_D (fun _ => True) ((cL cI cJ cZ ad) u) → va_S A s.heap H locs → lv_has ls 5 [(0, .ref (ad 6)), (1, .int x1), (2, .int x2), (3, .int x3), (4, .int x4)] → k5 x1 x2 x3 x4 u = some res → W p l e rm_S_storesWith s m args below meth c H locs 0 0 (MQ below (Qri A res) args s 0 0 A) (F0 m 5 ls [])) (x1 : Int32) (x2 : Int32) (x3 : Int32) (x4 : Int32) (u : Lib) (H : Heap) (locs : List Loc) (ls : Array Slot) (hP : va_P D cl9 ((cL cI cJ cZ ad) u) H) (hD : va_D (fun _ => True) ((cL cI cJ cZ ad) u)) (hS : va_S A s.heap H locs) (hl : lv_has ls 5 [(0, .ref (ad 6)), (1, .int x1), (2, .int x2), (3, .int x3), (4, .int x4)]) (hM : B_S_storesWith_29 k5 x1 x2 x3 x4 u = some res) : W p l e rm_S_storesWith s m args below meth c H locs 0 0 (MQ below (Qri A res) args s 0 0 A) (F0 m 29 ls []) := by
  have C0 := C
  obtain ⟨hx, hb, hr, hml, hown, hts, hlocks, hK, hA⟩ := C
  replace C := C0
  unfold B_S_storesWith_29 at hM
  refine lv_iinc (v := (x4 + (1 : Int32))) (lv' := [(4, .int (x4 + (1 : Int32))), (0, .ref (ad 6)), (1, .int x1), (2, .int x2), (3, .int x3)]) hx hb d_S_storesWith_29 hl (k := 4) rfl rfl (by decide) rfl (fun ls hl => ?_)
  refine lv_goto (tgt := 5) hx hb d_S_storesWith_32 (by decide) ?_
  exact hk5 x1 x2 x3 (x4 + (1 : Int32)) u H locs ls hP hD hS (lv_sub hl [1, 2, 3, 4, 0] rfl) hM
set_option maxHeartbeats 4000000 in
set_option maxRecDepth 100000 in
theorem w_S_storesWith_5s {res : Int32} (C : Cx p s m args meth c prog_3_method_14_code 5 (Option.some FieldType.int) "PlainLibrary$Shelves" tb D cl9 (tyy cI cJ cZ) A) {k5 : Int32 → Int32 → Int32 → Int32 → Lib → Option Int32} (hk5 : ∀ (x1 : Int32) (x2 : Int32) (x3 : Int32) (x4 : Int32) (u : Lib) (H : Heap) (locs : List Loc) (ls : Array Slot), va_P D cl9 ((cL cI cJ cZ ad) u) H → va_D (fun _ => True) ((cL cI cJ cZ ad) u) → va_S A s.heap H locs → lv_has ls 5 [(0, .ref (ad 6)), (1, .int x1), (2, .int x2), (3, .int x3), (4, .int x4)] → k5 x1 x2 x3 x4 u = some res → W p l e rm_S_storesWith s m args below meth c H locs 0 0 (MQ below (Qri A res) args s 0 0 A) (F0 m 5 ls [])) (x1 : Int32) (x2 : Int32) (x3 : Int32) (x4 : Int32) (u : Lib) (H : Heap) (locs : List Loc) (ls : Array Slot) (hP : va_P D cl9 ((cL cI cJ cZ ad) u) H) (hD : va_D (fun _ => True) ((cL cI cJ cZ ad) u)) (hS : va_S A s.heap H locs) (hl : lv_has ls 5 [(0, .ref (ad 6)), (1, .int x1), (2, .int x2), (3, .int x3), (4, .int x4)]) (hM : B_S_storesWith_5s k5 x1 x2 x3 x4 u = some res) : W p l e rm_S_storesWith s m args below meth c H locs 0 0 (MQ below (Qri A res) args s 0 0 A) (F0 m 5 ls []) := by
  have C0 := C
  obtain ⟨hx, hb, hr, hml, hown, hts, hlocks, hK, hA⟩ := C
  replace C := C0
  unfold B_S_storesWith_5s at hM
  refine lv_iload hx hb d_S_storesWith_5 (lv_at hl 4 rfl) ?_
  refine lv_iconst (v := (5 : Int32)) hx hb d_S_storesWith_7 (by decide) ?_
  refine lv_icmp_gt (tgt := 35) hx hb d_S_storesWith_8 (by decide) (fun c1 => ?_) (fun c1 => ?_)
  · replace hM := it_t c1 hM
    refine lv_iload_n hx hb d_S_storesWith_35 rfl (lv_at hl 3 rfl) ?_
    obtain rfl := Option.some.inj hM
    exact W.iret (v := x3) hx hb hr (fun t ht hW => ⟨⟨x3, (), rfl, rfl, trivial⟩, hS.F ht⟩) hS.2.2 d_S_storesWith_36
  · replace hM := it_f c1 hM
    refine lv_aload_n hx hb d_S_storesWith_11 rfl (lv_at hl 0 rfl) ?_
    refine va_get (D := D) (ci := 1) (v := .ref (ad 15)) (C := R_S) (T := T_S) (N := 9) hx hb hts in_S hown hK hP 6 rfl rfl 8 (by decide) (hts _ mm_80) (fun _ h9 => h9) rfl d_S_storesWith_12 ?_
    refine lv_iload_n hx hb d_S_storesWith_15 rfl (lv_at hl 1 rfl) ?_
    refine lv_iload hx hb d_S_storesWith_16 (lv_at hl 4 rfl) ?_
    obtain ⟨v2, hq2, hM⟩ := bd_some hM
    refine fr_i (res := v2) (va_runS (As := [.int x1, .int x4]) (rest := [.ref (ad 15)]) ⟨hx, hb, hml, hown, hts⟩ (c_S_sumIndex l D cI cJ cZ H.size x1 x4 v2 hq2) (va_cwS 2 hts (gS mm_217 mm_218 mm_29 mm_219) rfl rfl rfl hs_S_sumIndex ⟨Nat.le_of_ble_eq_true rfl, Nat.le_of_ble_eq_true rfl⟩) (ps_ (F := nW) (u := ()) hK nP (nD (A := fun _ => True))) rfl rfl hl.1 rfl (lv_room (Nat.le_of_ble_eq_true rfl)) d_S_storesWith_18 ⟨Nat.le_of_ble_eq_true rfl, Nat.le_of_ble_eq_true rfl⟩) hP hS hA (fun H locs hP hS => ?_)
    obtain ⟨h3, hM⟩ := gd_some hM
    refine va_iald hx hb hK hP 15 0 rfl rfl (vp_in_iff.mpr h3) d_S_storesWith_21 ?_
    refine lv_iload_n hx hb d_S_storesWith_22 rfl (lv_at hl 2 rfl) ?_
    refine lv_icmp_ne (tgt := 29) hx hb d_S_storesWith_23 (by decide) (fun c4 => ?_) (fun c4 => ?_)
    · replace hM := it_f c4 hM
      exact w_S_storesWith_29 C hk5 x1 x2 x3 x4 u H locs ls hP hD hS (lv_sub hl [0, 1, 2, 3, 4] rfl) hM
    · replace hM := it_t c4 hM
      refine lv_iinc (v := (x3 + (1 : Int32))) (lv' := [(3, .int (x3 + (1 : Int32))), (0, .ref (ad 6)), (1, .int x1), (2, .int x2), (4, .int x4)]) hx hb d_S_storesWith_26 hl (k := 3) rfl rfl (by decide) rfl (fun ls hl => ?_)
      exact w_S_storesWith_29 C hk5 x1 x2 (x3 + (1 : Int32)) x4 u H locs ls hP hD hS (lv_sub hl [1, 2, 3, 0, 4] rfl) hM
theorem w_S_storesWith_5 {res : Int32} (C : Cx p s m args meth c prog_3_method_14_code 5 (Option.some FieldType.int) "PlainLibrary$Shelves" tb D cl9 (tyy cI cJ cZ) A) : ∀ (fu : Nat) (x1 : Int32) (x2 : Int32) (x3 : Int32) (x4 : Int32) (u : Lib) (H : Heap) (locs : List Loc) (ls : Array Slot), va_P D cl9 ((cL cI cJ cZ ad) u) H → va_D (fun _ => True) ((cL cI cJ cZ ad) u) → va_S A s.heap H locs → lv_has ls 5 [(0, .ref (ad 6)), (1, .int x1), (2, .int x2), (3, .int x3), (4, .int x4)] → B_S_storesWith_5 fu x1 x2 x3 x4 u = some res → W p l e rm_S_storesWith s m args below meth c H locs 0 0 (MQ below (Qri A res) args s 0 0 A) (F0 m 5 ls []) := by
  intro fu
  induction fu with
  | zero =>
    intro x1 x2 x3 x4 u H locs ls hP hD hS hl hM
    have hM : (none : Option Int32) = some res := hM
    cases hM
  | succ fu ih =>
    intro x1 x2 x3 x4 u H locs ls hP hD hS hl hM
    exact w_S_storesWith_5s C ih x1 x2 x3 x4 u H locs ls hP hD hS hl hM
set_option maxHeartbeats 4000000 in
set_option maxRecDepth 100000 in
theorem w_S_storesWith_0 {res : Int32} (C : Cx p s m args meth c prog_3_method_14_code 5 (Option.some FieldType.int) "PlainLibrary$Shelves" tb D cl9 (tyy cI cJ cZ) A) (x1 : Int32) (x2 : Int32) (u : Lib) (H : Heap) (locs : List Loc) (ls : Array Slot) (hP : va_P D cl9 ((cL cI cJ cZ ad) u) H) (hD : va_D (fun _ => True) ((cL cI cJ cZ ad) u)) (hS : va_S A s.heap H locs) (hl : lv_has ls 5 [(0, .ref (ad 6)), (1, .int x1), (2, .int x2)]) (hM : B_S_storesWith_0 x1 x2 u = some res) : W p l e rm_S_storesWith s m args below meth c H locs 0 0 (MQ below (Qri A res) args s 0 0 A) (F0 m 0 ls []) := by
  have C0 := C
  obtain ⟨hx, hb, hr, hml, hown, hts, hlocks, hK, hA⟩ := C
  replace C := C0
  unfold B_S_storesWith_0 at hM
  refine lv_iconst (v := (0 : Int32)) hx hb d_S_storesWith_0 (by decide) ?_
  refine lv_istore_n (lv' := [(3, .int (0 : Int32)), (0, .ref (ad 6)), (1, .int x1), (2, .int x2)]) hx hb d_S_storesWith_1 rfl hl (by decide) rfl (fun ls hl => ?_)
  refine lv_iconst (v := (1 : Int32)) hx hb d_S_storesWith_2 (by decide) ?_
  refine lv_istore (lv' := [(4, .int (1 : Int32)), (3, .int (0 : Int32)), (0, .ref (ad 6)), (1, .int x1), (2, .int x2)]) hx hb d_S_storesWith_3 hl (by decide) rfl (fun ls hl => ?_)
  exact w_S_storesWith_5 C FU x1 x2 (0 : Int32) (1 : Int32) u H locs ls hP hD hS (lv_sub hl [2, 3, 4, 1, 0] rfl) hM
end
set_option maxRecDepth 100000 in
theorem c_S_storesWith (l : Launch) (D : va_G) (cI cJ cZ : ClassId) (ad : Nat → Nat) (sz : Nat) (x1 : Int32) (x2 : Int32) (u : Lib) (res : Int32) (hM : B_S_storesWith_0 x1 x2 u = some res) : Met l y_S_storesWith ws_S_storesWith rm_S_storesWith (va_Pc [.ref (ad 6), .int x1, .int x2] (pr_ D cl9 (tyy cI cJ cZ) (cL cI cJ cZ ad) u sz)) (Qri (va_A [] sz) res) 0 0 (va_A [] sz) := by
  refine Met.ofW (cc := prog_3_method_14_code) (maxL := 5) (ret := (Option.some FieldType.int)) (by decide) rfl ?_
  intro p e s m args below meth c s₁ B hml hv
  obtain ⟨rfl, hsz, hP, hK, hD0⟩ := hv
  subst hsz
  have hts0 := atoms_spec (ws := ws_S_storesWith) B.pre
  have hl := lv_entry ([.ref (ad 6), .int x1, .int x2]) (n := 5) (Nat.le_of_ble_eq_true rfl)
  rw [lg_entry_eq]
  generalize (lg_sl ([.ref (ad 6), .int x1, .int x2]) ++ List.replicate (5 - (lg_sl ([.ref (ad 6), .int x1, .int x2])).length) Slot.unset).toArray = ls at hl ⊢
  exact w_S_storesWith_0 ⟨B.exec, B.bytes, B.returns, hml, findClass_of_methodNamed B.named, fun w h => hts0 w (List.mem_cons_of_mem _ h), B.notSynchronized, hK, fun q h => Or.inr h⟩ x1 x2 u s.heap [] ls hP hD0 va_S.rf hl hM
