section
variable {p : Program} {l : Launch} {e : Env} {s : State} {m : MethodId} {args : Array Value} {below : List Frame} {meth : Method} {c : Code} {D : va_G} {cI cJ cZ : ClassId} {A : Nat → Prop}
set_option maxHeartbeats 4000000 in
set_option maxRecDepth 100000 in
theorem w_L_isWithin_0 {res : Int32} (C : Cx p s m args meth c prog_1_method_16_code 6 (Option.some FieldType.boolean) "PlainLibrary" tb D cl9 (tyy cI cJ cZ) A) (y0 : Int64) (y2 : Int64) (y4 : Int64) (H : Heap) (locs : List Loc) (ls : Array Slot) (hP : va_P D cl9 (nW ()) H) (hD : va_D (fun _ => True) (nW ())) (hS : va_S A s.heap H locs) (hl : lv_has ls 6 [(0, .long y0), (2, .long y2), (4, .long y4)]) (hM : B_L_isWithin_0 y0 y2 y4 = some res) : W p l e rm_L_isWithin s m args below meth c H locs 0 0 (MQ below (Qri A res) args s 0 0 A) (F0 m 0 ls []) := by
  have C0 := C
  obtain ⟨hx, hb, hr, hml, hown, hts, hlocks, hK, hA⟩ := C
  replace C := C0
  unfold B_L_isWithin_0 at hM
  refine lv_lload_n hx hb d_L_isWithin_0 rfl (lv_at hl 0 rfl) ?_
  refine lv_lload_n hx hb d_L_isWithin_1 rfl (lv_at hl 1 rfl) ?_
  refine W.lcmp hx hb d_L_isWithin_2 ?_
  refine lv_if_lt (tgt := 17) hx hb d_L_isWithin_3 (by decide) (fun c1 => ?_) (fun c1 => ?_)
  · replace hM := it_t c1 hM
    refine lv_iconst (v := (0 : Int32)) hx hb d_L_isWithin_17 (by decide) ?_
    obtain rfl := Option.some.inj hM
    exact W.zret (v := (0 : Int32)) hx hb hr rfl (fun t ht hW => ⟨⟨(0 : Int32), (), rfl, rfl, trivial⟩, hS.F ht⟩) hS.2.2 d_L_isWithin_18
  · replace hM := it_f c1 hM
    refine lv_lload_n hx hb d_L_isWithin_6 rfl (lv_at hl 0 rfl) ?_
    refine lv_lload hx hb d_L_isWithin_7 (lv_at hl 2 rfl) ?_
    refine W.lcmp hx hb d_L_isWithin_9 ?_
    refine lv_if_gt (tgt := 17) hx hb d_L_isWithin_10 (by decide) (fun c2 => ?_) (fun c2 => ?_)
    · replace hM := it_t c2 hM
      refine lv_iconst (v := (0 : Int32)) hx hb d_L_isWithin_17 (by decide) ?_
      obtain rfl := Option.some.inj hM
      exact W.zret (v := (0 : Int32)) hx hb hr rfl (fun t ht hW => ⟨⟨(0 : Int32), (), rfl, rfl, trivial⟩, hS.F ht⟩) hS.2.2 d_L_isWithin_18
    · replace hM := it_f c2 hM
      refine lv_iconst (v := (1 : Int32)) hx hb d_L_isWithin_13 (by decide) ?_
      refine lv_goto (tgt := 18) hx hb d_L_isWithin_14 (by decide) ?_
      obtain rfl := Option.some.inj hM
      exact W.zret (v := (1 : Int32)) hx hb hr rfl (fun t ht hW => ⟨⟨(1 : Int32), (), rfl, rfl, trivial⟩, hS.F ht⟩) hS.2.2 d_L_isWithin_18
end
set_option maxRecDepth 100000 in
theorem c_L_isWithin (l : Launch) (D : va_G) (cI cJ cZ : ClassId) (sz : Nat) (y0 : Int64) (y2 : Int64) (y4 : Int64) (res : Int32) (hM : B_L_isWithin_0 y0 y2 y4 = some res) : Met l y_L_isWithin ws_L_isWithin rm_L_isWithin (va_Pc [.long y0, .long y2, .long y4] (pr_ D cl9 (tyy cI cJ cZ) nW () sz)) (Qri (va_A [] sz) res) 0 0 (va_A [] sz) := by
  refine Met.ofW (cc := prog_1_method_16_code) (maxL := 6) (ret := (Option.some FieldType.boolean)) (by decide) rfl ?_
  intro p e s m args below meth c s₁ B hml hv
  obtain ⟨rfl, hsz, hP, hK, hD0⟩ := hv
  subst hsz
  have hts0 := atoms_spec (ws := ws_L_isWithin) B.pre
  have hl := lv_entry ([.long y0, .long y2, .long y4]) (n := 6) (Nat.le_of_ble_eq_true rfl)
  rw [lg_entry_eq]
  generalize (lg_sl ([.long y0, .long y2, .long y4]) ++ List.replicate (6 - (lg_sl ([.long y0, .long y2, .long y4])).length) Slot.unset).toArray = ls at hl ⊢
  exact w_L_isWithin_0 ⟨B.exec, B.bytes, B.returns, hml, findClass_of_methodNamed B.named, fun w h => hts0 w (List.mem_cons_of_mem _ h), B.notSynchronized, hK, fun q h => Or.inr h⟩ y0 y2 y4 s.heap [] ls hP hD0 va_S.rf hl hM
section
variable {p : Program} {l : Launch} {e : Env} {s : State} {m : MethodId} {args : Array Value} {below : List Frame} {meth : Method} {c : Code} {D : va_G} {cI cJ cZ : ClassId} {A : Nat → Prop}
set_option maxHeartbeats 4000000 in
set_option maxRecDepth 100000 in
theorem w_L_isNumber_0 {res : Int32} (C : Cx p s m args meth c prog_1_method_17_code 2 (Option.some FieldType.boolean) "PlainLibrary" tb D cl9 (tyy cI cJ cZ) A) (y0 : Int64) (H : Heap) (locs : List Loc) (ls : Array Slot) (hP : va_P D cl9 (nW ()) H) (hD : va_D (fun _ => True) (nW ())) (hS : va_S A s.heap H locs) (hl : lv_has ls 2 [(0, .long y0)]) (hM : B_L_isNumber_0 y0 = some res) : W p l e rm_L_isNumber s m args below meth c H locs 0 0 (MQ below (Qri A res) args s 0 0 A) (F0 m 0 ls []) := by
  have C0 := C
  obtain ⟨hx, hb, hr, hml, hown, hts, hlocks, hK, hA⟩ := C
  replace C := C0
  unfold B_L_isNumber_0 at hM
  refine lv_lload_n hx hb d_L_isNumber_0 rfl (lv_at hl 0 rfl) ?_
  refine lv_lconst (v := (1 : Int64)) hx hb d_L_isNumber_1 (by decide) ?_
  refine lv_ldc2 (v := (20 : Int64)) hx hb hown (hts _ mm_127) d_L_isNumber_2 ?_
  obtain ⟨v1, hq1, hM⟩ := bd_some hM
  refine fr_i (res := v1) (va_runS (As := [.long y0, .long (1 : Int64), .long (20 : Int64)]) (rest := []) ⟨hx, hb, hml, hown, hts⟩ (c_L_isWithin l D cI cJ cZ H.size y0 (1 : Int64) (20 : Int64) v1 hq1) (va_cwS 3 hts (gS mm_118 mm_119 mm_27 mm_120) rfl rfl rfl hs_L_isWithin ⟨Nat.le_of_ble_eq_true rfl, Nat.le_of_ble_eq_true rfl⟩) (ps_ (F := nW) (u := ()) hK nP (nD (A := fun _ => True))) rfl rfl hl.1 rfl (lv_room (Nat.le_of_ble_eq_true rfl)) d_L_isNumber_5 ⟨Nat.le_of_ble_eq_true rfl, Nat.le_of_ble_eq_true rfl⟩) hP hS hA (fun H locs hP hS => ?_)
  obtain ⟨h2, hM⟩ := gd_some hM
  obtain rfl := Option.some.inj hM
  exact W.zret (v := v1) hx hb hr (nz_b h2) (fun t ht hW => ⟨⟨v1, (), rfl, rfl, trivial⟩, hS.F ht⟩) hS.2.2 d_L_isNumber_8
end
set_option maxRecDepth 100000 in
theorem c_L_isNumber (l : Launch) (D : va_G) (cI cJ cZ : ClassId) (sz : Nat) (y0 : Int64) (res : Int32) (hM : B_L_isNumber_0 y0 = some res) : Met l y_L_isNumber ws_L_isNumber rm_L_isNumber (va_Pc [.long y0] (pr_ D cl9 (tyy cI cJ cZ) nW () sz)) (Qri (va_A [] sz) res) 0 0 (va_A [] sz) := by
  refine Met.ofW (cc := prog_1_method_17_code) (maxL := 2) (ret := (Option.some FieldType.boolean)) (by decide) rfl ?_
  intro p e s m args below meth c s₁ B hml hv
  obtain ⟨rfl, hsz, hP, hK, hD0⟩ := hv
  subst hsz
  have hts0 := atoms_spec (ws := ws_L_isNumber) B.pre
  have hl := lv_entry ([.long y0]) (n := 2) (Nat.le_of_ble_eq_true rfl)
  rw [lg_entry_eq]
  generalize (lg_sl ([.long y0]) ++ List.replicate (2 - (lg_sl ([.long y0])).length) Slot.unset).toArray = ls at hl ⊢
  exact w_L_isNumber_0 ⟨B.exec, B.bytes, B.returns, hml, findClass_of_methodNamed B.named, fun w h => hts0 w (List.mem_cons_of_mem _ h), B.notSynchronized, hK, fun q h => Or.inr h⟩ y0 s.heap [] ls hP hD0 va_S.rf hl hM
section
variable {p : Program} {l : Launch} {e : Env} {s : State} {m : MethodId} {args : Array Value} {below : List Frame} {meth : Method} {c : Code} {D : va_G} {cI cJ cZ : ClassId} {A : Nat → Prop}
set_option maxHeartbeats 4000000 in
set_option maxRecDepth 100000 in
theorem w_L_isAct_0 {res : Int32} (C : Cx p s m args meth c prog_1_method_18_code 5 (Option.some FieldType.boolean) "PlainLibrary" tb D cl9 (tyy cI cJ cZ) A) (x0 : Int32) (y1 : Int64) (y3 : Int64) (H : Heap) (locs : List Loc) (ls : Array Slot) (hP : va_P D cl9 (nW ()) H) (hD : va_D (fun _ => True) (nW ())) (hS : va_S A s.heap H locs) (hl : lv_has ls 5 [(0, .int x0), (1, .long y1), (3, .long y3)]) (hM : B_L_isAct_0 x0 y1 y3 = some res) : W p l e rm_L_isAct s m args below meth c H locs 0 0 (MQ below (Qri A res) args s 0 0 A) (F0 m 0 ls []) := by
  have C0 := C
  obtain ⟨hx, hb, hr, hml, hown, hts, hlocks, hK, hA⟩ := C
  replace C := C0
  unfold B_L_isAct_0 at hM
  refine lv_iload_n hx hb d_L_isAct_0 rfl (lv_at hl 0 rfl) ?_
  by_cases c1 : x0 = (0 : Int32)
  · replace hM := it_t c1 hM
    refine lv_tableIn (off := 59) (tgt := 60) hx hb d_L_isAct_1 (by rw [c1]; decide) (by rw [c1]; decide) (by rw [c1]; rfl) (by decide) ?_
    refine lv_lload_n hx hb d_L_isAct_60 rfl (lv_at hl 1 rfl) ?_
    obtain ⟨v2, hq2, hM⟩ := bd_some hM
    refine fr_i (res := v2) (va_runS (As := [.long y1]) (rest := []) ⟨hx, hb, hml, hown, hts⟩ (c_L_isNumber l D cI cJ cZ H.size y1 v2 hq2) (va_cwS 1 hts (gS mm_124 mm_125 mm_27 mm_126) rfl rfl rfl hs_L_isNumber ⟨Nat.le_of_ble_eq_true rfl, Nat.le_of_ble_eq_true rfl⟩) (ps_ (F := nW) (u := ()) hK nP (nD (A := fun _ => True))) rfl rfl hl.1 rfl (lv_room (Nat.le_of_ble_eq_true rfl)) d_L_isAct_61 ⟨Nat.le_of_ble_eq_true rfl, Nat.le_of_ble_eq_true rfl⟩) hP hS hA (fun H locs hP hS => ?_)
    refine lv_if_eq (tgt := 82) hx hb d_L_isAct_64 (by decide) (fun c3 => ?_) (fun c3 => ?_)
    · replace hM := it_t c3 hM
      refine lv_iconst (v := (0 : Int32)) hx hb d_L_isAct_82 (by decide) ?_
      obtain rfl := Option.some.inj hM
      exact W.zret (v := (0 : Int32)) hx hb hr rfl (fun t ht hW => ⟨⟨(0 : Int32), (), rfl, rfl, trivial⟩, hS.F ht⟩) hS.2.2 d_L_isAct_83
    · replace hM := it_f c3 hM
      refine lv_lload_n hx hb d_L_isAct_67 rfl (lv_at hl 2 rfl) ?_
      refine lv_lconst (v := (1 : Int64)) hx hb d_L_isAct_68 (by decide) ?_
      refine lv_ldc2 (v := (99 : Int64)) hx hb hown (hts _ mm_128) d_L_isAct_69 ?_
      obtain ⟨v4, hq4, hM⟩ := bd_some hM
      refine fr_i (res := v4) (va_runS (As := [.long y3, .long (1 : Int64), .long (99 : Int64)]) (rest := []) ⟨hx, hb, hml, hown, hts⟩ (c_L_isWithin l D cI cJ cZ H.size y3 (1 : Int64) (99 : Int64) v4 hq4) (va_cwS 3 hts (gS mm_118 mm_119 mm_27 mm_120) rfl rfl rfl hs_L_isWithin ⟨Nat.le_of_ble_eq_true rfl, Nat.le_of_ble_eq_true rfl⟩) (ps_ (F := nW) (u := ()) hK nP (nD (A := fun _ => True))) rfl rfl hl.1 rfl (lv_room (Nat.le_of_ble_eq_true rfl)) d_L_isAct_72 ⟨Nat.le_of_ble_eq_true rfl, Nat.le_of_ble_eq_true rfl⟩) hP hS hA (fun H locs hP hS => ?_)
      refine lv_if_eq (tgt := 82) hx hb d_L_isAct_75 (by decide) (fun c5 => ?_) (fun c5 => ?_)
      · replace hM := it_t c5 hM
        refine lv_iconst (v := (0 : Int32)) hx hb d_L_isAct_82 (by decide) ?_
        obtain rfl := Option.some.inj hM
        exact W.zret (v := (0 : Int32)) hx hb hr rfl (fun t ht hW => ⟨⟨(0 : Int32), (), rfl, rfl, trivial⟩, hS.F ht⟩) hS.2.2 d_L_isAct_83
      · replace hM := it_f c5 hM
        refine lv_iconst (v := (1 : Int32)) hx hb d_L_isAct_78 (by decide) ?_
        refine lv_goto (tgt := 83) hx hb d_L_isAct_79 (by decide) ?_
        obtain rfl := Option.some.inj hM
        exact W.zret (v := (1 : Int32)) hx hb hr rfl (fun t ht hW => ⟨⟨(1 : Int32), (), rfl, rfl, trivial⟩, hS.F ht⟩) hS.2.2 d_L_isAct_83
  replace hM := it_f c1 hM
  by_cases c6 : x0 = (1 : Int32)
  · replace hM := it_t c6 hM
    refine lv_tableIn (off := 59) (tgt := 60) hx hb d_L_isAct_1 (by rw [c6]; decide) (by rw [c6]; decide) (by rw [c6]; rfl) (by decide) ?_
    refine lv_lload_n hx hb d_L_isAct_60 rfl (lv_at hl 1 rfl) ?_
    obtain ⟨v7, hq7, hM⟩ := bd_some hM
    refine fr_i (res := v7) (va_runS (As := [.long y1]) (rest := []) ⟨hx, hb, hml, hown, hts⟩ (c_L_isNumber l D cI cJ cZ H.size y1 v7 hq7) (va_cwS 1 hts (gS mm_124 mm_125 mm_27 mm_126) rfl rfl rfl hs_L_isNumber ⟨Nat.le_of_ble_eq_true rfl, Nat.le_of_ble_eq_true rfl⟩) (ps_ (F := nW) (u := ()) hK nP (nD (A := fun _ => True))) rfl rfl hl.1 rfl (lv_room (Nat.le_of_ble_eq_true rfl)) d_L_isAct_61 ⟨Nat.le_of_ble_eq_true rfl, Nat.le_of_ble_eq_true rfl⟩) hP hS hA (fun H locs hP hS => ?_)
    refine lv_if_eq (tgt := 82) hx hb d_L_isAct_64 (by decide) (fun c8 => ?_) (fun c8 => ?_)
    · replace hM := it_t c8 hM
      refine lv_iconst (v := (0 : Int32)) hx hb d_L_isAct_82 (by decide) ?_
      obtain rfl := Option.some.inj hM
      exact W.zret (v := (0 : Int32)) hx hb hr rfl (fun t ht hW => ⟨⟨(0 : Int32), (), rfl, rfl, trivial⟩, hS.F ht⟩) hS.2.2 d_L_isAct_83
    · replace hM := it_f c8 hM
      refine lv_lload_n hx hb d_L_isAct_67 rfl (lv_at hl 2 rfl) ?_
      refine lv_lconst (v := (1 : Int64)) hx hb d_L_isAct_68 (by decide) ?_
      refine lv_ldc2 (v := (99 : Int64)) hx hb hown (hts _ mm_128) d_L_isAct_69 ?_
      obtain ⟨v9, hq9, hM⟩ := bd_some hM
      refine fr_i (res := v9) (va_runS (As := [.long y3, .long (1 : Int64), .long (99 : Int64)]) (rest := []) ⟨hx, hb, hml, hown, hts⟩ (c_L_isWithin l D cI cJ cZ H.size y3 (1 : Int64) (99 : Int64) v9 hq9) (va_cwS 3 hts (gS mm_118 mm_119 mm_27 mm_120) rfl rfl rfl hs_L_isWithin ⟨Nat.le_of_ble_eq_true rfl, Nat.le_of_ble_eq_true rfl⟩) (ps_ (F := nW) (u := ()) hK nP (nD (A := fun _ => True))) rfl rfl hl.1 rfl (lv_room (Nat.le_of_ble_eq_true rfl)) d_L_isAct_72 ⟨Nat.le_of_ble_eq_true rfl, Nat.le_of_ble_eq_true rfl⟩) hP hS hA (fun H locs hP hS => ?_)
      refine lv_if_eq (tgt := 82) hx hb d_L_isAct_75 (by decide) (fun c10 => ?_) (fun c10 => ?_)
      · replace hM := it_t c10 hM
        refine lv_iconst (v := (0 : Int32)) hx hb d_L_isAct_82 (by decide) ?_
        obtain rfl := Option.some.inj hM
        exact W.zret (v := (0 : Int32)) hx hb hr rfl (fun t ht hW => ⟨⟨(0 : Int32), (), rfl, rfl, trivial⟩, hS.F ht⟩) hS.2.2 d_L_isAct_83
      · replace hM := it_f c10 hM
        refine lv_iconst (v := (1 : Int32)) hx hb d_L_isAct_78 (by decide) ?_
        refine lv_goto (tgt := 83) hx hb d_L_isAct_79 (by decide) ?_
        obtain rfl := Option.some.inj hM
        exact W.zret (v := (1 : Int32)) hx hb hr rfl (fun t ht hW => ⟨⟨(1 : Int32), (), rfl, rfl, trivial⟩, hS.F ht⟩) hS.2.2 d_L_isAct_83
  replace hM := it_f c6 hM
  by_cases c11 : x0 = (2 : Int32)
  · replace hM := it_t c11 hM
    refine lv_tableIn (off := 83) (tgt := 84) hx hb d_L_isAct_1 (by rw [c11]; decide) (by rw [c11]; decide) (by rw [c11]; rfl) (by decide) ?_
    refine lv_lload_n hx hb d_L_isAct_84 rfl (lv_at hl 1 rfl) ?_
    obtain ⟨v12, hq12, hM⟩ := bd_some hM
    refine fr_i (res := v12) (va_runS (As := [.long y1]) (rest := []) ⟨hx, hb, hml, hown, hts⟩ (c_L_isNumber l D cI cJ cZ H.size y1 v12 hq12) (va_cwS 1 hts (gS mm_124 mm_125 mm_27 mm_126) rfl rfl rfl hs_L_isNumber ⟨Nat.le_of_ble_eq_true rfl, Nat.le_of_ble_eq_true rfl⟩) (ps_ (F := nW) (u := ()) hK nP (nD (A := fun _ => True))) rfl rfl hl.1 rfl (lv_room (Nat.le_of_ble_eq_true rfl)) d_L_isAct_85 ⟨Nat.le_of_ble_eq_true rfl, Nat.le_of_ble_eq_true rfl⟩) hP hS hA (fun H locs hP hS => ?_)
    refine lv_if_eq (tgt := 102) hx hb d_L_isAct_88 (by decide) (fun c13 => ?_) (fun c13 => ?_)
    · replace hM := it_t c13 hM
      refine lv_iconst (v := (0 : Int32)) hx hb d_L_isAct_102 (by decide) ?_
      obtain rfl := Option.some.inj hM
      exact W.zret (v := (0 : Int32)) hx hb hr rfl (fun t ht hW => ⟨⟨(0 : Int32), (), rfl, rfl, trivial⟩, hS.F ht⟩) hS.2.2 d_L_isAct_103
    · replace hM := it_f c13 hM
      refine lv_lload_n hx hb d_L_isAct_91 rfl (lv_at hl 2 rfl) ?_
      obtain ⟨v14, hq14, hM⟩ := bd_some hM
      refine fr_i (res := v14) (va_runS (As := [.long y3]) (rest := []) ⟨hx, hb, hml, hown, hts⟩ (c_L_isNumber l D cI cJ cZ H.size y3 v14 hq14) (va_cwS 1 hts (gS mm_124 mm_125 mm_27 mm_126) rfl rfl rfl hs_L_isNumber ⟨Nat.le_of_ble_eq_true rfl, Nat.le_of_ble_eq_true rfl⟩) (ps_ (F := nW) (u := ()) hK nP (nD (A := fun _ => True))) rfl rfl hl.1 rfl (lv_room (Nat.le_of_ble_eq_true rfl)) d_L_isAct_92 ⟨Nat.le_of_ble_eq_true rfl, Nat.le_of_ble_eq_true rfl⟩) hP hS hA (fun H locs hP hS => ?_)
      refine lv_if_eq (tgt := 102) hx hb d_L_isAct_95 (by decide) (fun c15 => ?_) (fun c15 => ?_)
      · replace hM := it_t c15 hM
        refine lv_iconst (v := (0 : Int32)) hx hb d_L_isAct_102 (by decide) ?_
        obtain rfl := Option.some.inj hM
        exact W.zret (v := (0 : Int32)) hx hb hr rfl (fun t ht hW => ⟨⟨(0 : Int32), (), rfl, rfl, trivial⟩, hS.F ht⟩) hS.2.2 d_L_isAct_103
      · replace hM := it_f c15 hM
        refine lv_iconst (v := (1 : Int32)) hx hb d_L_isAct_98 (by decide) ?_
        refine lv_goto (tgt := 103) hx hb d_L_isAct_99 (by decide) ?_
        obtain rfl := Option.some.inj hM
        exact W.zret (v := (1 : Int32)) hx hb hr rfl (fun t ht hW => ⟨⟨(1 : Int32), (), rfl, rfl, trivial⟩, hS.F ht⟩) hS.2.2 d_L_isAct_103
  replace hM := it_f c11 hM
  by_cases c16 : x0 = (3 : Int32)
  · replace hM := it_t c16 hM
    refine lv_tableIn (off := 83) (tgt := 84) hx hb d_L_isAct_1 (by rw [c16]; decide) (by rw [c16]; decide) (by rw [c16]; rfl) (by decide) ?_
    refine lv_lload_n hx hb d_L_isAct_84 rfl (lv_at hl 1 rfl) ?_
    obtain ⟨v17, hq17, hM⟩ := bd_some hM
    refine fr_i (res := v17) (va_runS (As := [.long y1]) (rest := []) ⟨hx, hb, hml, hown, hts⟩ (c_L_isNumber l D cI cJ cZ H.size y1 v17 hq17) (va_cwS 1 hts (gS mm_124 mm_125 mm_27 mm_126) rfl rfl rfl hs_L_isNumber ⟨Nat.le_of_ble_eq_true rfl, Nat.le_of_ble_eq_true rfl⟩) (ps_ (F := nW) (u := ()) hK nP (nD (A := fun _ => True))) rfl rfl hl.1 rfl (lv_room (Nat.le_of_ble_eq_true rfl)) d_L_isAct_85 ⟨Nat.le_of_ble_eq_true rfl, Nat.le_of_ble_eq_true rfl⟩) hP hS hA (fun H locs hP hS => ?_)
    refine lv_if_eq (tgt := 102) hx hb d_L_isAct_88 (by decide) (fun c18 => ?_) (fun c18 => ?_)
    · replace hM := it_t c18 hM
      refine lv_iconst (v := (0 : Int32)) hx hb d_L_isAct_102 (by decide) ?_
      obtain rfl := Option.some.inj hM
      exact W.zret (v := (0 : Int32)) hx hb hr rfl (fun t ht hW => ⟨⟨(0 : Int32), (), rfl, rfl, trivial⟩, hS.F ht⟩) hS.2.2 d_L_isAct_103
    · replace hM := it_f c18 hM
      refine lv_lload_n hx hb d_L_isAct_91 rfl (lv_at hl 2 rfl) ?_
      obtain ⟨v19, hq19, hM⟩ := bd_some hM
      refine fr_i (res := v19) (va_runS (As := [.long y3]) (rest := []) ⟨hx, hb, hml, hown, hts⟩ (c_L_isNumber l D cI cJ cZ H.size y3 v19 hq19) (va_cwS 1 hts (gS mm_124 mm_125 mm_27 mm_126) rfl rfl rfl hs_L_isNumber ⟨Nat.le_of_ble_eq_true rfl, Nat.le_of_ble_eq_true rfl⟩) (ps_ (F := nW) (u := ()) hK nP (nD (A := fun _ => True))) rfl rfl hl.1 rfl (lv_room (Nat.le_of_ble_eq_true rfl)) d_L_isAct_92 ⟨Nat.le_of_ble_eq_true rfl, Nat.le_of_ble_eq_true rfl⟩) hP hS hA (fun H locs hP hS => ?_)
      refine lv_if_eq (tgt := 102) hx hb d_L_isAct_95 (by decide) (fun c20 => ?_) (fun c20 => ?_)
      · replace hM := it_t c20 hM
        refine lv_iconst (v := (0 : Int32)) hx hb d_L_isAct_102 (by decide) ?_
        obtain rfl := Option.some.inj hM
        exact W.zret (v := (0 : Int32)) hx hb hr rfl (fun t ht hW => ⟨⟨(0 : Int32), (), rfl, rfl, trivial⟩, hS.F ht⟩) hS.2.2 d_L_isAct_103
      · replace hM := it_f c20 hM
        refine lv_iconst (v := (1 : Int32)) hx hb d_L_isAct_98 (by decide) ?_
        refine lv_goto (tgt := 103) hx hb d_L_isAct_99 (by decide) ?_
        obtain rfl := Option.some.inj hM
        exact W.zret (v := (1 : Int32)) hx hb hr rfl (fun t ht hW => ⟨⟨(1 : Int32), (), rfl, rfl, trivial⟩, hS.F ht⟩) hS.2.2 d_L_isAct_103
  replace hM := it_f c16 hM
  by_cases c21 : x0 = (4 : Int32)
  · replace hM := it_t c21 hM
    refine lv_tableIn (off := 103) (tgt := 104) hx hb d_L_isAct_1 (by rw [c21]; decide) (by rw [c21]; decide) (by rw [c21]; rfl) (by decide) ?_
    refine lv_lload_n hx hb d_L_isAct_104 rfl (lv_at hl 1 rfl) ?_
    obtain ⟨v22, hq22, hM⟩ := bd_some hM
    refine fr_i (res := v22) (va_runS (As := [.long y1]) (rest := []) ⟨hx, hb, hml, hown, hts⟩ (c_L_isNumber l D cI cJ cZ H.size y1 v22 hq22) (va_cwS 1 hts (gS mm_124 mm_125 mm_27 mm_126) rfl rfl rfl hs_L_isNumber ⟨Nat.le_of_ble_eq_true rfl, Nat.le_of_ble_eq_true rfl⟩) (ps_ (F := nW) (u := ()) hK nP (nD (A := fun _ => True))) rfl rfl hl.1 rfl (lv_room (Nat.le_of_ble_eq_true rfl)) d_L_isAct_105 ⟨Nat.le_of_ble_eq_true rfl, Nat.le_of_ble_eq_true rfl⟩) hP hS hA (fun H locs hP hS => ?_)
    obtain ⟨h23, hM⟩ := gd_some hM
    obtain rfl := Option.some.inj hM
    exact W.zret (v := v22) hx hb hr (nz_b h23) (fun t ht hW => ⟨⟨v22, (), rfl, rfl, trivial⟩, hS.F ht⟩) hS.2.2 d_L_isAct_108
  replace hM := it_f c21 hM
  by_cases c24 : x0 = (5 : Int32)
  · replace hM := it_t c24 hM
    refine lv_tableIn (off := 83) (tgt := 84) hx hb d_L_isAct_1 (by rw [c24]; decide) (by rw [c24]; decide) (by rw [c24]; rfl) (by decide) ?_
    refine lv_lload_n hx hb d_L_isAct_84 rfl (lv_at hl 1 rfl) ?_
    obtain ⟨v25, hq25, hM⟩ := bd_some hM
    refine fr_i (res := v25) (va_runS (As := [.long y1]) (rest := []) ⟨hx, hb, hml, hown, hts⟩ (c_L_isNumber l D cI cJ cZ H.size y1 v25 hq25) (va_cwS 1 hts (gS mm_124 mm_125 mm_27 mm_126) rfl rfl rfl hs_L_isNumber ⟨Nat.le_of_ble_eq_true rfl, Nat.le_of_ble_eq_true rfl⟩) (ps_ (F := nW) (u := ()) hK nP (nD (A := fun _ => True))) rfl rfl hl.1 rfl (lv_room (Nat.le_of_ble_eq_true rfl)) d_L_isAct_85 ⟨Nat.le_of_ble_eq_true rfl, Nat.le_of_ble_eq_true rfl⟩) hP hS hA (fun H locs hP hS => ?_)
    refine lv_if_eq (tgt := 102) hx hb d_L_isAct_88 (by decide) (fun c26 => ?_) (fun c26 => ?_)
    · replace hM := it_t c26 hM
      refine lv_iconst (v := (0 : Int32)) hx hb d_L_isAct_102 (by decide) ?_
      obtain rfl := Option.some.inj hM
      exact W.zret (v := (0 : Int32)) hx hb hr rfl (fun t ht hW => ⟨⟨(0 : Int32), (), rfl, rfl, trivial⟩, hS.F ht⟩) hS.2.2 d_L_isAct_103
    · replace hM := it_f c26 hM
      refine lv_lload_n hx hb d_L_isAct_91 rfl (lv_at hl 2 rfl) ?_
      obtain ⟨v27, hq27, hM⟩ := bd_some hM
      refine fr_i (res := v27) (va_runS (As := [.long y3]) (rest := []) ⟨hx, hb, hml, hown, hts⟩ (c_L_isNumber l D cI cJ cZ H.size y3 v27 hq27) (va_cwS 1 hts (gS mm_124 mm_125 mm_27 mm_126) rfl rfl rfl hs_L_isNumber ⟨Nat.le_of_ble_eq_true rfl, Nat.le_of_ble_eq_true rfl⟩) (ps_ (F := nW) (u := ()) hK nP (nD (A := fun _ => True))) rfl rfl hl.1 rfl (lv_room (Nat.le_of_ble_eq_true rfl)) d_L_isAct_92 ⟨Nat.le_of_ble_eq_true rfl, Nat.le_of_ble_eq_true rfl⟩) hP hS hA (fun H locs hP hS => ?_)
      refine lv_if_eq (tgt := 102) hx hb d_L_isAct_95 (by decide) (fun c28 => ?_) (fun c28 => ?_)
      · replace hM := it_t c28 hM
        refine lv_iconst (v := (0 : Int32)) hx hb d_L_isAct_102 (by decide) ?_
        obtain rfl := Option.some.inj hM
        exact W.zret (v := (0 : Int32)) hx hb hr rfl (fun t ht hW => ⟨⟨(0 : Int32), (), rfl, rfl, trivial⟩, hS.F ht⟩) hS.2.2 d_L_isAct_103
      · replace hM := it_f c28 hM
        refine lv_iconst (v := (1 : Int32)) hx hb d_L_isAct_98 (by decide) ?_
        refine lv_goto (tgt := 103) hx hb d_L_isAct_99 (by decide) ?_
        obtain rfl := Option.some.inj hM
        exact W.zret (v := (1 : Int32)) hx hb hr rfl (fun t ht hW => ⟨⟨(1 : Int32), (), rfl, rfl, trivial⟩, hS.F ht⟩) hS.2.2 d_L_isAct_103
  replace hM := it_f c24 hM
  by_cases c29 : x0 = (6 : Int32)
  · replace hM := it_t c29 hM
    refine lv_tableIn (off := 83) (tgt := 84) hx hb d_L_isAct_1 (by rw [c29]; decide) (by rw [c29]; decide) (by rw [c29]; rfl) (by decide) ?_
    refine lv_lload_n hx hb d_L_isAct_84 rfl (lv_at hl 1 rfl) ?_
    obtain ⟨v30, hq30, hM⟩ := bd_some hM
    refine fr_i (res := v30) (va_runS (As := [.long y1]) (rest := []) ⟨hx, hb, hml, hown, hts⟩ (c_L_isNumber l D cI cJ cZ H.size y1 v30 hq30) (va_cwS 1 hts (gS mm_124 mm_125 mm_27 mm_126) rfl rfl rfl hs_L_isNumber ⟨Nat.le_of_ble_eq_true rfl, Nat.le_of_ble_eq_true rfl⟩) (ps_ (F := nW) (u := ()) hK nP (nD (A := fun _ => True))) rfl rfl hl.1 rfl (lv_room (Nat.le_of_ble_eq_true rfl)) d_L_isAct_85 ⟨Nat.le_of_ble_eq_true rfl, Nat.le_of_ble_eq_true rfl⟩) hP hS hA (fun H locs hP hS => ?_)
    refine lv_if_eq (tgt := 102) hx hb d_L_isAct_88 (by decide) (fun c31 => ?_) (fun c31 => ?_)
    · replace hM := it_t c31 hM
      refine lv_iconst (v := (0 : Int32)) hx hb d_L_isAct_102 (by decide) ?_
      obtain rfl := Option.some.inj hM
      exact W.zret (v := (0 : Int32)) hx hb hr rfl (fun t ht hW => ⟨⟨(0 : Int32), (), rfl, rfl, trivial⟩, hS.F ht⟩) hS.2.2 d_L_isAct_103
    · replace hM := it_f c31 hM
      refine lv_lload_n hx hb d_L_isAct_91 rfl (lv_at hl 2 rfl) ?_
      obtain ⟨v32, hq32, hM⟩ := bd_some hM
      refine fr_i (res := v32) (va_runS (As := [.long y3]) (rest := []) ⟨hx, hb, hml, hown, hts⟩ (c_L_isNumber l D cI cJ cZ H.size y3 v32 hq32) (va_cwS 1 hts (gS mm_124 mm_125 mm_27 mm_126) rfl rfl rfl hs_L_isNumber ⟨Nat.le_of_ble_eq_true rfl, Nat.le_of_ble_eq_true rfl⟩) (ps_ (F := nW) (u := ()) hK nP (nD (A := fun _ => True))) rfl rfl hl.1 rfl (lv_room (Nat.le_of_ble_eq_true rfl)) d_L_isAct_92 ⟨Nat.le_of_ble_eq_true rfl, Nat.le_of_ble_eq_true rfl⟩) hP hS hA (fun H locs hP hS => ?_)
      refine lv_if_eq (tgt := 102) hx hb d_L_isAct_95 (by decide) (fun c33 => ?_) (fun c33 => ?_)
      · replace hM := it_t c33 hM
        refine lv_iconst (v := (0 : Int32)) hx hb d_L_isAct_102 (by decide) ?_
        obtain rfl := Option.some.inj hM
        exact W.zret (v := (0 : Int32)) hx hb hr rfl (fun t ht hW => ⟨⟨(0 : Int32), (), rfl, rfl, trivial⟩, hS.F ht⟩) hS.2.2 d_L_isAct_103
      · replace hM := it_f c33 hM
        refine lv_iconst (v := (1 : Int32)) hx hb d_L_isAct_98 (by decide) ?_
        refine lv_goto (tgt := 103) hx hb d_L_isAct_99 (by decide) ?_
        obtain rfl := Option.some.inj hM
        exact W.zret (v := (1 : Int32)) hx hb hr rfl (fun t ht hW => ⟨⟨(1 : Int32), (), rfl, rfl, trivial⟩, hS.F ht⟩) hS.2.2 d_L_isAct_103
  replace hM := it_f c29 hM
  by_cases c34 : x0 = (7 : Int32)
  · replace hM := it_t c34 hM
    refine lv_tableIn (off := 108) (tgt := 109) hx hb d_L_isAct_1 (by rw [c34]; decide) (by rw [c34]; decide) (by rw [c34]; rfl) (by decide) ?_
    refine lv_lload_n hx hb d_L_isAct_109 rfl (lv_at hl 1 rfl) ?_
    obtain ⟨v35, hq35, hM⟩ := bd_some hM
    refine fr_i (res := v35) (va_runS (As := [.long y1]) (rest := []) ⟨hx, hb, hml, hown, hts⟩ (c_L_isNumber l D cI cJ cZ H.size y1 v35 hq35) (va_cwS 1 hts (gS mm_124 mm_125 mm_27 mm_126) rfl rfl rfl hs_L_isNumber ⟨Nat.le_of_ble_eq_true rfl, Nat.le_of_ble_eq_true rfl⟩) (ps_ (F := nW) (u := ()) hK nP (nD (A := fun _ => True))) rfl rfl hl.1 rfl (lv_room (Nat.le_of_ble_eq_true rfl)) d_L_isAct_110 ⟨Nat.le_of_ble_eq_true rfl, Nat.le_of_ble_eq_true rfl⟩) hP hS hA (fun H locs hP hS => ?_)
    refine lv_if_eq (tgt := 131) hx hb d_L_isAct_113 (by decide) (fun c36 => ?_) (fun c36 => ?_)
    · replace hM := it_t c36 hM
      refine lv_iconst (v := (0 : Int32)) hx hb d_L_isAct_131 (by decide) ?_
      obtain rfl := Option.some.inj hM
      exact W.zret (v := (0 : Int32)) hx hb hr rfl (fun t ht hW => ⟨⟨(0 : Int32), (), rfl, rfl, trivial⟩, hS.F ht⟩) hS.2.2 d_L_isAct_132
    · replace hM := it_f c36 hM
      refine lv_lload_n hx hb d_L_isAct_116 rfl (lv_at hl 2 rfl) ?_
      refine lv_lconst (v := (1 : Int64)) hx hb d_L_isAct_117 (by decide) ?_
      refine lv_ldc2 (v := (5 : Int64)) hx hb hown (hts _ mm_129) d_L_isAct_118 ?_
      obtain ⟨v37, hq37, hM⟩ := bd_some hM
      refine fr_i (res := v37) (va_runS (As := [.long y3, .long (1 : Int64), .long (5 : Int64)]) (rest := []) ⟨hx, hb, hml, hown, hts⟩ (c_L_isWithin l D cI cJ cZ H.size y3 (1 : Int64) (5 : Int64) v37 hq37) (va_cwS 3 hts (gS mm_118 mm_119 mm_27 mm_120) rfl rfl rfl hs_L_isWithin ⟨Nat.le_of_ble_eq_true rfl, Nat.le_of_ble_eq_true rfl⟩) (ps_ (F := nW) (u := ()) hK nP (nD (A := fun _ => True))) rfl rfl hl.1 rfl (lv_room (Nat.le_of_ble_eq_true rfl)) d_L_isAct_121 ⟨Nat.le_of_ble_eq_true rfl, Nat.le_of_ble_eq_true rfl⟩) hP hS hA (fun H locs hP hS => ?_)
      refine lv_if_eq (tgt := 131) hx hb d_L_isAct_124 (by decide) (fun c38 => ?_) (fun c38 => ?_)
      · replace hM := it_t c38 hM
        refine lv_iconst (v := (0 : Int32)) hx hb d_L_isAct_131 (by decide) ?_
        obtain rfl := Option.some.inj hM
        exact W.zret (v := (0 : Int32)) hx hb hr rfl (fun t ht hW => ⟨⟨(0 : Int32), (), rfl, rfl, trivial⟩, hS.F ht⟩) hS.2.2 d_L_isAct_132
      · replace hM := it_f c38 hM
        refine lv_iconst (v := (1 : Int32)) hx hb d_L_isAct_127 (by decide) ?_
        refine lv_goto (tgt := 132) hx hb d_L_isAct_128 (by decide) ?_
        obtain rfl := Option.some.inj hM
        exact W.zret (v := (1 : Int32)) hx hb hr rfl (fun t ht hW => ⟨⟨(1 : Int32), (), rfl, rfl, trivial⟩, hS.F ht⟩) hS.2.2 d_L_isAct_132
  replace hM := it_f c34 hM
  by_cases c39 : x0 = (8 : Int32)
  · replace hM := it_t c39 hM
    refine lv_tableIn (off := 108) (tgt := 109) hx hb d_L_isAct_1 (by rw [c39]; decide) (by rw [c39]; decide) (by rw [c39]; rfl) (by decide) ?_
    refine lv_lload_n hx hb d_L_isAct_109 rfl (lv_at hl 1 rfl) ?_
    obtain ⟨v40, hq40, hM⟩ := bd_some hM
    refine fr_i (res := v40) (va_runS (As := [.long y1]) (rest := []) ⟨hx, hb, hml, hown, hts⟩ (c_L_isNumber l D cI cJ cZ H.size y1 v40 hq40) (va_cwS 1 hts (gS mm_124 mm_125 mm_27 mm_126) rfl rfl rfl hs_L_isNumber ⟨Nat.le_of_ble_eq_true rfl, Nat.le_of_ble_eq_true rfl⟩) (ps_ (F := nW) (u := ()) hK nP (nD (A := fun _ => True))) rfl rfl hl.1 rfl (lv_room (Nat.le_of_ble_eq_true rfl)) d_L_isAct_110 ⟨Nat.le_of_ble_eq_true rfl, Nat.le_of_ble_eq_true rfl⟩) hP hS hA (fun H locs hP hS => ?_)
    refine lv_if_eq (tgt := 131) hx hb d_L_isAct_113 (by decide) (fun c41 => ?_) (fun c41 => ?_)
    · replace hM := it_t c41 hM
      refine lv_iconst (v := (0 : Int32)) hx hb d_L_isAct_131 (by decide) ?_
      obtain rfl := Option.some.inj hM
      exact W.zret (v := (0 : Int32)) hx hb hr rfl (fun t ht hW => ⟨⟨(0 : Int32), (), rfl, rfl, trivial⟩, hS.F ht⟩) hS.2.2 d_L_isAct_132
    · replace hM := it_f c41 hM
      refine lv_lload_n hx hb d_L_isAct_116 rfl (lv_at hl 2 rfl) ?_
      refine lv_lconst (v := (1 : Int64)) hx hb d_L_isAct_117 (by decide) ?_
      refine lv_ldc2 (v := (5 : Int64)) hx hb hown (hts _ mm_129) d_L_isAct_118 ?_
      obtain ⟨v42, hq42, hM⟩ := bd_some hM
      refine fr_i (res := v42) (va_runS (As := [.long y3, .long (1 : Int64), .long (5 : Int64)]) (rest := []) ⟨hx, hb, hml, hown, hts⟩ (c_L_isWithin l D cI cJ cZ H.size y3 (1 : Int64) (5 : Int64) v42 hq42) (va_cwS 3 hts (gS mm_118 mm_119 mm_27 mm_120) rfl rfl rfl hs_L_isWithin ⟨Nat.le_of_ble_eq_true rfl, Nat.le_of_ble_eq_true rfl⟩) (ps_ (F := nW) (u := ()) hK nP (nD (A := fun _ => True))) rfl rfl hl.1 rfl (lv_room (Nat.le_of_ble_eq_true rfl)) d_L_isAct_121 ⟨Nat.le_of_ble_eq_true rfl, Nat.le_of_ble_eq_true rfl⟩) hP hS hA (fun H locs hP hS => ?_)
      refine lv_if_eq (tgt := 131) hx hb d_L_isAct_124 (by decide) (fun c43 => ?_) (fun c43 => ?_)
      · replace hM := it_t c43 hM
        refine lv_iconst (v := (0 : Int32)) hx hb d_L_isAct_131 (by decide) ?_
        obtain rfl := Option.some.inj hM
        exact W.zret (v := (0 : Int32)) hx hb hr rfl (fun t ht hW => ⟨⟨(0 : Int32), (), rfl, rfl, trivial⟩, hS.F ht⟩) hS.2.2 d_L_isAct_132
      · replace hM := it_f c43 hM
        refine lv_iconst (v := (1 : Int32)) hx hb d_L_isAct_127 (by decide) ?_
        refine lv_goto (tgt := 132) hx hb d_L_isAct_128 (by decide) ?_
        obtain rfl := Option.some.inj hM
        exact W.zret (v := (1 : Int32)) hx hb hr rfl (fun t ht hW => ⟨⟨(1 : Int32), (), rfl, rfl, trivial⟩, hS.F ht⟩) hS.2.2 d_L_isAct_132
  replace hM := it_f c39 hM
  by_cases c44 : x0 = (9 : Int32)
  · replace hM := it_t c44 hM
    refine lv_tableIn (off := 132) (tgt := 133) hx hb d_L_isAct_1 (by rw [c44]; decide) (by rw [c44]; decide) (by rw [c44]; rfl) (by decide) ?_
    refine lv_lload_n hx hb d_L_isAct_133 rfl (lv_at hl 1 rfl) ?_
    obtain ⟨v45, hq45, hM⟩ := bd_some hM
    refine fr_i (res := v45) (va_runS (As := [.long y1]) (rest := []) ⟨hx, hb, hml, hown, hts⟩ (c_L_isNumber l D cI cJ cZ H.size y1 v45 hq45) (va_cwS 1 hts (gS mm_124 mm_125 mm_27 mm_126) rfl rfl rfl hs_L_isNumber ⟨Nat.le_of_ble_eq_true rfl, Nat.le_of_ble_eq_true rfl⟩) (ps_ (F := nW) (u := ()) hK nP (nD (A := fun _ => True))) rfl rfl hl.1 rfl (lv_room (Nat.le_of_ble_eq_true rfl)) d_L_isAct_134 ⟨Nat.le_of_ble_eq_true rfl, Nat.le_of_ble_eq_true rfl⟩) hP hS hA (fun H locs hP hS => ?_)
    refine lv_if_eq (tgt := 155) hx hb d_L_isAct_137 (by decide) (fun c46 => ?_) (fun c46 => ?_)
    · replace hM := it_t c46 hM
      refine lv_iconst (v := (0 : Int32)) hx hb d_L_isAct_155 (by decide) ?_
      obtain rfl := Option.some.inj hM
      exact W.zret (v := (0 : Int32)) hx hb hr rfl (fun t ht hW => ⟨⟨(0 : Int32), (), rfl, rfl, trivial⟩, hS.F ht⟩) hS.2.2 d_L_isAct_156
    · replace hM := it_f c46 hM
      refine lv_lload_n hx hb d_L_isAct_140 rfl (lv_at hl 2 rfl) ?_
      refine lv_lconst (v := (0 : Int64)) hx hb d_L_isAct_141 (by decide) ?_
      refine lv_ldc2 (v := (9 : Int64)) hx hb hown (hts _ mm_130) d_L_isAct_142 ?_
      obtain ⟨v47, hq47, hM⟩ := bd_some hM
      refine fr_i (res := v47) (va_runS (As := [.long y3, .long (0 : Int64), .long (9 : Int64)]) (rest := []) ⟨hx, hb, hml, hown, hts⟩ (c_L_isWithin l D cI cJ cZ H.size y3 (0 : Int64) (9 : Int64) v47 hq47) (va_cwS 3 hts (gS mm_118 mm_119 mm_27 mm_120) rfl rfl rfl hs_L_isWithin ⟨Nat.le_of_ble_eq_true rfl, Nat.le_of_ble_eq_true rfl⟩) (ps_ (F := nW) (u := ()) hK nP (nD (A := fun _ => True))) rfl rfl hl.1 rfl (lv_room (Nat.le_of_ble_eq_true rfl)) d_L_isAct_145 ⟨Nat.le_of_ble_eq_true rfl, Nat.le_of_ble_eq_true rfl⟩) hP hS hA (fun H locs hP hS => ?_)
      refine lv_if_eq (tgt := 155) hx hb d_L_isAct_148 (by decide) (fun c48 => ?_) (fun c48 => ?_)
      · replace hM := it_t c48 hM
        refine lv_iconst (v := (0 : Int32)) hx hb d_L_isAct_155 (by decide) ?_
        obtain rfl := Option.some.inj hM
        exact W.zret (v := (0 : Int32)) hx hb hr rfl (fun t ht hW => ⟨⟨(0 : Int32), (), rfl, rfl, trivial⟩, hS.F ht⟩) hS.2.2 d_L_isAct_156
      · replace hM := it_f c48 hM
        refine lv_iconst (v := (1 : Int32)) hx hb d_L_isAct_151 (by decide) ?_
        refine lv_goto (tgt := 156) hx hb d_L_isAct_152 (by decide) ?_
        obtain rfl := Option.some.inj hM
        exact W.zret (v := (1 : Int32)) hx hb hr rfl (fun t ht hW => ⟨⟨(1 : Int32), (), rfl, rfl, trivial⟩, hS.F ht⟩) hS.2.2 d_L_isAct_156
  replace hM := it_f c44 hM
  by_cases c49 : x0 = (10 : Int32)
  · replace hM := it_t c49 hM
    refine lv_tableIn (off := 156) (tgt := 157) hx hb d_L_isAct_1 (by rw [c49]; decide) (by rw [c49]; decide) (by rw [c49]; rfl) (by decide) ?_
    refine lv_lload_n hx hb d_L_isAct_157 rfl (lv_at hl 1 rfl) ?_
    refine lv_lconst (v := (0 : Int64)) hx hb d_L_isAct_158 (by decide) ?_
    refine lv_ldc2 (v := (9 : Int64)) hx hb hown (hts _ mm_130) d_L_isAct_159 ?_
    obtain ⟨v50, hq50, hM⟩ := bd_some hM
    refine fr_i (res := v50) (va_runS (As := [.long y1, .long (0 : Int64), .long (9 : Int64)]) (rest := []) ⟨hx, hb, hml, hown, hts⟩ (c_L_isWithin l D cI cJ cZ H.size y1 (0 : Int64) (9 : Int64) v50 hq50) (va_cwS 3 hts (gS mm_118 mm_119 mm_27 mm_120) rfl rfl rfl hs_L_isWithin ⟨Nat.le_of_ble_eq_true rfl, Nat.le_of_ble_eq_true rfl⟩) (ps_ (F := nW) (u := ()) hK nP (nD (A := fun _ => True))) rfl rfl hl.1 rfl (lv_room (Nat.le_of_ble_eq_true rfl)) d_L_isAct_162 ⟨Nat.le_of_ble_eq_true rfl, Nat.le_of_ble_eq_true rfl⟩) hP hS hA (fun H locs hP hS => ?_)
    refine lv_if_eq (tgt := 183) hx hb d_L_isAct_165 (by decide) (fun c51 => ?_) (fun c51 => ?_)
    · replace hM := it_t c51 hM
      refine lv_iconst (v := (0 : Int32)) hx hb d_L_isAct_183 (by decide) ?_
      obtain rfl := Option.some.inj hM
      exact W.zret (v := (0 : Int32)) hx hb hr rfl (fun t ht hW => ⟨⟨(0 : Int32), (), rfl, rfl, trivial⟩, hS.F ht⟩) hS.2.2 d_L_isAct_184
    · replace hM := it_f c51 hM
      refine lv_lload_n hx hb d_L_isAct_168 rfl (lv_at hl 2 rfl) ?_
      refine lv_lconst (v := (1 : Int64)) hx hb d_L_isAct_169 (by decide) ?_
      refine lv_ldc2 (v := (365 : Int64)) hx hb hown (hts _ mm_131) d_L_isAct_170 ?_
      obtain ⟨v52, hq52, hM⟩ := bd_some hM
      refine fr_i (res := v52) (va_runS (As := [.long y3, .long (1 : Int64), .long (365 : Int64)]) (rest := []) ⟨hx, hb, hml, hown, hts⟩ (c_L_isWithin l D cI cJ cZ H.size y3 (1 : Int64) (365 : Int64) v52 hq52) (va_cwS 3 hts (gS mm_118 mm_119 mm_27 mm_120) rfl rfl rfl hs_L_isWithin ⟨Nat.le_of_ble_eq_true rfl, Nat.le_of_ble_eq_true rfl⟩) (ps_ (F := nW) (u := ()) hK nP (nD (A := fun _ => True))) rfl rfl hl.1 rfl (lv_room (Nat.le_of_ble_eq_true rfl)) d_L_isAct_173 ⟨Nat.le_of_ble_eq_true rfl, Nat.le_of_ble_eq_true rfl⟩) hP hS hA (fun H locs hP hS => ?_)
      refine lv_if_eq (tgt := 183) hx hb d_L_isAct_176 (by decide) (fun c53 => ?_) (fun c53 => ?_)
      · replace hM := it_t c53 hM
        refine lv_iconst (v := (0 : Int32)) hx hb d_L_isAct_183 (by decide) ?_
        obtain rfl := Option.some.inj hM
        exact W.zret (v := (0 : Int32)) hx hb hr rfl (fun t ht hW => ⟨⟨(0 : Int32), (), rfl, rfl, trivial⟩, hS.F ht⟩) hS.2.2 d_L_isAct_184
      · replace hM := it_f c53 hM
        refine lv_iconst (v := (1 : Int32)) hx hb d_L_isAct_179 (by decide) ?_
        refine lv_goto (tgt := 184) hx hb d_L_isAct_180 (by decide) ?_
        obtain rfl := Option.some.inj hM
        exact W.zret (v := (1 : Int32)) hx hb hr rfl (fun t ht hW => ⟨⟨(1 : Int32), (), rfl, rfl, trivial⟩, hS.F ht⟩) hS.2.2 d_L_isAct_184
  replace hM := it_f c49 hM
  have nc1 := lv_neT c1 (a := 0) (by decide)
  have nc6 := lv_neT c6 (a := 1) (by decide)
  have nc11 := lv_neT c11 (a := 2) (by decide)
  have nc16 := lv_neT c16 (a := 3) (by decide)
  have nc21 := lv_neT c21 (a := 4) (by decide)
  have nc24 := lv_neT c24 (a := 5) (by decide)
  have nc29 := lv_neT c29 (a := 6) (by decide)
  have nc34 := lv_neT c34 (a := 7) (by decide)
  have nc39 := lv_neT c39 (a := 8) (by decide)
  have nc44 := lv_neT c44 (a := 9) (by decide)
  have nc49 := lv_neT c49 (a := 10) (by decide)
  refine lv_tableOut (tgt := 185) hx hb d_L_isAct_1 (by omega) (by decide) ?_
  refine lv_iconst (v := (0 : Int32)) hx hb d_L_isAct_185 (by decide) ?_
  obtain rfl := Option.some.inj hM
  exact W.zret (v := (0 : Int32)) hx hb hr rfl (fun t ht hW => ⟨⟨(0 : Int32), (), rfl, rfl, trivial⟩, hS.F ht⟩) hS.2.2 d_L_isAct_186
end
set_option maxRecDepth 100000 in
theorem c_L_isAct (l : Launch) (D : va_G) (cI cJ cZ : ClassId) (sz : Nat) (x0 : Int32) (y1 : Int64) (y3 : Int64) (res : Int32) (hM : B_L_isAct_0 x0 y1 y3 = some res) : Met l y_L_isAct ws_L_isAct rm_L_isAct (va_Pc [.int x0, .long y1, .long y3] (pr_ D cl9 (tyy cI cJ cZ) nW () sz)) (Qri (va_A [] sz) res) 0 0 (va_A [] sz) := by
  refine Met.ofW (cc := prog_1_method_18_code) (maxL := 5) (ret := (Option.some FieldType.boolean)) (by decide) rfl ?_
  intro p e s m args below meth c s₁ B hml hv
  obtain ⟨rfl, hsz, hP, hK, hD0⟩ := hv
  subst hsz
  have hts0 := atoms_spec (ws := ws_L_isAct) B.pre
  have hl := lv_entry ([.int x0, .long y1, .long y3]) (n := 5) (Nat.le_of_ble_eq_true rfl)
  rw [lg_entry_eq]
  generalize (lg_sl ([.int x0, .long y1, .long y3]) ++ List.replicate (5 - (lg_sl ([.int x0, .long y1, .long y3])).length) Slot.unset).toArray = ls at hl ⊢
  exact w_L_isAct_0 ⟨B.exec, B.bytes, B.returns, hml, findClass_of_methodNamed B.named, fun w h => hts0 w (List.mem_cons_of_mem _ h), B.notSynchronized, hK, fun q h => Or.inr h⟩ x0 y1 y3 s.heap [] ls hP hD0 va_S.rf hl hM
section
variable {p : Program} {l : Launch} {e : Env} {s : State} {m : MethodId} {args : Array Value} {below : List Frame} {meth : Method} {c : Code} {D : va_G} {cI cJ cZ : ClassId} {A : Nat → Prop} {ad : Nat → Nat}
set_option maxHeartbeats 4000000 in
set_option maxRecDepth 100000 in
theorem w_L_event_36 {res : (Int32 × Lib)} (C : Cx p s m args meth c prog_1_method_2_code 9 (Option.some FieldType.int) "PlainLibrary" tb D cl9 (tyy cI cJ cZ) A) (x1 : Int32) (y2 : Int64) (y6 : Int64) (t0 : Int32) (u : Lib) (H : Heap) (locs : List Loc) (ls : Array Slot) (hP : va_P D cl9 ((cL cI cJ cZ ad) u) H) (hD : va_D A ((cL cI cJ cZ ad) u)) (hS : va_S A s.heap H locs) (hl : lv_has ls 9 [(0, .ref (ad 0)), (1, .int x1), (2, .long y2), (6, .long y6)]) (hM : B_L_event_36 x1 y2 y6 t0 u = some res) : W p l e rm_L_event s m args below meth c H locs 0 0 (MQ below (Qwi D cl9 (tyy cI cJ cZ) (cL cI cJ cZ ad) A res) args s 0 0 A) (F0 m 36 ls [.int t0]) := by
  have C0 := C
  obtain ⟨hx, hb, hr, hml, hown, hts, hlocks, hK, hA⟩ := C
  replace C := C0
  unfold B_L_event_36 at hM
  refine lv_istore (lv' := [(8, .int t0), (0, .ref (ad 0)), (1, .int x1), (2, .long y2), (6, .long y6)]) hx hb d_L_event_36 hl (by decide) rfl (fun ls hl => ?_)
  refine lv_aload_n hx hb d_L_event_38 rfl (lv_at hl 1 rfl) ?_
  refine va_get (D := D) (ci := 2) (v := .ref (ad 1)) (C := R_L) (T := T_L) (N := 4) hx hb hts in_L hown hK hP 0 rfl rfl 0 (by decide) (hts _ mm_100) (fun _ h9 => h9) rfl d_L_event_39 ?_
  refine lv_iload_n hx hb d_L_event_42 rfl (lv_at hl 2 rfl) ?_
  refine lv_lload_n hx hb d_L_event_43 rfl (lv_at hl 3 rfl) ?_
  refine lv_l2i (v := y2.toInt32) hx hb d_L_event_44 rfl ?_
  refine lv_iload hx hb d_L_event_45 (lv_at hl 0 rfl) ?_
  refine lv_lload hx hb d_L_event_47 (lv_at hl 4 rfl) ?_
  obtain ⟨v1, hq1, hM⟩ := bd_some hM
  refine fw_i (F := (cL cI cJ cZ ad)) (u := u) (res := v1) (va_runV (As := [.int x1, .int (y2.toInt32), .int t0, .long y6]) (rest := []) ⟨hx, hb, hml, hown, hts⟩ (c_R_insert l D cI cJ cZ ad H.size x1 (y2.toInt32) t0 y6 u v1 hq1) (cwV 4 hts (gV mm_132 mm_133 mm_134 mm_28 mm_135) rfl rfl rfl hd_R_insert ⟨Nat.le_of_ble_eq_true rfl, Nat.le_of_ble_eq_true rfl⟩) (pv_ (F := (cL cI cJ cZ ad)) (u := u) hK hP hD (va_recv hK hP (ci := 0) (q0 := 1) rfl rfl)) rfl rfl hl.1 rfl (lv_room (Nat.le_of_ble_eq_true rfl)) d_L_event_49 ⟨Nat.le_of_ble_eq_true rfl, Nat.le_of_ble_eq_true rfl⟩) hS (fa_ hD hS hA) (fun H locs hP hD hS => ?_)
  refine lv_if_eq (tgt := 65) hx hb d_L_event_52 (by decide) (fun c2 => ?_) (fun c2 => ?_)
  · replace hM := it_t c2 hM
    refine lv_iconst (v := (0 : Int32)) hx hb d_L_event_65 (by decide) ?_
    obtain rfl := Option.some.inj hM
    exact W.iret (v := (0 : Int32)) hx hb hr (fun t ht hW => ⟨⟨(0 : Int32), v1.2, rfl, rfl, by rw [ht]; exact hP, va_K.moved hW.alike hK, hD⟩, hS.F ht⟩) hS.2.2 d_L_event_66
  · replace hM := it_f c2 hM
    refine lv_aload_n hx hb d_L_event_55 rfl (lv_at hl 1 rfl) ?_
    refine va_get (D := D) (ci := 2) (v := .ref (ad 1)) (C := R_L) (T := T_L) (N := 4) hx hb hts in_L hown hK hP 0 rfl rfl 0 (by decide) (hts _ mm_100) (fun _ h9 => h9) rfl d_L_event_56 ?_
    obtain ⟨v3, hq3, hM⟩ := bd_some hM
    refine fr_i (res := v3) (va_runV (As := []) (rest := []) ⟨hx, hb, hml, hown, hts⟩ (c_R_size l D cI cJ cZ ad H.size v1.2 v3 hq3) (cwV 0 hts (gV mm_143 mm_144 mm_145 mm_28 mm_146) rfl rfl rfl hd_R_size ⟨Nat.le_of_ble_eq_true rfl, Nat.le_of_ble_eq_true rfl⟩) (pv_ (F := (cL cI cJ cZ ad)) (u := v1.2) hK hP hD (va_recv hK hP (ci := 0) (q0 := 1) rfl rfl)) rfl rfl hl.1 rfl (lv_room (Nat.le_of_ble_eq_true rfl)) d_L_event_59 ⟨Nat.le_of_ble_eq_true rfl, Nat.le_of_ble_eq_true rfl⟩) hP hS hA (fun H locs hP hS => ?_)
    refine lv_goto (tgt := 66) hx hb d_L_event_62 (by decide) ?_
    obtain rfl := Option.some.inj hM
    exact W.iret (v := v3) hx hb hr (fun t ht hW => ⟨⟨v3, v1.2, rfl, rfl, by rw [ht]; exact hP, va_K.moved hW.alike hK, hD⟩, hS.F ht⟩) hS.2.2 d_L_event_66
set_option maxHeartbeats 4000000 in
set_option maxRecDepth 100000 in
theorem w_L_event_0 {res : (Int32 × Lib)} (C : Cx p s m args meth c prog_1_method_2_code 9 (Option.some FieldType.int) "PlainLibrary" tb D cl9 (tyy cI cJ cZ) A) (x1 : Int32) (y2 : Int64) (y4 : Int64) (y6 : Int64) (u : Lib) (H : Heap) (locs : List Loc) (ls : Array Slot) (hP : va_P D cl9 ((cL cI cJ cZ ad) u) H) (hD : va_D A ((cL cI cJ cZ ad) u)) (hS : va_S A s.heap H locs) (hl : lv_has ls 9 [(0, .ref (ad 0)), (1, .int x1), (2, .long y2), (4, .long y4), (6, .long y6)]) (hM : B_L_event_0 x1 y2 y4 y6 u = some res) : W p l e rm_L_event s m args below meth c H locs 0 0 (MQ below (Qwi D cl9 (tyy cI cJ cZ) (cL cI cJ cZ ad) A res) args s 0 0 A) (F0 m 0 ls []) := by
  have C0 := C
  obtain ⟨hx, hb, hr, hml, hown, hts, hlocks, hK, hA⟩ := C
  replace C := C0
  unfold B_L_event_0 at hM
  refine lv_lload hx hb d_L_event_0 (lv_at hl 4 rfl) ?_
  refine lv_lconst (v := (0 : Int64)) hx hb d_L_event_2 (by decide) ?_
  refine lv_ldc2 (v := (1000000 : Int64)) hx hb hown (hts _ mm_117) d_L_event_3 ?_
  obtain ⟨v1, hq1, hM⟩ := bd_some hM
  refine fr_i (res := v1) (va_runS (As := [.long y6, .long (0 : Int64), .long (1000000 : Int64)]) (rest := []) ⟨hx, hb, hml, hown, hts⟩ (c_L_isWithin l D cI cJ cZ H.size y6 (0 : Int64) (1000000 : Int64) v1 hq1) (va_cwS 3 hts (gS mm_118 mm_119 mm_27 mm_120) rfl rfl rfl hs_L_isWithin ⟨Nat.le_of_ble_eq_true rfl, Nat.le_of_ble_eq_true rfl⟩) (ps_ (F := nW) (u := ()) hK nP (nD (A := fun _ => True))) rfl rfl hl.1 rfl (lv_room (Nat.le_of_ble_eq_true rfl)) d_L_event_6 ⟨Nat.le_of_ble_eq_true rfl, Nat.le_of_ble_eq_true rfl⟩) hP hS hA (fun H locs hP hS => ?_)
  refine lv_if_eq (tgt := 22) hx hb d_L_event_9 (by decide) (fun c2 => ?_) (fun c2 => ?_)
  · replace hM := it_t c2 hM
    refine lv_iconst (v := (0 : Int32)) hx hb d_L_event_22 (by decide) ?_
    obtain rfl := Option.some.inj hM
    exact W.iret (v := (0 : Int32)) hx hb hr (fun t ht hW => ⟨⟨(0 : Int32), u, rfl, rfl, by rw [ht]; exact hP, va_K.moved hW.alike hK, hD⟩, hS.F ht⟩) hS.2.2 d_L_event_23
  · replace hM := it_f c2 hM
    refine lv_iload_n hx hb d_L_event_12 rfl (lv_at hl 1 rfl) ?_
    refine lv_lload_n hx hb d_L_event_13 rfl (lv_at hl 2 rfl) ?_
    refine lv_lload hx hb d_L_event_14 (lv_at hl 3 rfl) ?_
    obtain ⟨v3, hq3, hM⟩ := bd_some hM
    refine fr_i (res := v3) (va_runS (As := [.int x1, .long y2, .long y4]) (rest := []) ⟨hx, hb, hml, hown, hts⟩ (c_L_isAct l D cI cJ cZ H.size x1 y2 y4 v3 hq3) (va_cwS 3 hts (gS mm_121 mm_122 mm_27 mm_123) rfl rfl rfl hs_L_isAct ⟨Nat.le_of_ble_eq_true rfl, Nat.le_of_ble_eq_true rfl⟩) (ps_ (F := nW) (u := ()) hK nP (nD (A := fun _ => True))) rfl rfl hl.1 rfl (lv_room (Nat.le_of_ble_eq_true rfl)) d_L_event_16 ⟨Nat.le_of_ble_eq_true rfl, Nat.le_of_ble_eq_true rfl⟩) hP hS hA (fun H locs hP hS => ?_)
    refine lv_if_ne (tgt := 24) hx hb d_L_event_19 (by decide) (fun c4 => ?_) (fun c4 => ?_)
    · replace hM := it_f c4 hM
      refine lv_iload_n hx hb d_L_event_24 rfl (lv_at hl 1 rfl) ?_
      refine lv_iconst (v := (4 : Int32)) hx hb d_L_event_25 (by decide) ?_
      refine lv_icmp_ne (tgt := 33) hx hb d_L_event_26 (by decide) (fun c5 => ?_) (fun c5 => ?_)
      · replace hM := it_f c5 hM
        refine lv_lload hx hb d_L_event_33 (lv_at hl 3 rfl) ?_
        refine lv_l2i (v := y4.toInt32) hx hb d_L_event_35 rfl ?_
        exact w_L_event_36 C x1 y2 y6 (y4.toInt32) u H locs ls hP hD hS (lv_sub hl [0, 1, 2, 4] rfl) hM
      · replace hM := it_t c5 hM
        refine lv_iconst (v := (0 : Int32)) hx hb d_L_event_29 (by decide) ?_
        refine lv_goto (tgt := 36) hx hb d_L_event_30 (by decide) ?_
        exact w_L_event_36 C x1 y2 y6 (0 : Int32) u H locs ls hP hD hS (lv_sub hl [0, 1, 2, 4] rfl) hM
    · replace hM := it_t c4 hM
      refine lv_iconst (v := (0 : Int32)) hx hb d_L_event_22 (by decide) ?_
      obtain rfl := Option.some.inj hM
      exact W.iret (v := (0 : Int32)) hx hb hr (fun t ht hW => ⟨⟨(0 : Int32), u, rfl, rfl, by rw [ht]; exact hP, va_K.moved hW.alike hK, hD⟩, hS.F ht⟩) hS.2.2 d_L_event_23
end
set_option maxRecDepth 100000 in
theorem c_L_event (l : Launch) (D : va_G) (cI cJ cZ : ClassId) (ad : Nat → Nat) (sz : Nat) (x1 : Int32) (y2 : Int64) (y4 : Int64) (y6 : Int64) (u : Lib) (res : (Int32 × Lib)) (hM : B_L_event_0 x1 y2 y4 y6 u = some res) : Met l y_L_event ws_L_event rm_L_event (va_Pc [.ref (ad 0), .int x1, .long y2, .long y4, .long y6] (pr_ D cl9 (tyy cI cJ cZ) (cL cI cJ cZ ad) u sz)) (Qwi D cl9 (tyy cI cJ cZ) (cL cI cJ cZ ad) (va_A ((cL cI cJ cZ ad) u) sz) res) 0 0 (va_A ((cL cI cJ cZ ad) u) sz) := by
  refine Met.ofW (cc := prog_1_method_2_code) (maxL := 9) (ret := (Option.some FieldType.int)) (by decide) rfl ?_
  intro p e s m args below meth c s₁ B hml hv
  obtain ⟨rfl, hsz, hP, hK, hD0⟩ := hv
  subst hsz
  have hts0 := atoms_spec (ws := ws_L_event) B.pre
  have hl := lv_entry ([.ref (ad 0), .int x1, .long y2, .long y4, .long y6]) (n := 9) (Nat.le_of_ble_eq_true rfl)
  rw [lg_entry_eq]
  generalize (lg_sl ([.ref (ad 0), .int x1, .long y2, .long y4, .long y6]) ++ List.replicate (9 - (lg_sl ([.ref (ad 0), .int x1, .long y2, .long y4, .long y6])).length) Slot.unset).toArray = ls at hl ⊢
  exact w_L_event_0 ⟨B.exec, B.bytes, B.returns, hml, findClass_of_methodNamed B.named, fun w h => hts0 w (List.mem_cons_of_mem _ h), B.notSynchronized, hK, fun q h => Or.inr h⟩ x1 y2 y4 y6 u s.heap [] ls hP hD0.self va_S.rf hl hM
section
variable {p : Program} {l : Launch} {e : Env} {s : State} {m : MethodId} {args : Array Value} {below : List Frame} {meth : Method} {c : Code} {D : va_G} {cI cJ cZ : ClassId} {A : Nat → Prop} {ad : Nat → Nat}
set_option maxHeartbeats 4000000 in
set_option maxRecDepth 100000 in
theorem w_L_counts_26s {res : (Int32 × Lib)} (C : Cx p s m args meth c prog_1_method_3_code 3 (Option.some FieldType.int) "PlainLibrary" tb D cl9 (tyy cI cJ cZ) A) {k26 : Int32 → Int32 → Lib → Option (Int32 × Lib)} (hk26 : ∀ (x1 : Int32) (x2 : Int32) (u : Lib) (H : Heap) (locs : List Loc) (ls : Array Slot), va_P D cl9 ((cL cI cJ cZ ad) u) H → va_D A ((cL cI cJ cZ ad) u) → va_S A s.heap H locs → lv_has ls 3 [(0, .ref (ad 0)), (1, .int x1), (2, .int x2)] → k26 x1 x2 u = some res → W p l e rm_L_counts s m args below meth c H locs 0 0 (MQ below (Qwi D cl9 (tyy cI cJ cZ) (cL cI cJ cZ ad) A res) args s 0 0 A) (F0 m 26 ls [])) (x1 : Int32) (x2 : Int32) (u : Lib) (H : Heap) (locs : List Loc) (ls : Array Slot) (hP : va_P D cl9 ((cL cI cJ cZ ad) u) H) (hD : va_D A ((cL cI cJ cZ ad) u)) (hS : va_S A s.heap H locs) (hl : lv_has ls 3 [(0, .ref (ad 0)), (1, .int x1), (2, .int x2)]) (hM : B_L_counts_26s k26 x1 x2 u = some res) : W p l e rm_L_counts s m args below meth c H locs 0 0 (MQ below (Qwi D cl9 (tyy cI cJ cZ) (cL cI cJ cZ ad) A res) args s 0 0 A) (F0 m 26 ls []) := by
  have C0 := C
  obtain ⟨hx, hb, hr, hml, hown, hts, hlocks, hK, hA⟩ := C
  replace C := C0
  unfold B_L_counts_26s at hM
  refine lv_iload_n hx hb d_L_counts_26 rfl (lv_at hl 2 rfl) ?_
  refine lv_iload_n hx hb d_L_counts_27 rfl (lv_at hl 1 rfl) ?_
  refine lv_icmp_ge (tgt := 50) hx hb d_L_counts_28 (by decide) (fun c1 => ?_) (fun c1 => ?_)
  · replace hM := it_t c1 hM
    refine lv_aload_n hx hb d_L_counts_50 rfl (lv_at hl 0 rfl) ?_
    refine va_get (D := D) (ci := 2) (v := .ref (ad 1)) (C := R_L) (T := T_L) (N := 4) hx hb hts in_L hown hK hP 0 rfl rfl 0 (by decide) (hts _ mm_100) (fun _ h9 => h9) rfl d_L_counts_51 ?_
    refine lv_iload_n hx hb d_L_counts_54 rfl (lv_at hl 1 rfl) ?_
    refine lv_aload_n hx hb d_L_counts_55 rfl (lv_at hl 0 rfl) ?_
    refine va_get (D := D) (ci := 2) (v := .ref (ad 6)) (C := R_L) (T := T_L) (N := 4) hx hb hts in_L hown hK hP 0 rfl rfl 1 (by decide) (hts _ mm_101) (fun _ h9 => h9) rfl d_L_counts_56 ?_
    obtain ⟨v2, hq2, hM⟩ := bd_some hM
    refine fw_i (F := (cL cI cJ cZ ad)) (u := u) (res := v2) (va_runV (As := [.int x1, .ref (ad 6)]) (rest := []) ⟨hx, hb, hml, hown, hts⟩ (c_R_perform l D cI cJ cZ ad H.size x1 u v2 hq2) (cwV 2 hts (gV mm_161 mm_162 mm_163 mm_28 mm_164) rfl rfl rfl hd_R_perform ⟨Nat.le_of_ble_eq_true rfl, Nat.le_of_ble_eq_true rfl⟩) (pv_ (F := (cL cI cJ cZ ad)) (u := u) hK hP hD (va_recv hK hP (ci := 0) (q0 := 1) rfl rfl)) rfl rfl hl.1 rfl (lv_room (Nat.le_of_ble_eq_true rfl)) d_L_counts_59 ⟨Nat.le_of_ble_eq_true rfl, Nat.le_of_ble_eq_true rfl⟩) hS (fa_ hD hS hA) (fun H locs hP hD hS => ?_)
    refine lv_if_eq (tgt := 69) hx hb d_L_counts_62 (by decide) (fun c3 => ?_) (fun c3 => ?_)
    · replace hM := it_t c3 hM
      refine lv_iconst (v := (0 : Int32)) hx hb d_L_counts_69 (by decide) ?_
      obtain rfl := Option.some.inj hM
      exact W.iret (v := (0 : Int32)) hx hb hr (fun t ht hW => ⟨⟨(0 : Int32), v2.2, rfl, rfl, by rw [ht]; exact hP, va_K.moved hW.alike hK, hD⟩, hS.F ht⟩) hS.2.2 d_L_counts_70
    · replace hM := it_f c3 hM
      refine lv_iconst (v := (1 : Int32)) hx hb d_L_counts_65 (by decide) ?_
      refine lv_goto (tgt := 70) hx hb d_L_counts_66 (by decide) ?_
      obtain rfl := Option.some.inj hM
      exact W.iret (v := (1 : Int32)) hx hb hr (fun t ht hW => ⟨⟨(1 : Int32), v2.2, rfl, rfl, by rw [ht]; exact hP, va_K.moved hW.alike hK, hD⟩, hS.F ht⟩) hS.2.2 d_L_counts_70
  · replace hM := it_f c1 hM
    refine lv_aload_n hx hb d_L_counts_31 rfl (lv_at hl 0 rfl) ?_
    refine va_get (D := D) (ci := 2) (v := .ref (ad 1)) (C := R_L) (T := T_L) (N := 4) hx hb hts in_L hown hK hP 0 rfl rfl 0 (by decide) (hts _ mm_100) (fun _ h9 => h9) rfl d_L_counts_32 ?_
    refine lv_iload_n hx hb d_L_counts_35 rfl (lv_at hl 2 rfl) ?_
    refine lv_aload_n hx hb d_L_counts_36 rfl (lv_at hl 0 rfl) ?_
    refine va_get (D := D) (ci := 2) (v := .ref (ad 6)) (C := R_L) (T := T_L) (N := 4) hx hb hts in_L hown hK hP 0 rfl rfl 1 (by decide) (hts _ mm_101) (fun _ h9 => h9) rfl d_L_counts_37 ?_
    obtain ⟨v4, hq4, hM⟩ := bd_some hM
    refine fw_i (F := (cL cI cJ cZ ad)) (u := u) (res := v4) (va_runV (As := [.int x2, .ref (ad 6)]) (rest := []) ⟨hx, hb, hml, hown, hts⟩ (c_R_perform l D cI cJ cZ ad H.size x2 u v4 hq4) (cwV 2 hts (gV mm_161 mm_162 mm_163 mm_28 mm_164) rfl rfl rfl hd_R_perform ⟨Nat.le_of_ble_eq_true rfl, Nat.le_of_ble_eq_true rfl⟩) (pv_ (F := (cL cI cJ cZ ad)) (u := u) hK hP hD (va_recv hK hP (ci := 0) (q0 := 1) rfl rfl)) rfl rfl hl.1 rfl (lv_room (Nat.le_of_ble_eq_true rfl)) d_L_counts_40 ⟨Nat.le_of_ble_eq_true rfl, Nat.le_of_ble_eq_true rfl⟩) hS (fa_ hD hS hA) (fun H locs hP hD hS => ?_)
    refine lv_pop hx hb d_L_counts_43 rfl ?_
    refine lv_iinc (v := (x2 + (1 : Int32))) (lv' := [(2, .int (x2 + (1 : Int32))), (0, .ref (ad 0)), (1, .int x1)]) hx hb d_L_counts_44 hl (k := 2) rfl rfl (by decide) rfl (fun ls hl => ?_)
    refine lv_goto (tgt := 26) hx hb d_L_counts_47 (by decide) ?_
    exact hk26 x1 (x2 + (1 : Int32)) v4.2 H locs ls hP hD hS (lv_sub hl [1, 2, 0] rfl) hM
theorem w_L_counts_26 {res : (Int32 × Lib)} (C : Cx p s m args meth c prog_1_method_3_code 3 (Option.some FieldType.int) "PlainLibrary" tb D cl9 (tyy cI cJ cZ) A) : ∀ (fu : Nat) (x1 : Int32) (x2 : Int32) (u : Lib) (H : Heap) (locs : List Loc) (ls : Array Slot), va_P D cl9 ((cL cI cJ cZ ad) u) H → va_D A ((cL cI cJ cZ ad) u) → va_S A s.heap H locs → lv_has ls 3 [(0, .ref (ad 0)), (1, .int x1), (2, .int x2)] → B_L_counts_26 fu x1 x2 u = some res → W p l e rm_L_counts s m args below meth c H locs 0 0 (MQ below (Qwi D cl9 (tyy cI cJ cZ) (cL cI cJ cZ ad) A res) args s 0 0 A) (F0 m 26 ls []) := by
  intro fu
  induction fu with
  | zero =>
    intro x1 x2 u H locs ls hP hD hS hl hM
    have hM : (none : Option (Int32 × Lib)) = some res := hM
    cases hM
  | succ fu ih =>
    intro x1 x2 u H locs ls hP hD hS hl hM
    exact w_L_counts_26s C ih x1 x2 u H locs ls hP hD hS hl hM
set_option maxHeartbeats 4000000 in
set_option maxRecDepth 100000 in
theorem w_L_counts_0 {res : (Int32 × Lib)} (C : Cx p s m args meth c prog_1_method_3_code 3 (Option.some FieldType.int) "PlainLibrary" tb D cl9 (tyy cI cJ cZ) A) (x1 : Int32) (u : Lib) (H : Heap) (locs : List Loc) (ls : Array Slot) (hP : va_P D cl9 ((cL cI cJ cZ ad) u) H) (hD : va_D A ((cL cI cJ cZ ad) u)) (hS : va_S A s.heap H locs) (hl : lv_has ls 3 [(0, .ref (ad 0)), (1, .int x1)]) (hM : B_L_counts_0 x1 u = some res) : W p l e rm_L_counts s m args below meth c H locs 0 0 (MQ below (Qwi D cl9 (tyy cI cJ cZ) (cL cI cJ cZ ad) A res) args s 0 0 A) (F0 m 0 ls []) := by
  have C0 := C
  obtain ⟨hx, hb, hr, hml, hown, hts, hlocks, hK, hA⟩ := C
  replace C := C0
  unfold B_L_counts_0 at hM
  refine lv_iload_n hx hb d_L_counts_0 rfl (lv_at hl 1 rfl) ?_
  refine lv_if_lt (tgt := 15) hx hb d_L_counts_1 (by decide) (fun c1 => ?_) (fun c1 => ?_)
  · replace hM := it_t c1 hM
    refine lv_iconst (v := (-1 : Int32)) hx hb d_L_counts_15 (by decide) ?_
    obtain rfl := Option.some.inj hM
    exact W.iret (v := (-1 : Int32)) hx hb hr (fun t ht hW => ⟨⟨(-1 : Int32), u, rfl, rfl, by rw [ht]; exact hP, va_K.moved hW.alike hK, hD⟩, hS.F ht⟩) hS.2.2 d_L_counts_16
  · replace hM := it_f c1 hM
    refine lv_iload_n hx hb d_L_counts_4 rfl (lv_at hl 1 rfl) ?_
    refine lv_aload_n hx hb d_L_counts_5 rfl (lv_at hl 0 rfl) ?_
    refine va_get (D := D) (ci := 2) (v := .ref (ad 1)) (C := R_L) (T := T_L) (N := 4) hx hb hts in_L hown hK hP 0 rfl rfl 0 (by decide) (hts _ mm_100) (fun _ h9 => h9) rfl d_L_counts_6 ?_
    obtain ⟨v2, hq2, hM⟩ := bd_some hM
    refine fr_i (res := v2) (va_runV (As := []) (rest := [.int x1]) ⟨hx, hb, hml, hown, hts⟩ (c_R_size l D cI cJ cZ ad H.size u v2 hq2) (cwV 0 hts (gV mm_143 mm_144 mm_145 mm_28 mm_146) rfl rfl rfl hd_R_size ⟨Nat.le_of_ble_eq_true rfl, Nat.le_of_ble_eq_true rfl⟩) (pv_ (F := (cL cI cJ cZ ad)) (u := u) hK hP hD (va_recv hK hP (ci := 0) (q0 := 1) rfl rfl)) rfl rfl hl.1 rfl (lv_room (Nat.le_of_ble_eq_true rfl)) d_L_counts_9 ⟨Nat.le_of_ble_eq_true rfl, Nat.le_of_ble_eq_true rfl⟩) hP hS hA (fun H locs hP hS => ?_)
    refine lv_icmp_lt (tgt := 17) hx hb d_L_counts_12 (by decide) (fun c3 => ?_) (fun c3 => ?_)
    · replace hM := it_t c3 hM
      refine lv_aload_n hx hb d_L_counts_17 rfl (lv_at hl 0 rfl) ?_
      refine va_get (D := D) (ci := 2) (v := .ref (ad 6)) (C := R_L) (T := T_L) (N := 4) hx hb hts in_L hown hK hP 0 rfl rfl 1 (by decide) (hts _ mm_101) (fun _ h9 => h9) rfl d_L_counts_18 ?_
      obtain ⟨v4, hq4, hM⟩ := bd_some hM
      refine fw_v (F := (cL cI cJ cZ ad)) (u := u) (res := v4) (va_runV (As := []) (rest := []) ⟨hx, hb, hml, hown, hts⟩ (c_S_clear l D cI cJ cZ ad H.size u v4 hq4) (cwV 0 hts (gV mm_151 mm_152 mm_153 mm_29 mm_154) rfl rfl rfl hd_S_clear ⟨Nat.le_of_ble_eq_true rfl, Nat.le_of_ble_eq_true rfl⟩) (pv_ (F := (cL cI cJ cZ ad)) (u := u) hK hP hD (va_recv hK hP (ci := 1) (q0 := 6) rfl rfl)) rfl rfl hl.1 rfl (lv_room (Nat.le_of_ble_eq_true rfl)) d_L_counts_21 ⟨Nat.le_of_ble_eq_true rfl, Nat.le_of_ble_eq_true rfl⟩) hS (fa_ hD hS hA) (fun H locs hP hD hS => ?_)
      refine lv_iconst (v := (0 : Int32)) hx hb d_L_counts_24 (by decide) ?_
      refine lv_istore_n (lv' := [(2, .int (0 : Int32)), (0, .ref (ad 0)), (1, .int x1)]) hx hb d_L_counts_25 rfl hl (by decide) rfl (fun ls hl => ?_)
      exact w_L_counts_26 C FU x1 (0 : Int32) v4 H locs ls hP hD hS (lv_sub hl [1, 2, 0] rfl) hM
    · replace hM := it_f c3 hM
      refine lv_iconst (v := (-1 : Int32)) hx hb d_L_counts_15 (by decide) ?_
      obtain rfl := Option.some.inj hM
      exact W.iret (v := (-1 : Int32)) hx hb hr (fun t ht hW => ⟨⟨(-1 : Int32), u, rfl, rfl, by rw [ht]; exact hP, va_K.moved hW.alike hK, hD⟩, hS.F ht⟩) hS.2.2 d_L_counts_16
end
set_option maxRecDepth 100000 in
theorem c_L_counts (l : Launch) (D : va_G) (cI cJ cZ : ClassId) (ad : Nat → Nat) (sz : Nat) (x1 : Int32) (u : Lib) (res : (Int32 × Lib)) (hM : B_L_counts_0 x1 u = some res) : Met l y_L_counts ws_L_counts rm_L_counts (va_Pc [.ref (ad 0), .int x1] (pr_ D cl9 (tyy cI cJ cZ) (cL cI cJ cZ ad) u sz)) (Qwi D cl9 (tyy cI cJ cZ) (cL cI cJ cZ ad) (va_A ((cL cI cJ cZ ad) u) sz) res) 0 0 (va_A ((cL cI cJ cZ ad) u) sz) := by
  refine Met.ofW (cc := prog_1_method_3_code) (maxL := 3) (ret := (Option.some FieldType.int)) (by decide) rfl ?_
  intro p e s m args below meth c s₁ B hml hv
  obtain ⟨rfl, hsz, hP, hK, hD0⟩ := hv
  subst hsz
  have hts0 := atoms_spec (ws := ws_L_counts) B.pre
  have hl := lv_entry ([.ref (ad 0), .int x1]) (n := 3) (Nat.le_of_ble_eq_true rfl)
  rw [lg_entry_eq]
  generalize (lg_sl ([.ref (ad 0), .int x1]) ++ List.replicate (3 - (lg_sl ([.ref (ad 0), .int x1])).length) Slot.unset).toArray = ls at hl ⊢
  exact w_L_counts_0 ⟨B.exec, B.bytes, B.returns, hml, findClass_of_methodNamed B.named, fun w h => hts0 w (List.mem_cons_of_mem _ h), B.notSynchronized, hK, fun q h => Or.inr h⟩ x1 u s.heap [] ls hP hD0.self va_S.rf hl hM
section
variable {p : Program} {l : Launch} {e : Env} {s : State} {m : MethodId} {args : Array Value} {below : List Frame} {meth : Method} {c : Code} {D : va_G} {cI cJ cZ : ClassId} {A : Nat → Prop} {ad : Nat → Nat}
set_option maxHeartbeats 4000000 in
set_option maxRecDepth 100000 in
theorem w_L_events_0 {res : Int32} (C : Cx p s m args meth c prog_1_method_4_code 1 (Option.some FieldType.int) "PlainLibrary" tb D cl9 (tyy cI cJ cZ) A) (u : Lib) (H : Heap) (locs : List Loc) (ls : Array Slot) (hP : va_P D cl9 ((cL cI cJ cZ ad) u) H) (hD : va_D (fun _ => True) ((cL cI cJ cZ ad) u)) (hS : va_S A s.heap H locs) (hl : lv_has ls 1 [(0, .ref (ad 0))]) (hM : B_L_events_0 u = some res) : W p l e rm_L_events s m args below meth c H locs 0 0 (MQ below (Qri A res) args s 0 0 A) (F0 m 0 ls []) := by
  have C0 := C
  obtain ⟨hx, hb, hr, hml, hown, hts, hlocks, hK, hA⟩ := C
  replace C := C0
  unfold B_L_events_0 at hM
  refine lv_aload_n hx hb d_L_events_0 rfl (lv_at hl 0 rfl) ?_
  refine va_get (D := D) (ci := 2) (v := .ref (ad 1)) (C := R_L) (T := T_L) (N := 4) hx hb hts in_L hown hK hP 0 rfl rfl 0 (by decide) (hts _ mm_100) (fun _ h9 => h9) rfl d_L_events_1 ?_
  obtain ⟨v1, hq1, hM⟩ := bd_some hM
  refine fr_i (res := v1) (va_runV (As := []) (rest := []) ⟨hx, hb, hml, hown, hts⟩ (c_R_size l D cI cJ cZ ad H.size u v1 hq1) (cwV 0 hts (gV mm_143 mm_144 mm_145 mm_28 mm_146) rfl rfl rfl hd_R_size ⟨Nat.le_of_ble_eq_true rfl, Nat.le_of_ble_eq_true rfl⟩) (pv_ (F := (cL cI cJ cZ ad)) (u := u) hK hP hD (va_recv hK hP (ci := 0) (q0 := 1) rfl rfl)) rfl rfl hl.1 rfl (lv_room (Nat.le_of_ble_eq_true rfl)) d_L_events_4 ⟨Nat.le_of_ble_eq_true rfl, Nat.le_of_ble_eq_true rfl⟩) hP hS hA (fun H locs hP hS => ?_)
  obtain rfl := Option.some.inj hM
  exact W.iret (v := v1) hx hb hr (fun t ht hW => ⟨⟨v1, (), rfl, rfl, trivial⟩, hS.F ht⟩) hS.2.2 d_L_events_7
end
set_option maxRecDepth 100000 in
theorem c_L_events (l : Launch) (D : va_G) (cI cJ cZ : ClassId) (ad : Nat → Nat) (sz : Nat) (u : Lib) (res : Int32) (hM : B_L_events_0 u = some res) : Met l y_L_events ws_L_events rm_L_events (va_Pc [.ref (ad 0)] (pr_ D cl9 (tyy cI cJ cZ) (cL cI cJ cZ ad) u sz)) (Qri (va_A [] sz) res) 0 0 (va_A [] sz) := by
  refine Met.ofW (cc := prog_1_method_4_code) (maxL := 1) (ret := (Option.some FieldType.int)) (by decide) rfl ?_
  intro p e s m args below meth c s₁ B hml hv
  obtain ⟨rfl, hsz, hP, hK, hD0⟩ := hv
  subst hsz
  have hts0 := atoms_spec (ws := ws_L_events) B.pre
  have hl := lv_entry ([.ref (ad 0)]) (n := 1) (Nat.le_of_ble_eq_true rfl)
  rw [lg_entry_eq]
  generalize (lg_sl ([.ref (ad 0)]) ++ List.replicate (1 - (lg_sl ([.ref (ad 0)])).length) Slot.unset).toArray = ls at hl ⊢
  exact w_L_events_0 ⟨B.exec, B.bytes, B.returns, hml, findClass_of_methodNamed B.named, fun w h => hts0 w (List.mem_cons_of_mem _ h), B.notSynchronized, hK, fun q h => Or.inr h⟩ u s.heap [] ls hP hD0 va_S.rf hl hM
section
variable {p : Program} {l : Launch} {e : Env} {s : State} {m : MethodId} {args : Array Value} {below : List Frame} {meth : Method} {c : Code} {D : va_G} {cI cJ cZ : ClassId} {A : Nat → Prop} {ad : Nat → Nat}
set_option maxHeartbeats 4000000 in
set_option maxRecDepth 100000 in
theorem w_L_refused_40 {k11 : Int32 → Int32 → Lib → Option (Int32 × Lib)} {res : (Int32 × Lib)} (C : Cx p s m args meth c prog_1_method_5_code 3 (Option.some FieldType.int) "PlainLibrary" tb D cl9 (tyy cI cJ cZ) A) (hk11 : ∀ (x1 : Int32) (x2 : Int32) (u : Lib) (H : Heap) (locs : List Loc) (ls : Array Slot), va_P D cl9 ((cL cI cJ cZ ad) u) H → va_D A ((cL cI cJ cZ ad) u) → va_S A s.heap H locs → lv_has ls 3 [(0, .ref (ad 0)), (1, .int x1), (2, .int x2)] → k11 x1 x2 u = some res → W p l e rm_L_refused s m args below meth c H locs 0 0 (MQ below (Qwi D cl9 (tyy cI cJ cZ) (cL cI cJ cZ ad) A res) args s 0 0 A) (F0 m 11 ls [])) (x1 : Int32) (x2 : Int32) (u : Lib) (H : Heap) (locs : List Loc) (ls : Array Slot) (hP : va_P D cl9 ((cL cI cJ cZ ad) u) H) (hD : va_D A ((cL cI cJ cZ ad) u)) (hS : va_S A s.heap H locs) (hl : lv_has ls 3 [(0, .ref (ad 0)), (1, .int x1), (2, .int x2)]) (hM : B_L_refused_40 k11 x1 x2 u = some res) : W p l e rm_L_refused s m args below meth c H locs 0 0 (MQ below (Qwi D cl9 (tyy cI cJ cZ) (cL cI cJ cZ ad) A res) args s 0 0 A) (F0 m 40 ls []) := by
  have C0 := C
  obtain ⟨hx, hb, hr, hml, hown, hts, hlocks, hK, hA⟩ := C
  replace C := C0
  unfold B_L_refused_40 at hM
  refine lv_iinc (v := (x2 + (1 : Int32))) (lv' := [(2, .int (x2 + (1 : Int32))), (0, .ref (ad 0)), (1, .int x1)]) hx hb d_L_refused_40 hl (k := 2) rfl rfl (by decide) rfl (fun ls hl => ?_)
  refine lv_goto (tgt := 11) hx hb d_L_refused_43 (by decide) ?_
  exact hk11 x1 (x2 + (1 : Int32)) u H locs ls hP hD hS (lv_sub hl [1, 2, 0] rfl) hM
set_option maxHeartbeats 4000000 in
set_option maxRecDepth 100000 in
theorem w_L_refused_11s {res : (Int32 × Lib)} (C : Cx p s m args meth c prog_1_method_5_code 3 (Option.some FieldType.int) "PlainLibrary" tb D cl9 (tyy cI cJ cZ) A) {k11 : Int32 → Int32 → Lib → Option (Int32 × Lib)} (hk11 : ∀ (x1 : Int32) (x2 : Int32) (u : Lib) (H : Heap) (locs : List Loc) (ls : Array Slot), va_P D cl9 ((cL cI cJ cZ ad) u) H → va_D A ((cL cI cJ cZ ad) u) → va_S A s.heap H locs → lv_has ls 3 [(0, .ref (ad 0)), (1, .int x1), (2, .int x2)] → k11 x1 x2 u = some res → W p l e rm_L_refused s m args below meth c H locs 0 0 (MQ below (Qwi D cl9 (tyy cI cJ cZ) (cL cI cJ cZ ad) A res) args s 0 0 A) (F0 m 11 ls [])) (x1 : Int32) (x2 : Int32) (u : Lib) (H : Heap) (locs : List Loc) (ls : Array Slot) (hP : va_P D cl9 ((cL cI cJ cZ ad) u) H) (hD : va_D A ((cL cI cJ cZ ad) u)) (hS : va_S A s.heap H locs) (hl : lv_has ls 3 [(0, .ref (ad 0)), (1, .int x1), (2, .int x2)]) (hM : B_L_refused_11s k11 x1 x2 u = some res) : W p l e rm_L_refused s m args below meth c H locs 0 0 (MQ below (Qwi D cl9 (tyy cI cJ cZ) (cL cI cJ cZ ad) A res) args s 0 0 A) (F0 m 11 ls []) := by
  have C0 := C
  obtain ⟨hx, hb, hr, hml, hown, hts, hlocks, hK, hA⟩ := C
  replace C := C0
  unfold B_L_refused_11s at hM
  refine lv_iload_n hx hb d_L_refused_11 rfl (lv_at hl 2 rfl) ?_
  refine lv_aload_n hx hb d_L_refused_12 rfl (lv_at hl 0 rfl) ?_
  refine va_get (D := D) (ci := 2) (v := .ref (ad 1)) (C := R_L) (T := T_L) (N := 4) hx hb hts in_L hown hK hP 0 rfl rfl 0 (by decide) (hts _ mm_100) (fun _ h9 => h9) rfl d_L_refused_13 ?_
  obtain ⟨v1, hq1, hM⟩ := bd_some hM
  refine fr_i (res := v1) (va_runV (As := []) (rest := [.int x2]) ⟨hx, hb, hml, hown, hts⟩ (c_R_size l D cI cJ cZ ad H.size u v1 hq1) (cwV 0 hts (gV mm_143 mm_144 mm_145 mm_28 mm_146) rfl rfl rfl hd_R_size ⟨Nat.le_of_ble_eq_true rfl, Nat.le_of_ble_eq_true rfl⟩) (pv_ (F := (cL cI cJ cZ ad)) (u := u) hK hP hD (va_recv hK hP (ci := 0) (q0 := 1) rfl rfl)) rfl rfl hl.1 rfl (lv_room (Nat.le_of_ble_eq_true rfl)) d_L_refused_16 ⟨Nat.le_of_ble_eq_true rfl, Nat.le_of_ble_eq_true rfl⟩) hP hS hA (fun H locs hP hS => ?_)
  refine lv_icmp_ge (tgt := 46) hx hb d_L_refused_19 (by decide) (fun c2 => ?_) (fun c2 => ?_)
  · replace hM := it_t c2 hM
    refine lv_iload_n hx hb d_L_refused_46 rfl (lv_at hl 1 rfl) ?_
    obtain rfl := Option.some.inj hM
    exact W.iret (v := x1) hx hb hr (fun t ht hW => ⟨⟨x1, u, rfl, rfl, by rw [ht]; exact hP, va_K.moved hW.alike hK, hD⟩, hS.F ht⟩) hS.2.2 d_L_refused_47
  · replace hM := it_f c2 hM
    refine lv_aload_n hx hb d_L_refused_22 rfl (lv_at hl 0 rfl) ?_
    refine va_get (D := D) (ci := 2) (v := .ref (ad 1)) (C := R_L) (T := T_L) (N := 4) hx hb hts in_L hown hK hP 0 rfl rfl 0 (by decide) (hts _ mm_100) (fun _ h9 => h9) rfl d_L_refused_23 ?_
    refine lv_iload_n hx hb d_L_refused_26 rfl (lv_at hl 2 rfl) ?_
    refine lv_aload_n hx hb d_L_refused_27 rfl (lv_at hl 0 rfl) ?_
    refine va_get (D := D) (ci := 2) (v := .ref (ad 6)) (C := R_L) (T := T_L) (N := 4) hx hb hts in_L hown hK hP 0 rfl rfl 1 (by decide) (hts _ mm_101) (fun _ h9 => h9) rfl d_L_refused_28 ?_
    obtain ⟨v3, hq3, hM⟩ := bd_some hM
    refine fw_i (F := (cL cI cJ cZ ad)) (u := u) (res := v3) (va_runV (As := [.int x2, .ref (ad 6)]) (rest := []) ⟨hx, hb, hml, hown, hts⟩ (c_R_perform l D cI cJ cZ ad H.size x2 u v3 hq3) (cwV 2 hts (gV mm_161 mm_162 mm_163 mm_28 mm_164) rfl rfl rfl hd_R_perform ⟨Nat.le_of_ble_eq_true rfl, Nat.le_of_ble_eq_true rfl⟩) (pv_ (F := (cL cI cJ cZ ad)) (u := u) hK hP hD (va_recv hK hP (ci := 0) (q0 := 1) rfl rfl)) rfl rfl hl.1 rfl (lv_room (Nat.le_of_ble_eq_true rfl)) d_L_refused_31 ⟨Nat.le_of_ble_eq_true rfl, Nat.le_of_ble_eq_true rfl⟩) hS (fa_ hD hS hA) (fun H locs hP hD hS => ?_)
    refine lv_if_ne (tgt := 40) hx hb d_L_refused_34 (by decide) (fun c4 => ?_) (fun c4 => ?_)
    · replace hM := it_f c4 hM
      exact w_L_refused_40 C hk11 x1 x2 v3.2 H locs ls hP hD hS (lv_sub hl [0, 1, 2] rfl) hM
    · replace hM := it_t c4 hM
      refine lv_iinc (v := (x1 + (1 : Int32))) (lv' := [(1, .int (x1 + (1 : Int32))), (0, .ref (ad 0)), (2, .int x2)]) hx hb d_L_refused_37 hl (k := 1) rfl rfl (by decide) rfl (fun ls hl => ?_)
      exact w_L_refused_40 C hk11 (x1 + (1 : Int32)) x2 v3.2 H locs ls hP hD hS (lv_sub hl [1, 0, 2] rfl) hM
theorem w_L_refused_11 {res : (Int32 × Lib)} (C : Cx p s m args meth c prog_1_method_5_code 3 (Option.some FieldType.int) "PlainLibrary" tb D cl9 (tyy cI cJ cZ) A) : ∀ (fu : Nat) (x1 : Int32) (x2 : Int32) (u : Lib) (H : Heap) (locs : List Loc) (ls : Array Slot), va_P D cl9 ((cL cI cJ cZ ad) u) H → va_D A ((cL cI cJ cZ ad) u) → va_S A s.heap H locs → lv_has ls 3 [(0, .ref (ad 0)), (1, .int x1), (2, .int x2)] → B_L_refused_11 fu x1 x2 u = some res → W p l e rm_L_refused s m args below meth c H locs 0 0 (MQ below (Qwi D cl9 (tyy cI cJ cZ) (cL cI cJ cZ ad) A res) args s 0 0 A) (F0 m 11 ls []) := by
  intro fu
  induction fu with
  | zero =>
    intro x1 x2 u H locs ls hP hD hS hl hM
    have hM : (none : Option (Int32 × Lib)) = some res := hM
    cases hM
  | succ fu ih =>
    intro x1 x2 u H locs ls hP hD hS hl hM
    exact w_L_refused_11s C ih x1 x2 u H locs ls hP hD hS hl hM
set_option maxHeartbeats 4000000 in
set_option maxRecDepth 100000 in
theorem w_L_refused_0 {res : (Int32 × Lib)} (C : Cx p s m args meth c prog_1_method_5_code 3 (Option.some FieldType.int) "PlainLibrary" tb D cl9 (tyy cI cJ cZ) A) (u : Lib) (H : Heap) (locs : List Loc) (ls : Array Slot) (hP : va_P D cl9 ((cL cI cJ cZ ad) u) H) (hD : va_D A ((cL cI cJ cZ ad) u)) (hS : va_S A s.heap H locs) (hl : lv_has ls 3 [(0, .ref (ad 0))]) (hM : B_L_refused_0 u = some res) : W p l e rm_L_refused s m args below meth c H locs 0 0 (MQ below (Qwi D cl9 (tyy cI cJ cZ) (cL cI cJ cZ ad) A res) args s 0 0 A) (F0 m 0 ls []) := by
  have C0 := C
  obtain ⟨hx, hb, hr, hml, hown, hts, hlocks, hK, hA⟩ := C
  replace C := C0
  unfold B_L_refused_0 at hM
  refine lv_iconst (v := (0 : Int32)) hx hb d_L_refused_0 (by decide) ?_
  refine lv_istore_n (lv' := [(1, .int (0 : Int32)), (0, .ref (ad 0))]) hx hb d_L_refused_1 rfl hl (by decide) rfl (fun ls hl => ?_)
  refine lv_aload_n hx hb d_L_refused_2 rfl (lv_at hl 1 rfl) ?_
  refine va_get (D := D) (ci := 2) (v := .ref (ad 6)) (C := R_L) (T := T_L) (N := 4) hx hb hts in_L hown hK hP 0 rfl rfl 1 (by decide) (hts _ mm_101) (fun _ h9 => h9) rfl d_L_refused_3 ?_
  obtain ⟨v1, hq1, hM⟩ := bd_some hM
  refine fw_v (F := (cL cI cJ cZ ad)) (u := u) (res := v1) (va_runV (As := []) (rest := []) ⟨hx, hb, hml, hown, hts⟩ (c_S_clear l D cI cJ cZ ad H.size u v1 hq1) (cwV 0 hts (gV mm_151 mm_152 mm_153 mm_29 mm_154) rfl rfl rfl hd_S_clear ⟨Nat.le_of_ble_eq_true rfl, Nat.le_of_ble_eq_true rfl⟩) (pv_ (F := (cL cI cJ cZ ad)) (u := u) hK hP hD (va_recv hK hP (ci := 1) (q0 := 6) rfl rfl)) rfl rfl hl.1 rfl (lv_room (Nat.le_of_ble_eq_true rfl)) d_L_refused_6 ⟨Nat.le_of_ble_eq_true rfl, Nat.le_of_ble_eq_true rfl⟩) hS (fa_ hD hS hA) (fun H locs hP hD hS => ?_)
  refine lv_iconst (v := (0 : Int32)) hx hb d_L_refused_9 (by decide) ?_
  refine lv_istore_n (lv' := [(2, .int (0 : Int32)), (1, .int (0 : Int32)), (0, .ref (ad 0))]) hx hb d_L_refused_10 rfl hl (by decide) rfl (fun ls hl => ?_)
  exact w_L_refused_11 C FU (0 : Int32) (0 : Int32) v1 H locs ls hP hD hS (lv_sub hl [2, 1, 0] rfl) hM
end
set_option maxRecDepth 100000 in
theorem c_L_refused (l : Launch) (D : va_G) (cI cJ cZ : ClassId) (ad : Nat → Nat) (sz : Nat) (u : Lib) (res : (Int32 × Lib)) (hM : B_L_refused_0 u = some res) : Met l y_L_refused ws_L_refused rm_L_refused (va_Pc [.ref (ad 0)] (pr_ D cl9 (tyy cI cJ cZ) (cL cI cJ cZ ad) u sz)) (Qwi D cl9 (tyy cI cJ cZ) (cL cI cJ cZ ad) (va_A ((cL cI cJ cZ ad) u) sz) res) 0 0 (va_A ((cL cI cJ cZ ad) u) sz) := by
  refine Met.ofW (cc := prog_1_method_5_code) (maxL := 3) (ret := (Option.some FieldType.int)) (by decide) rfl ?_
  intro p e s m args below meth c s₁ B hml hv
  obtain ⟨rfl, hsz, hP, hK, hD0⟩ := hv
  subst hsz
  have hts0 := atoms_spec (ws := ws_L_refused) B.pre
  have hl := lv_entry ([.ref (ad 0)]) (n := 3) (Nat.le_of_ble_eq_true rfl)
  rw [lg_entry_eq]
  generalize (lg_sl ([.ref (ad 0)]) ++ List.replicate (3 - (lg_sl ([.ref (ad 0)])).length) Slot.unset).toArray = ls at hl ⊢
  exact w_L_refused_0 ⟨B.exec, B.bytes, B.returns, hml, findClass_of_methodNamed B.named, fun w h => hts0 w (List.mem_cons_of_mem _ h), B.notSynchronized, hK, fun q h => Or.inr h⟩ u s.heap [] ls hP hD0.self va_S.rf hl hM
section
variable {p : Program} {l : Launch} {e : Env} {s : State} {m : MethodId} {args : Array Value} {below : List Frame} {meth : Method} {c : Code} {D : va_G} {cI cJ cZ : ClassId} {A : Nat → Prop} {ad : Nat → Nat}
set_option maxHeartbeats 4000000 in
set_option maxRecDepth 100000 in
theorem w_L_performUpTo_9s {res : Lib} (C : Cx p s m args meth c prog_1_method_20_code 4 (Option.none : Option FieldType) "PlainLibrary" tb D cl9 (tyy cI cJ cZ) A) {k9 : Int64 → Int32 → Lib → Option Lib} (hk9 : ∀ (y1 : Int64) (x3 : Int32) (u : Lib) (H : Heap) (locs : List Loc) (ls : Array Slot), va_P D cl9 ((cL cI cJ cZ ad) u) H → va_D A ((cL cI cJ cZ ad) u) → va_S A s.heap H locs → lv_has ls 4 [(0, .ref (ad 0)), (1, .long y1), (3, .int x3)] → k9 y1 x3 u = some res → W p l e rm_L_performUpTo s m args below meth c H locs 0 0 (MQ below (Qwv D cl9 (tyy cI cJ cZ) (cL cI cJ cZ ad) A res) args s 0 0 A) (F0 m 9 ls [])) (y1 : Int64) (x3 : Int32) (u : Lib) (H : Heap) (locs : List Loc) (ls : Array Slot) (hP : va_P D cl9 ((cL cI cJ cZ ad) u) H) (hD : va_D A ((cL cI cJ cZ ad) u)) (hS : va_S A s.heap H locs) (hl : lv_has ls 4 [(0, .ref (ad 0)), (1, .long y1), (3, .int x3)]) (hM : B_L_performUpTo_9s k9 y1 x3 u = some res) : W p l e rm_L_performUpTo s m args below meth c H locs 0 0 (MQ below (Qwv D cl9 (tyy cI cJ cZ) (cL cI cJ cZ ad) A res) args s 0 0 A) (F0 m 9 ls []) := by
  have C0 := C
  obtain ⟨hx, hb, hr, hml, hown, hts, hlocks, hK, hA⟩ := C
  replace C := C0
  unfold B_L_performUpTo_9s at hM
  refine lv_iload_n hx hb d_L_performUpTo_9 rfl (lv_at hl 2 rfl) ?_
  refine lv_aload_n hx hb d_L_performUpTo_10 rfl (lv_at hl 0 rfl) ?_
  refine va_get (D := D) (ci := 2) (v := .ref (ad 1)) (C := R_L) (T := T_L) (N := 4) hx hb hts in_L hown hK hP 0 rfl rfl 0 (by decide) (hts _ mm_100) (fun _ h9 => h9) rfl d_L_performUpTo_11 ?_
  obtain ⟨v1, hq1, hM⟩ := bd_some hM
  refine fr_i (res := v1) (va_runV (As := []) (rest := [.int x3]) ⟨hx, hb, hml, hown, hts⟩ (c_R_size l D cI cJ cZ ad H.size u v1 hq1) (cwV 0 hts (gV mm_143 mm_144 mm_145 mm_28 mm_146) rfl rfl rfl hd_R_size ⟨Nat.le_of_ble_eq_true rfl, Nat.le_of_ble_eq_true rfl⟩) (pv_ (F := (cL cI cJ cZ ad)) (u := u) hK hP hD (va_recv hK hP (ci := 0) (q0 := 1) rfl rfl)) rfl rfl hl.1 rfl (lv_room (Nat.le_of_ble_eq_true rfl)) d_L_performUpTo_14 ⟨Nat.le_of_ble_eq_true rfl, Nat.le_of_ble_eq_true rfl⟩) hP hS hA (fun H locs hP hS => ?_)
  refine lv_icmp_ge (tgt := 52) hx hb d_L_performUpTo_17 (by decide) (fun c2 => ?_) (fun c2 => ?_)
  · replace hM := it_t c2 hM
    obtain rfl := Option.some.inj hM
    exact W.vret hx hb hr (fun t ht hW => ⟨⟨u, rfl, rfl, by rw [ht]; exact hP, va_K.moved hW.alike hK, hD⟩, hS.F ht⟩) hS.2.2 d_L_performUpTo_52
  · replace hM := it_f c2 hM
    refine lv_aload_n hx hb d_L_performUpTo_20 rfl (lv_at hl 0 rfl) ?_
    refine va_get (D := D) (ci := 2) (v := .ref (ad 1)) (C := R_L) (T := T_L) (N := 4) hx hb hts in_L hown hK hP 0 rfl rfl 0 (by decide) (hts _ mm_100) (fun _ h9 => h9) rfl d_L_performUpTo_21 ?_
    refine lv_iload_n hx hb d_L_performUpTo_24 rfl (lv_at hl 2 rfl) ?_
    obtain ⟨v3, hq3, hM⟩ := bd_some hM
    refine fr_l (res := v3) (va_runV (As := [.int x3]) (rest := []) ⟨hx, hb, hml, hown, hts⟩ (c_R_dayOf l D cI cJ cZ ad H.size x3 u v3 hq3) (cwV 1 hts (gV mm_241 mm_242 mm_243 mm_28 mm_244) rfl rfl rfl hd_R_dayOf ⟨Nat.le_of_ble_eq_true rfl, Nat.le_of_ble_eq_true rfl⟩) (pv_ (F := (cL cI cJ cZ ad)) (u := u) hK hP hD (va_recv hK hP (ci := 0) (q0 := 1) rfl rfl)) rfl rfl hl.1 rfl (lv_room (Nat.le_of_ble_eq_true rfl)) d_L_performUpTo_25 ⟨Nat.le_of_ble_eq_true rfl, Nat.le_of_ble_eq_true rfl⟩) hP hS hA (fun H locs hP hS => ?_)
    refine lv_lload_n hx hb d_L_performUpTo_28 rfl (lv_at hl 1 rfl) ?_
    refine W.lcmp hx hb d_L_performUpTo_29 ?_
    refine lv_if_gt (tgt := 52) hx hb d_L_performUpTo_30 (by decide) (fun c4 => ?_) (fun c4 => ?_)
    · replace hM := it_t c4 hM
      obtain rfl := Option.some.inj hM
      exact W.vret hx hb hr (fun t ht hW => ⟨⟨u, rfl, rfl, by rw [ht]; exact hP, va_K.moved hW.alike hK, hD⟩, hS.F ht⟩) hS.2.2 d_L_performUpTo_52
    · replace hM := it_f c4 hM
      refine lv_aload_n hx hb d_L_performUpTo_33 rfl (lv_at hl 0 rfl) ?_
      refine va_get (D := D) (ci := 2) (v := .ref (ad 1)) (C := R_L) (T := T_L) (N := 4) hx hb hts in_L hown hK hP 0 rfl rfl 0 (by decide) (hts _ mm_100) (fun _ h9 => h9) rfl d_L_performUpTo_34 ?_
      refine lv_iload_n hx hb d_L_performUpTo_37 rfl (lv_at hl 2 rfl) ?_
      refine lv_aload_n hx hb d_L_performUpTo_38 rfl (lv_at hl 0 rfl) ?_
      refine va_get (D := D) (ci := 2) (v := .ref (ad 6)) (C := R_L) (T := T_L) (N := 4) hx hb hts in_L hown hK hP 0 rfl rfl 1 (by decide) (hts _ mm_101) (fun _ h9 => h9) rfl d_L_performUpTo_39 ?_
      obtain ⟨v5, hq5, hM⟩ := bd_some hM
      refine fw_i (F := (cL cI cJ cZ ad)) (u := u) (res := v5) (va_runV (As := [.int x3, .ref (ad 6)]) (rest := []) ⟨hx, hb, hml, hown, hts⟩ (c_R_perform l D cI cJ cZ ad H.size x3 u v5 hq5) (cwV 2 hts (gV mm_161 mm_162 mm_163 mm_28 mm_164) rfl rfl rfl hd_R_perform ⟨Nat.le_of_ble_eq_true rfl, Nat.le_of_ble_eq_true rfl⟩) (pv_ (F := (cL cI cJ cZ ad)) (u := u) hK hP hD (va_recv hK hP (ci := 0) (q0 := 1) rfl rfl)) rfl rfl hl.1 rfl (lv_room (Nat.le_of_ble_eq_true rfl)) d_L_performUpTo_42 ⟨Nat.le_of_ble_eq_true rfl, Nat.le_of_ble_eq_true rfl⟩) hS (fa_ hD hS hA) (fun H locs hP hD hS => ?_)
      refine lv_pop hx hb d_L_performUpTo_45 rfl ?_
      refine lv_iinc (v := (x3 + (1 : Int32))) (lv' := [(3, .int (x3 + (1 : Int32))), (0, .ref (ad 0)), (1, .long y1)]) hx hb d_L_performUpTo_46 hl (k := 2) rfl rfl (by decide) rfl (fun ls hl => ?_)
      refine lv_goto (tgt := 9) hx hb d_L_performUpTo_49 (by decide) ?_
      exact hk9 y1 (x3 + (1 : Int32)) v5.2 H locs ls hP hD hS (lv_sub hl [1, 2, 0] rfl) hM
theorem w_L_performUpTo_9 {res : Lib} (C : Cx p s m args meth c prog_1_method_20_code 4 (Option.none : Option FieldType) "PlainLibrary" tb D cl9 (tyy cI cJ cZ) A) : ∀ (fu : Nat) (y1 : Int64) (x3 : Int32) (u : Lib) (H : Heap) (locs : List Loc) (ls : Array Slot), va_P D cl9 ((cL cI cJ cZ ad) u) H → va_D A ((cL cI cJ cZ ad) u) → va_S A s.heap H locs → lv_has ls 4 [(0, .ref (ad 0)), (1, .long y1), (3, .int x3)] → B_L_performUpTo_9 fu y1 x3 u = some res → W p l e rm_L_performUpTo s m args below meth c H locs 0 0 (MQ below (Qwv D cl9 (tyy cI cJ cZ) (cL cI cJ cZ ad) A res) args s 0 0 A) (F0 m 9 ls []) := by
  intro fu
  induction fu with
  | zero =>
    intro y1 x3 u H locs ls hP hD hS hl hM
    have hM : (none : Option Lib) = some res := hM
    cases hM
  | succ fu ih =>
    intro y1 x3 u H locs ls hP hD hS hl hM
    exact w_L_performUpTo_9s C ih y1 x3 u H locs ls hP hD hS hl hM
set_option maxHeartbeats 4000000 in
set_option maxRecDepth 100000 in
theorem w_L_performUpTo_0 {res : Lib} (C : Cx p s m args meth c prog_1_method_20_code 4 (Option.none : Option FieldType) "PlainLibrary" tb D cl9 (tyy cI cJ cZ) A) (y1 : Int64) (u : Lib) (H : Heap) (locs : List Loc) (ls : Array Slot) (hP : va_P D cl9 ((cL cI cJ cZ ad) u) H) (hD : va_D A ((cL cI cJ cZ ad) u)) (hS : va_S A s.heap H locs) (hl : lv_has ls 4 [(0, .ref (ad 0)), (1, .long y1)]) (hM : B_L_performUpTo_0 y1 u = some res) : W p l e rm_L_performUpTo s m args below meth c H locs 0 0 (MQ below (Qwv D cl9 (tyy cI cJ cZ) (cL cI cJ cZ ad) A res) args s 0 0 A) (F0 m 0 ls []) := by
  have C0 := C
  obtain ⟨hx, hb, hr, hml, hown, hts, hlocks, hK, hA⟩ := C
  replace C := C0
  unfold B_L_performUpTo_0 at hM
  refine lv_aload_n hx hb d_L_performUpTo_0 rfl (lv_at hl 0 rfl) ?_
  refine va_get (D := D) (ci := 2) (v := .ref (ad 6)) (C := R_L) (T := T_L) (N := 4) hx hb hts in_L hown hK hP 0 rfl rfl 1 (by decide) (hts _ mm_101) (fun _ h9 => h9) rfl d_L_performUpTo_1 ?_
  obtain ⟨v1, hq1, hM⟩ := bd_some hM
  refine fw_v (F := (cL cI cJ cZ ad)) (u := u) (res := v1) (va_runV (As := []) (rest := []) ⟨hx, hb, hml, hown, hts⟩ (c_S_clear l D cI cJ cZ ad H.size u v1 hq1) (cwV 0 hts (gV mm_151 mm_152 mm_153 mm_29 mm_154) rfl rfl rfl hd_S_clear ⟨Nat.le_of_ble_eq_true rfl, Nat.le_of_ble_eq_true rfl⟩) (pv_ (F := (cL cI cJ cZ ad)) (u := u) hK hP hD (va_recv hK hP (ci := 1) (q0 := 6) rfl rfl)) rfl rfl hl.1 rfl (lv_room (Nat.le_of_ble_eq_true rfl)) d_L_performUpTo_4 ⟨Nat.le_of_ble_eq_true rfl, Nat.le_of_ble_eq_true rfl⟩) hS (fa_ hD hS hA) (fun H locs hP hD hS => ?_)
  refine lv_iconst (v := (0 : Int32)) hx hb d_L_performUpTo_7 (by decide) ?_
  refine lv_istore_n (lv' := [(3, .int (0 : Int32)), (0, .ref (ad 0)), (1, .long y1)]) hx hb d_L_performUpTo_8 rfl hl (by decide) rfl (fun ls hl => ?_)
  exact w_L_performUpTo_9 C FU y1 (0 : Int32) v1 H locs ls hP hD hS (lv_sub hl [1, 2, 0] rfl) hM
end
set_option maxRecDepth 100000 in
theorem c_L_performUpTo (l : Launch) (D : va_G) (cI cJ cZ : ClassId) (ad : Nat → Nat) (sz : Nat) (y1 : Int64) (u : Lib) (res : Lib) (hM : B_L_performUpTo_0 y1 u = some res) : Met l y_L_performUpTo ws_L_performUpTo rm_L_performUpTo (va_Pc [.ref (ad 0), .long y1] (pr_ D cl9 (tyy cI cJ cZ) (cL cI cJ cZ ad) u sz)) (Qwv D cl9 (tyy cI cJ cZ) (cL cI cJ cZ ad) (va_A ((cL cI cJ cZ ad) u) sz) res) 0 0 (va_A ((cL cI cJ cZ ad) u) sz) := by
  refine Met.ofW (cc := prog_1_method_20_code) (maxL := 4) (ret := (Option.none : Option FieldType)) (by decide) rfl ?_
  intro p e s m args below meth c s₁ B hml hv
  obtain ⟨rfl, hsz, hP, hK, hD0⟩ := hv
  subst hsz
  have hts0 := atoms_spec (ws := ws_L_performUpTo) B.pre
  have hl := lv_entry ([.ref (ad 0), .long y1]) (n := 4) (Nat.le_of_ble_eq_true rfl)
  rw [lg_entry_eq]
  generalize (lg_sl ([.ref (ad 0), .long y1]) ++ List.replicate (4 - (lg_sl ([.ref (ad 0), .long y1])).length) Slot.unset).toArray = ls at hl ⊢
  exact w_L_performUpTo_0 ⟨B.exec, B.bytes, B.returns, hml, findClass_of_methodNamed B.named, fun w h => hts0 w (List.mem_cons_of_mem _ h), B.notSynchronized, hK, fun q h => Or.inr h⟩ y1 u s.heap [] ls hP hD0.self va_S.rf hl hM
section
variable {p : Program} {l : Launch} {e : Env} {s : State} {m : MethodId} {args : Array Value} {below : List Frame} {meth : Method} {c : Code} {D : va_G} {cI cJ cZ : ClassId} {A : Nat → Prop} {ad : Nat → Nat}
set_option maxHeartbeats 4000000 in
set_option maxRecDepth 100000 in
theorem w_L_state_0 {res : (Int32 × Lib)} (C : Cx p s m args meth c prog_1_method_6_code 5 (Option.some FieldType.int) "PlainLibrary" tb D cl9 (tyy cI cJ cZ) A) (x1 : Int32) (x2 : Int32) (y3 : Int64) (u : Lib) (H : Heap) (locs : List Loc) (ls : Array Slot) (hP : va_P D cl9 ((cL cI cJ cZ ad) u) H) (hD : va_D A ((cL cI cJ cZ ad) u)) (hS : va_S A s.heap H locs) (hl : lv_has ls 5 [(0, .ref (ad 0)), (1, .int x1), (2, .int x2), (3, .long y3)]) (hM : B_L_state_0 x1 x2 y3 u = some res) : W p l e rm_L_state s m args below meth c H locs 0 0 (MQ below (Qwi D cl9 (tyy cI cJ cZ) (cL cI cJ cZ ad) A res) args s 0 0 A) (F0 m 0 ls []) := by
  have C0 := C
  obtain ⟨hx, hb, hr, hml, hown, hts, hlocks, hK, hA⟩ := C
  replace C := C0
  unfold B_L_state_0 at hM
  refine lv_iload_n hx hb d_L_state_0 rfl (lv_at hl 2 rfl) ?_
  refine lv_i2l (v := x2.toInt64) hx hb d_L_state_1 rfl ?_
  obtain ⟨v1, hq1, hM⟩ := bd_some hM
  refine fr_i (res := v1) (va_runS (As := [.long (x2.toInt64)]) (rest := []) ⟨hx, hb, hml, hown, hts⟩ (c_L_isNumber l D cI cJ cZ H.size (x2.toInt64) v1 hq1) (va_cwS 1 hts (gS mm_124 mm_125 mm_27 mm_126) rfl rfl rfl hs_L_isNumber ⟨Nat.le_of_ble_eq_true rfl, Nat.le_of_ble_eq_true rfl⟩) (ps_ (F := nW) (u := ()) hK nP (nD (A := fun _ => True))) rfl rfl hl.1 rfl (lv_room (Nat.le_of_ble_eq_true rfl)) d_L_state_2 ⟨Nat.le_of_ble_eq_true rfl, Nat.le_of_ble_eq_true rfl⟩) hP hS hA (fun H locs hP hS => ?_)
  refine lv_if_ne (tgt := 10) hx hb d_L_state_5 (by decide) (fun c2 => ?_) (fun c2 => ?_)
  · replace hM := it_f c2 hM
    refine lv_aload_n hx hb d_L_state_10 rfl (lv_at hl 0 rfl) ?_
    refine lv_lload_n hx hb d_L_state_11 rfl (lv_at hl 3 rfl) ?_
    obtain ⟨v3, hq3, hM⟩ := bd_some hM
    refine fw_v (F := (cL cI cJ cZ ad)) (u := u) (res := v3) (va_runV (As := [.long y3]) (rest := []) ⟨hx, hb, hml, hown, hts⟩ (c_L_performUpTo l D cI cJ cZ ad H.size y3 u v3 hq3) (cwV 1 hts (gV mm_237 mm_239 (ms_ 10 rfl rfl) mm_27 mm_240) rfl rfl rfl hd_L_performUpTo ⟨Nat.le_of_ble_eq_true rfl, Nat.le_of_ble_eq_true rfl⟩) (pv_ (F := (cL cI cJ cZ ad)) (u := u) hK hP hD (va_recv hK hP (ci := 2) (q0 := 0) rfl rfl)) rfl rfl hl.1 rfl (lv_room (Nat.le_of_ble_eq_true rfl)) d_L_state_12 ⟨Nat.le_of_ble_eq_true rfl, Nat.le_of_ble_eq_true rfl⟩) hS (fa_ hD hS hA) (fun H locs hP hD hS => ?_)
    refine lv_iload_n hx hb d_L_state_15 rfl (lv_at hl 1 rfl) ?_
    by_cases c4 : x1 = (0 : Int32)
    · replace hM := it_t c4 hM
      refine lv_tableIn (off := 32) (tgt := 48) hx hb d_L_state_16 (by rw [c4]; decide) (by rw [c4]; decide) (by rw [c4]; rfl) (by decide) ?_
      refine lv_aload_n hx hb d_L_state_48 rfl (lv_at hl 0 rfl) ?_
      refine va_get (D := D) (ci := 2) (v := .ref (ad 6)) (C := R_L) (T := T_L) (N := 4) hx hb hts in_L hown hK hP 0 rfl rfl 1 (by decide) (hts _ mm_101) (fun _ h9 => h9) rfl d_L_state_49 ?_
      refine lv_iload_n hx hb d_L_state_52 rfl (lv_at hl 2 rfl) ?_
      obtain ⟨v5, hq5, hM⟩ := bd_some hM
      refine fr_i (res := v5) (va_runV (As := [.int x2]) (rest := []) ⟨hx, hb, hml, hown, hts⟩ (c_S_recordOf l D cI cJ cZ ad H.size x2 v3 v5 hq5) (cwV 1 hts (gV mm_245 mm_246 mm_247 mm_29 mm_248) rfl rfl rfl hd_S_recordOf ⟨Nat.le_of_ble_eq_true rfl, Nat.le_of_ble_eq_true rfl⟩) (pv_ (F := (cL cI cJ cZ ad)) (u := v3) hK hP hD (va_recv hK hP (ci := 1) (q0 := 6) rfl rfl)) rfl rfl hl.1 rfl (lv_room (Nat.le_of_ble_eq_true rfl)) d_L_state_53 ⟨Nat.le_of_ble_eq_true rfl, Nat.le_of_ble_eq_true rfl⟩) hP hS hA (fun H locs hP hS => ?_)
      obtain rfl := Option.some.inj hM
      exact W.iret (v := v5) hx hb hr (fun t ht hW => ⟨⟨v5, v3, rfl, rfl, by rw [ht]; exact hP, va_K.moved hW.alike hK, hD⟩, hS.F ht⟩) hS.2.2 d_L_state_56
    replace hM := it_f c4 hM
    by_cases c6 : x1 = (1 : Int32)
    · replace hM := it_t c6 hM
      refine lv_tableIn (off := 41) (tgt := 57) hx hb d_L_state_16 (by rw [c6]; decide) (by rw [c6]; decide) (by rw [c6]; rfl) (by decide) ?_
      refine lv_aload_n hx hb d_L_state_57 rfl (lv_at hl 0 rfl) ?_
      refine va_get (D := D) (ci := 2) (v := .ref (ad 6)) (C := R_L) (T := T_L) (N := 4) hx hb hts in_L hown hK hP 0 rfl rfl 1 (by decide) (hts _ mm_101) (fun _ h9 => h9) rfl d_L_state_58 ?_
      refine lv_iload_n hx hb d_L_state_61 rfl (lv_at hl 2 rfl) ?_
      obtain ⟨v7, hq7, hM⟩ := bd_some hM
      refine fr_i (res := v7) (va_runV (As := [.int x2]) (rest := []) ⟨hx, hb, hml, hown, hts⟩ (c_S_personWith l D cI cJ cZ ad H.size x2 v3 v7 hq7) (cwV 1 hts (gV mm_249 mm_250 mm_251 mm_29 mm_252) rfl rfl rfl hd_S_personWith ⟨Nat.le_of_ble_eq_true rfl, Nat.le_of_ble_eq_true rfl⟩) (pv_ (F := (cL cI cJ cZ ad)) (u := v3) hK hP hD (va_recv hK hP (ci := 1) (q0 := 6) rfl rfl)) rfl rfl hl.1 rfl (lv_room (Nat.le_of_ble_eq_true rfl)) d_L_state_62 ⟨Nat.le_of_ble_eq_true rfl, Nat.le_of_ble_eq_true rfl⟩) hP hS hA (fun H locs hP hS => ?_)
      obtain rfl := Option.some.inj hM
      exact W.iret (v := v7) hx hb hr (fun t ht hW => ⟨⟨v7, v3, rfl, rfl, by rw [ht]; exact hP, va_K.moved hW.alike hK, hD⟩, hS.F ht⟩) hS.2.2 d_L_state_65
    replace hM := it_f c6 hM
    by_cases c8 : x1 = (2 : Int32)
    · replace hM := it_t c8 hM
      refine lv_tableIn (off := 50) (tgt := 66) hx hb d_L_state_16 (by rw [c8]; decide) (by rw [c8]; decide) (by rw [c8]; rfl) (by decide) ?_
      refine lv_aload_n hx hb d_L_state_66 rfl (lv_at hl 0 rfl) ?_
      refine va_get (D := D) (ci := 2) (v := .ref (ad 6)) (C := R_L) (T := T_L) (N := 4) hx hb hts in_L hown hK hP 0 rfl rfl 1 (by decide) (hts _ mm_101) (fun _ h9 => h9) rfl d_L_state_67 ?_
      refine lv_iload_n hx hb d_L_state_70 rfl (lv_at hl 2 rfl) ?_
      obtain ⟨v9, hq9, hM⟩ := bd_some hM
      refine fr_i (res := v9) (va_runV (As := [.int x2]) (rest := []) ⟨hx, hb, hml, hown, hts⟩ (c_S_classOf l D cI cJ cZ ad H.size x2 v3 v9 hq9) (cwV 1 hts (gV mm_253 mm_254 mm_255 mm_29 mm_256) rfl rfl rfl hd_S_classOf ⟨Nat.le_of_ble_eq_true rfl, Nat.le_of_ble_eq_true rfl⟩) (pv_ (F := (cL cI cJ cZ ad)) (u := v3) hK hP hD (va_recv hK hP (ci := 1) (q0 := 6) rfl rfl)) rfl rfl hl.1 rfl (lv_room (Nat.le_of_ble_eq_true rfl)) d_L_state_71 ⟨Nat.le_of_ble_eq_true rfl, Nat.le_of_ble_eq_true rfl⟩) hP hS hA (fun H locs hP hS => ?_)
      obtain rfl := Option.some.inj hM
      exact W.iret (v := v9) hx hb hr (fun t ht hW => ⟨⟨v9, v3, rfl, rfl, by rw [ht]; exact hP, va_K.moved hW.alike hK, hD⟩, hS.F ht⟩) hS.2.2 d_L_state_74
    replace hM := it_f c8 hM
    by_cases c10 : x1 = (3 : Int32)
    · replace hM := it_t c10 hM
      refine lv_tableIn (off := 59) (tgt := 75) hx hb d_L_state_16 (by rw [c10]; decide) (by rw [c10]; decide) (by rw [c10]; rfl) (by decide) ?_
      refine lv_aload_n hx hb d_L_state_75 rfl (lv_at hl 0 rfl) ?_
      refine va_get (D := D) (ci := 2) (v := .ref (ad 6)) (C := R_L) (T := T_L) (N := 4) hx hb hts in_L hown hK hP 0 rfl rfl 1 (by decide) (hts _ mm_101) (fun _ h9 => h9) rfl d_L_state_76 ?_
      refine lv_iload_n hx hb d_L_state_79 rfl (lv_at hl 2 rfl) ?_
      obtain ⟨v11, hq11, hM⟩ := bd_some hM
      refine fr_i (res := v11) (va_runV (As := [.int x2]) (rest := []) ⟨hx, hb, hml, hown, hts⟩ (c_S_copiesThereOf l D cI cJ cZ ad H.size x2 v3 v11 hq11) (cwV 1 hts (gV mm_257 mm_258 mm_259 mm_29 mm_260) rfl rfl rfl hd_S_copiesThereOf ⟨Nat.le_of_ble_eq_true rfl, Nat.le_of_ble_eq_true rfl⟩) (pv_ (F := (cL cI cJ cZ ad)) (u := v3) hK hP hD (va_recv hK hP (ci := 1) (q0 := 6) rfl rfl)) rfl rfl hl.1 rfl (lv_room (Nat.le_of_ble_eq_true rfl)) d_L_state_80 ⟨Nat.le_of_ble_eq_true rfl, Nat.le_of_ble_eq_true rfl⟩) hP hS hA (fun H locs hP hS => ?_)
      obtain rfl := Option.some.inj hM
      exact W.iret (v := v11) hx hb hr (fun t ht hW => ⟨⟨v11, v3, rfl, rfl, by rw [ht]; exact hP, va_K.moved hW.alike hK, hD⟩, hS.F ht⟩) hS.2.2 d_L_state_83
    replace hM := it_f c10 hM
    have nc4 := lv_neT c4 (a := 0) (by decide)
    have nc6 := lv_neT c6 (a := 1) (by decide)
    have nc8 := lv_neT c8 (a := 2) (by decide)
    have nc10 := lv_neT c10 (a := 3) (by decide)
    refine lv_tableOut (tgt := 84) hx hb d_L_state_16 (by omega) (by decide) ?_
    refine lv_iconst (v := (-1 : Int32)) hx hb d_L_state_84 (by decide) ?_
    obtain rfl := Option.some.inj hM
    exact W.iret (v := (-1 : Int32)) hx hb hr (fun t ht hW => ⟨⟨(-1 : Int32), v3, rfl, rfl, by rw [ht]; exact hP, va_K.moved hW.alike hK, hD⟩, hS.F ht⟩) hS.2.2 d_L_state_85
  · replace hM := it_t c2 hM
    refine lv_iconst (v := (-1 : Int32)) hx hb d_L_state_8 (by decide) ?_
    obtain rfl := Option.some.inj hM
    exact W.iret (v := (-1 : Int32)) hx hb hr (fun t ht hW => ⟨⟨(-1 : Int32), u, rfl, rfl, by rw [ht]; exact hP, va_K.moved hW.alike hK, hD⟩, hS.F ht⟩) hS.2.2 d_L_state_9
end
set_option maxRecDepth 100000 in
theorem c_L_state (l : Launch) (D : va_G) (cI cJ cZ : ClassId) (ad : Nat → Nat) (sz : Nat) (x1 : Int32) (x2 : Int32) (y3 : Int64) (u : Lib) (res : (Int32 × Lib)) (hM : B_L_state_0 x1 x2 y3 u = some res) : Met l y_L_state ws_L_state rm_L_state (va_Pc [.ref (ad 0), .int x1, .int x2, .long y3] (pr_ D cl9 (tyy cI cJ cZ) (cL cI cJ cZ ad) u sz)) (Qwi D cl9 (tyy cI cJ cZ) (cL cI cJ cZ ad) (va_A ((cL cI cJ cZ ad) u) sz) res) 0 0 (va_A ((cL cI cJ cZ ad) u) sz) := by
  refine Met.ofW (cc := prog_1_method_6_code) (maxL := 5) (ret := (Option.some FieldType.int)) (by decide) rfl ?_
  intro p e s m args below meth c s₁ B hml hv
  obtain ⟨rfl, hsz, hP, hK, hD0⟩ := hv
  subst hsz
  have hts0 := atoms_spec (ws := ws_L_state) B.pre
  have hl := lv_entry ([.ref (ad 0), .int x1, .int x2, .long y3]) (n := 5) (Nat.le_of_ble_eq_true rfl)
  rw [lg_entry_eq]
  generalize (lg_sl ([.ref (ad 0), .int x1, .int x2, .long y3]) ++ List.replicate (5 - (lg_sl ([.ref (ad 0), .int x1, .int x2, .long y3])).length) Slot.unset).toArray = ls at hl ⊢
  exact w_L_state_0 ⟨B.exec, B.bytes, B.returns, hml, findClass_of_methodNamed B.named, fun w h => hts0 w (List.mem_cons_of_mem _ h), B.notSynchronized, hK, fun q h => Or.inr h⟩ x1 x2 y3 u s.heap [] ls hP hD0.self va_S.rf hl hM
section
variable {p : Program} {l : Launch} {e : Env} {s : State} {m : MethodId} {args : Array Value} {below : List Frame} {meth : Method} {c : Code} {D : va_G} {cI cJ cZ : ClassId} {A : Nat → Prop} {ad : Nat → Nat}
set_option maxHeartbeats 4000000 in
set_option maxRecDepth 100000 in
theorem w_L_performAll_0 {res : Lib} (C : Cx p s m args meth c prog_1_method_19_code 1 (Option.none : Option FieldType) "PlainLibrary" tb D cl9 (tyy cI cJ cZ) A) (u : Lib) (H : Heap) (locs : List Loc) (ls : Array Slot) (hP : va_P D cl9 ((cL cI cJ cZ ad) u) H) (hD : va_D A ((cL cI cJ cZ ad) u)) (hS : va_S A s.heap H locs) (hl : lv_has ls 1 [(0, .ref (ad 0))]) (hM : B_L_performAll_0 u = some res) : W p l e rm_L_performAll s m args below meth c H locs 0 0 (MQ below (Qwv D cl9 (tyy cI cJ cZ) (cL cI cJ cZ ad) A res) args s 0 0 A) (F0 m 0 ls []) := by
  have C0 := C
  obtain ⟨hx, hb, hr, hml, hown, hts, hlocks, hK, hA⟩ := C
  replace C := C0
  unfold B_L_performAll_0 at hM
  refine lv_aload_n hx hb d_L_performAll_0 rfl (lv_at hl 0 rfl) ?_
  refine lv_ldc2 (v := (1000000 : Int64)) hx hb hown (hts _ mm_117) d_L_performAll_1 ?_
  obtain ⟨v1, hq1, hM⟩ := bd_some hM
  refine fw_v (F := (cL cI cJ cZ ad)) (u := u) (res := v1) (va_runV (As := [.long (1000000 : Int64)]) (rest := []) ⟨hx, hb, hml, hown, hts⟩ (c_L_performUpTo l D cI cJ cZ ad H.size (1000000 : Int64) u v1 hq1) (cwV 1 hts (gV mm_237 mm_239 (ms_ 10 rfl rfl) mm_27 mm_240) rfl rfl rfl hd_L_performUpTo ⟨Nat.le_of_ble_eq_true rfl, Nat.le_of_ble_eq_true rfl⟩) (pv_ (F := (cL cI cJ cZ ad)) (u := u) hK hP hD (va_recv hK hP (ci := 2) (q0 := 0) rfl rfl)) rfl rfl hl.1 rfl (lv_room (Nat.le_of_ble_eq_true rfl)) d_L_performAll_4 ⟨Nat.le_of_ble_eq_true rfl, Nat.le_of_ble_eq_true rfl⟩) hS (fa_ hD hS hA) (fun H locs hP hD hS => ?_)
  obtain rfl := Option.some.inj hM
  exact W.vret hx hb hr (fun t ht hW => ⟨⟨v1, rfl, rfl, by rw [ht]; exact hP, va_K.moved hW.alike hK, hD⟩, hS.F ht⟩) hS.2.2 d_L_performAll_7
end
set_option maxRecDepth 100000 in
theorem c_L_performAll (l : Launch) (D : va_G) (cI cJ cZ : ClassId) (ad : Nat → Nat) (sz : Nat) (u : Lib) (res : Lib) (hM : B_L_performAll_0 u = some res) : Met l y_L_performAll ws_L_performAll rm_L_performAll (va_Pc [.ref (ad 0)] (pr_ D cl9 (tyy cI cJ cZ) (cL cI cJ cZ ad) u sz)) (Qwv D cl9 (tyy cI cJ cZ) (cL cI cJ cZ ad) (va_A ((cL cI cJ cZ ad) u) sz) res) 0 0 (va_A ((cL cI cJ cZ ad) u) sz) := by
  refine Met.ofW (cc := prog_1_method_19_code) (maxL := 1) (ret := (Option.none : Option FieldType)) (by decide) rfl ?_
  intro p e s m args below meth c s₁ B hml hv
  obtain ⟨rfl, hsz, hP, hK, hD0⟩ := hv
  subst hsz
  have hts0 := atoms_spec (ws := ws_L_performAll) B.pre
  have hl := lv_entry ([.ref (ad 0)]) (n := 1) (Nat.le_of_ble_eq_true rfl)
  rw [lg_entry_eq]
  generalize (lg_sl ([.ref (ad 0)]) ++ List.replicate (1 - (lg_sl ([.ref (ad 0)])).length) Slot.unset).toArray = ls at hl ⊢
  exact w_L_performAll_0 ⟨B.exec, B.bytes, B.returns, hml, findClass_of_methodNamed B.named, fun w h => hts0 w (List.mem_cons_of_mem _ h), B.notSynchronized, hK, fun q h => Or.inr h⟩ u s.heap [] ls hP hD0.self va_S.rf hl hM
section
variable {p : Program} {l : Launch} {e : Env} {s : State} {m : MethodId} {args : Array Value} {below : List Frame} {meth : Method} {c : Code} {D : va_G} {cI cJ cZ : ClassId} {A : Nat → Prop} {ad : Nat → Nat}
set_option maxHeartbeats 4000000 in
set_option maxRecDepth 100000 in
theorem w_L_heading_0 {res : (Int32 × Lib)} (C : Cx p s m args meth c prog_1_method_7_code 3 (Option.some FieldType.int) "PlainLibrary" tb D cl9 (tyy cI cJ cZ) A) (x1 : Int32) (x2 : Int32) (u : Lib) (H : Heap) (locs : List Loc) (ls : Array Slot) (hP : va_P D cl9 ((cL cI cJ cZ ad) u) H) (hD : va_D A ((cL cI cJ cZ ad) u)) (hS : va_S A s.heap H locs) (hl : lv_has ls 3 [(0, .ref (ad 0)), (1, .int x1), (2, .int x2)]) (hM : B_L_heading_0 x1 x2 u = some res) : W p l e rm_L_heading s m args below meth c H locs 0 0 (MQ below (Qwi D cl9 (tyy cI cJ cZ) (cL cI cJ cZ ad) A res) args s 0 0 A) (F0 m 0 ls []) := by
  have C0 := C
  obtain ⟨hx, hb, hr, hml, hown, hts, hlocks, hK, hA⟩ := C
  replace C := C0
  unfold B_L_heading_0 at hM
  refine lv_iload_n hx hb d_L_heading_0 rfl (lv_at hl 1 rfl) ?_
  refine lv_i2l (v := x1.toInt64) hx hb d_L_heading_1 rfl ?_
  obtain ⟨v1, hq1, hM⟩ := bd_some hM
  refine fr_i (res := v1) (va_runS (As := [.long (x1.toInt64)]) (rest := []) ⟨hx, hb, hml, hown, hts⟩ (c_L_isNumber l D cI cJ cZ H.size (x1.toInt64) v1 hq1) (va_cwS 1 hts (gS mm_124 mm_125 mm_27 mm_126) rfl rfl rfl hs_L_isNumber ⟨Nat.le_of_ble_eq_true rfl, Nat.le_of_ble_eq_true rfl⟩) (ps_ (F := nW) (u := ()) hK nP (nD (A := fun _ => True))) rfl rfl hl.1 rfl (lv_room (Nat.le_of_ble_eq_true rfl)) d_L_heading_2 ⟨Nat.le_of_ble_eq_true rfl, Nat.le_of_ble_eq_true rfl⟩) hP hS hA (fun H locs hP hS => ?_)
  refine lv_if_eq (tgt := 12) hx hb d_L_heading_5 (by decide) (fun c2 => ?_) (fun c2 => ?_)
  · replace hM := it_t c2 hM
    refine lv_iconst (v := (-1 : Int32)) hx hb d_L_heading_12 (by decide) ?_
    obtain rfl := Option.some.inj hM
    exact W.iret (v := (-1 : Int32)) hx hb hr (fun t ht hW => ⟨⟨(-1 : Int32), u, rfl, rfl, by rw [ht]; exact hP, va_K.moved hW.alike hK, hD⟩, hS.F ht⟩) hS.2.2 d_L_heading_13
  · replace hM := it_f c2 hM
    refine lv_iload_n hx hb d_L_heading_8 rfl (lv_at hl 2 rfl) ?_
    refine lv_if_ge (tgt := 14) hx hb d_L_heading_9 (by decide) (fun c3 => ?_) (fun c3 => ?_)
    · replace hM := it_t c3 hM
      refine lv_aload_n hx hb d_L_heading_14 rfl (lv_at hl 0 rfl) ?_
      obtain ⟨v4, hq4, hM⟩ := bd_some hM
      refine fw_v (F := (cL cI cJ cZ ad)) (u := u) (res := v4) (va_runV (As := []) (rest := []) ⟨hx, hb, hml, hown, hts⟩ (c_L_performAll l D cI cJ cZ ad H.size u v4 hq4) (cwV 0 hts (gV mm_265 mm_267 (ms_ 11 rfl rfl) mm_27 mm_268) rfl rfl rfl hd_L_performAll ⟨Nat.le_of_ble_eq_true rfl, Nat.le_of_ble_eq_true rfl⟩) (pv_ (F := (cL cI cJ cZ ad)) (u := u) hK hP hD (va_recv hK hP (ci := 2) (q0 := 0) rfl rfl)) rfl rfl hl.1 rfl (lv_room (Nat.le_of_ble_eq_true rfl)) d_L_heading_15 ⟨Nat.le_of_ble_eq_true rfl, Nat.le_of_ble_eq_true rfl⟩) hS (fa_ hD hS hA) (fun H locs hP hD hS => ?_)
      refine lv_aload_n hx hb d_L_heading_18 rfl (lv_at hl 0 rfl) ?_
      refine va_get (D := D) (ci := 2) (v := .ref (ad 6)) (C := R_L) (T := T_L) (N := 4) hx hb hts in_L hown hK hP 0 rfl rfl 1 (by decide) (hts _ mm_101) (fun _ h9 => h9) rfl d_L_heading_19 ?_
      refine lv_iload_n hx hb d_L_heading_22 rfl (lv_at hl 1 rfl) ?_
      refine lv_iload_n hx hb d_L_heading_23 rfl (lv_at hl 2 rfl) ?_
      obtain ⟨v5, hq5, hM⟩ := bd_some hM
      refine fr_i (res := v5) (va_runV (As := [.int x1, .int x2]) (rest := []) ⟨hx, hb, hml, hown, hts⟩ (c_S_headingAt l D cI cJ cZ ad H.size x1 x2 v4 v5 hq5) (cwV 2 hts (gV mm_269 mm_270 mm_271 mm_29 mm_272) rfl rfl rfl hd_S_headingAt ⟨Nat.le_of_ble_eq_true rfl, Nat.le_of_ble_eq_true rfl⟩) (pv_ (F := (cL cI cJ cZ ad)) (u := v4) hK hP hD (va_recv hK hP (ci := 1) (q0 := 6) rfl rfl)) rfl rfl hl.1 rfl (lv_room (Nat.le_of_ble_eq_true rfl)) d_L_heading_24 ⟨Nat.le_of_ble_eq_true rfl, Nat.le_of_ble_eq_true rfl⟩) hP hS hA (fun H locs hP hS => ?_)
      obtain rfl := Option.some.inj hM
      exact W.iret (v := v5) hx hb hr (fun t ht hW => ⟨⟨v5, v4, rfl, rfl, by rw [ht]; exact hP, va_K.moved hW.alike hK, hD⟩, hS.F ht⟩) hS.2.2 d_L_heading_27
    · replace hM := it_f c3 hM
      refine lv_iconst (v := (-1 : Int32)) hx hb d_L_heading_12 (by decide) ?_
      obtain rfl := Option.some.inj hM
      exact W.iret (v := (-1 : Int32)) hx hb hr (fun t ht hW => ⟨⟨(-1 : Int32), u, rfl, rfl, by rw [ht]; exact hP, va_K.moved hW.alike hK, hD⟩, hS.F ht⟩) hS.2.2 d_L_heading_13
end
set_option maxRecDepth 100000 in
theorem c_L_heading (l : Launch) (D : va_G) (cI cJ cZ : ClassId) (ad : Nat → Nat) (sz : Nat) (x1 : Int32) (x2 : Int32) (u : Lib) (res : (Int32 × Lib)) (hM : B_L_heading_0 x1 x2 u = some res) : Met l y_L_heading ws_L_heading rm_L_heading (va_Pc [.ref (ad 0), .int x1, .int x2] (pr_ D cl9 (tyy cI cJ cZ) (cL cI cJ cZ ad) u sz)) (Qwi D cl9 (tyy cI cJ cZ) (cL cI cJ cZ ad) (va_A ((cL cI cJ cZ ad) u) sz) res) 0 0 (va_A ((cL cI cJ cZ ad) u) sz) := by
  refine Met.ofW (cc := prog_1_method_7_code) (maxL := 3) (ret := (Option.some FieldType.int)) (by decide) rfl ?_
  intro p e s m args below meth c s₁ B hml hv
  obtain ⟨rfl, hsz, hP, hK, hD0⟩ := hv
  subst hsz
  have hts0 := atoms_spec (ws := ws_L_heading) B.pre
  have hl := lv_entry ([.ref (ad 0), .int x1, .int x2]) (n := 3) (Nat.le_of_ble_eq_true rfl)
  rw [lg_entry_eq]
  generalize (lg_sl ([.ref (ad 0), .int x1, .int x2]) ++ List.replicate (3 - (lg_sl ([.ref (ad 0), .int x1, .int x2])).length) Slot.unset).toArray = ls at hl ⊢
  exact w_L_heading_0 ⟨B.exec, B.bytes, B.returns, hml, findClass_of_methodNamed B.named, fun w h => hts0 w (List.mem_cons_of_mem _ h), B.notSynchronized, hK, fun q h => Or.inr h⟩ x1 x2 u s.heap [] ls hP hD0.self va_S.rf hl hM
