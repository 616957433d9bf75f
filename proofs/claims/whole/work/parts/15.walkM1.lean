section
variable {p : Program} {l : Launch} {e : Env} {s : State} {m : MethodId} {args : Array Value} {below : List Frame} {meth : Method} {c : Code} {D : va_G} {cI cJ cZ : ClassId} {A : Nat → Prop}
set_option maxHeartbeats 4000000 in
set_option maxRecDepth 100000 in
theorem w_M_in_0 {res : Int32} (C : Cx p s m args meth c prog_5_method_3_code 6 (Option.some FieldType.boolean) "PlainLibraryModel" tb D cl9 (tyy cI cJ cZ) A) (y0 : Int64) (y2 : Int64) (y4 : Int64) (H : Heap) (locs : List Loc) (ls : Array Slot) (hP : va_P D cl9 (nW ()) H) (hD : va_D (fun _ => True) (nW ())) (hS : va_S A s.heap H locs) (hl : lv_has ls 6 [(0, .long y0), (2, .long y2), (4, .long y4)]) (hM : B_M_in_0 y0 y2 y4 = some res) : W p l e rm_M_in s m args below meth c H locs 0 0 (MQ below (Qri A res) args s 0 0 A) (F0 m 0 ls []) := by
  have C0 := C
  obtain ⟨hx, hb, hr, hml, hown, hts, hlocks, hK, hA⟩ := C
  replace C := C0
  unfold B_M_in_0 at hM
  refine lv_lload_n hx hb d_M_in_0 rfl (lv_at hl 0 rfl) ?_
  refine lv_lload_n hx hb d_M_in_1 rfl (lv_at hl 1 rfl) ?_
  refine W.lcmp hx hb d_M_in_2 ?_
  refine lv_if_lt (tgt := 17) hx hb d_M_in_3 (by decide) (fun c1 => ?_) (fun c1 => ?_)
  · replace hM := it_t c1 hM
    refine lv_iconst (v := (0 : Int32)) hx hb d_M_in_17 (by decide) ?_
    obtain rfl := Option.some.inj hM
    exact W.zret (v := (0 : Int32)) hx hb hr rfl (fun t ht hW => ⟨⟨(0 : Int32), (), rfl, rfl, trivial⟩, hS.F ht⟩) hS.2.2 d_M_in_18
  · replace hM := it_f c1 hM
    refine lv_lload_n hx hb d_M_in_6 rfl (lv_at hl 0 rfl) ?_
    refine lv_lload hx hb d_M_in_7 (lv_at hl 2 rfl) ?_
    refine W.lcmp hx hb d_M_in_9 ?_
    refine lv_if_gt (tgt := 17) hx hb d_M_in_10 (by decide) (fun c2 => ?_) (fun c2 => ?_)
    · replace hM := it_t c2 hM
      refine lv_iconst (v := (0 : Int32)) hx hb d_M_in_17 (by decide) ?_
      obtain rfl := Option.some.inj hM
      exact W.zret (v := (0 : Int32)) hx hb hr rfl (fun t ht hW => ⟨⟨(0 : Int32), (), rfl, rfl, trivial⟩, hS.F ht⟩) hS.2.2 d_M_in_18
    · replace hM := it_f c2 hM
      refine lv_iconst (v := (1 : Int32)) hx hb d_M_in_13 (by decide) ?_
      refine lv_goto (tgt := 18) hx hb d_M_in_14 (by decide) ?_
      obtain rfl := Option.some.inj hM
      exact W.zret (v := (1 : Int32)) hx hb hr rfl (fun t ht hW => ⟨⟨(1 : Int32), (), rfl, rfl, trivial⟩, hS.F ht⟩) hS.2.2 d_M_in_18
end
set_option maxRecDepth 100000 in
theorem c_M_in (l : Launch) (D : va_G) (cI cJ cZ : ClassId) (sz : Nat) (y0 : Int64) (y2 : Int64) (y4 : Int64) (res : Int32) (hM : B_M_in_0 y0 y2 y4 = some res) : Met l y_M_in ws_M_in rm_M_in (va_Pc [.long y0, .long y2, .long y4] (pr_ D cl9 (tyy cI cJ cZ) nW () sz)) (Qri (va_A [] sz) res) 0 0 (va_A [] sz) := by
  refine Met.ofW (cc := prog_5_method_3_code) (maxL := 6) (ret := (Option.some FieldType.boolean)) (by decide) rfl ?_
  intro p e s m args below meth c s₁ B hml hv
  obtain ⟨rfl, hsz, hP, hK, hD0⟩ := hv
  subst hsz
  have hts0 := atoms_spec (ws := ws_M_in) B.pre
  have hl := lv_entry ([.long y0, .long y2, .long y4]) (n := 6) (Nat.le_of_ble_eq_true rfl)
  rw [lg_entry_eq]
  generalize (lg_sl ([.long y0, .long y2, .long y4]) ++ List.replicate (6 - (lg_sl ([.long y0, .long y2, .long y4])).length) Slot.unset).toArray = ls at hl ⊢
  exact w_M_in_0 ⟨B.exec, B.bytes, B.returns, hml, findClass_of_methodNamed B.named, fun w h => hts0 w (List.mem_cons_of_mem _ h), B.notSynchronized, hK, fun q h => Or.inr h⟩ y0 y2 y4 s.heap [] ls hP hD0 va_S.rf hl hM
section
variable {p : Program} {l : Launch} {e : Env} {s : State} {m : MethodId} {args : Array Value} {below : List Frame} {meth : Method} {c : Code} {D : va_G} {cI cJ cZ : ClassId} {A : Nat → Prop}
set_option maxHeartbeats 4000000 in
set_option maxRecDepth 100000 in
theorem w_M_can_0 {res : Int32} (C : Cx p s m args meth c prog_5_method_4_code 5 (Option.some FieldType.boolean) "PlainLibraryModel" tb D cl9 (tyy cI cJ cZ) A) (x0 : Int32) (y1 : Int64) (y3 : Int64) (H : Heap) (locs : List Loc) (ls : Array Slot) (hP : va_P D cl9 (nW ()) H) (hD : va_D (fun _ => True) (nW ())) (hS : va_S A s.heap H locs) (hl : lv_has ls 5 [(0, .int x0), (1, .long y1), (3, .long y3)]) (hM : B_M_can_0 x0 y1 y3 = some res) : W p l e rm_M_can s m args below meth c H locs 0 0 (MQ below (Qri A res) args s 0 0 A) (F0 m 0 ls []) := by
  have C0 := C
  obtain ⟨hx, hb, hr, hml, hown, hts, hlocks, hK, hA⟩ := C
  replace C := C0
  unfold B_M_can_0 at hM
  refine lv_iload_n hx hb d_M_can_0 rfl (lv_at hl 0 rfl) ?_
  by_cases c1 : x0 = (0 : Int32)
  · replace hM := it_t c1 hM
    refine lv_tableIn (off := 59) (tgt := 60) hx hb d_M_can_1 (by rw [c1]; decide) (by rw [c1]; decide) (by rw [c1]; rfl) (by decide) ?_
    refine lv_lload_n hx hb d_M_can_60 rfl (lv_at hl 1 rfl) ?_
    refine lv_lconst (v := (1 : Int64)) hx hb d_M_can_61 (by decide) ?_
    refine lv_ldc2 (v := (20 : Int64)) hx hb hown (hts _ mm_421) d_M_can_62 ?_
    obtain ⟨v2, hq2, hM⟩ := bd_some hM
    refine fr_i (res := v2) (va_runS (As := [.long y1, .long (1 : Int64), .long (20 : Int64)]) (rest := []) ⟨hx, hb, hml, hown, hts⟩ (c_M_in l D cI cJ cZ H.size y1 (1 : Int64) (20 : Int64) v2 hq2) (va_cwS 3 hts (gS mm_422 mm_423 mm_30 mm_424) rfl rfl rfl hs_M_in ⟨Nat.le_of_ble_eq_true rfl, Nat.le_of_ble_eq_true rfl⟩) (ps_ (F := nW) (u := ()) hK nP (nD (A := fun _ => True))) rfl rfl hl.1 rfl (lv_room (Nat.le_of_ble_eq_true rfl)) d_M_can_65 ⟨Nat.le_of_ble_eq_true rfl, Nat.le_of_ble_eq_true rfl⟩) hP hS hA (fun H locs hP hS => ?_)
    refine lv_if_eq (tgt := 86) hx hb d_M_can_68 (by decide) (fun c3 => ?_) (fun c3 => ?_)
    · replace hM := it_t c3 hM
      refine lv_iconst (v := (0 : Int32)) hx hb d_M_can_86 (by decide) ?_
      obtain rfl := Option.some.inj hM
      exact W.zret (v := (0 : Int32)) hx hb hr rfl (fun t ht hW => ⟨⟨(0 : Int32), (), rfl, rfl, trivial⟩, hS.F ht⟩) hS.2.2 d_M_can_87
    · replace hM := it_f c3 hM
      refine lv_lload_n hx hb d_M_can_71 rfl (lv_at hl 2 rfl) ?_
      refine lv_lconst (v := (1 : Int64)) hx hb d_M_can_72 (by decide) ?_
      refine lv_ldc2 (v := (99 : Int64)) hx hb hown (hts _ mm_425) d_M_can_73 ?_
      obtain ⟨v4, hq4, hM⟩ := bd_some hM
      refine fr_i (res := v4) (va_runS (As := [.long y3, .long (1 : Int64), .long (99 : Int64)]) (rest := []) ⟨hx, hb, hml, hown, hts⟩ (c_M_in l D cI cJ cZ H.size y3 (1 : Int64) (99 : Int64) v4 hq4) (va_cwS 3 hts (gS mm_422 mm_423 mm_30 mm_424) rfl rfl rfl hs_M_in ⟨Nat.le_of_ble_eq_true rfl, Nat.le_of_ble_eq_true rfl⟩) (ps_ (F := nW) (u := ()) hK nP (nD (A := fun _ => True))) rfl rfl hl.1 rfl (lv_room (Nat.le_of_ble_eq_true rfl)) d_M_can_76 ⟨Nat.le_of_ble_eq_true rfl, Nat.le_of_ble_eq_true rfl⟩) hP hS hA (fun H locs hP hS => ?_)
      refine lv_if_eq (tgt := 86) hx hb d_M_can_79 (by decide) (fun c5 => ?_) (fun c5 => ?_)
      · replace hM := it_t c5 hM
        refine lv_iconst (v := (0 : Int32)) hx hb d_M_can_86 (by decide) ?_
        obtain rfl := Option.some.inj hM
        exact W.zret (v := (0 : Int32)) hx hb hr rfl (fun t ht hW => ⟨⟨(0 : Int32), (), rfl, rfl, trivial⟩, hS.F ht⟩) hS.2.2 d_M_can_87
      · replace hM := it_f c5 hM
        refine lv_iconst (v := (1 : Int32)) hx hb d_M_can_82 (by decide) ?_
        refine lv_goto (tgt := 87) hx hb d_M_can_83 (by decide) ?_
        obtain rfl := Option.some.inj hM
        exact W.zret (v := (1 : Int32)) hx hb hr rfl (fun t ht hW => ⟨⟨(1 : Int32), (), rfl, rfl, trivial⟩, hS.F ht⟩) hS.2.2 d_M_can_87
  replace hM := it_f c1 hM
  by_cases c6 : x0 = (1 : Int32)
  · replace hM := it_t c6 hM
    refine lv_tableIn (off := 59) (tgt := 60) hx hb d_M_can_1 (by rw [c6]; decide) (by rw [c6]; decide) (by rw [c6]; rfl) (by decide) ?_
    refine lv_lload_n hx hb d_M_can_60 rfl (lv_at hl 1 rfl) ?_
    refine lv_lconst (v := (1 : Int64)) hx hb d_M_can_61 (by decide) ?_
    refine lv_ldc2 (v := (20 : Int64)) hx hb hown (hts _ mm_421) d_M_can_62 ?_
    obtain ⟨v7, hq7, hM⟩ := bd_some hM
    refine fr_i (res := v7) (va_runS (As := [.long y1, .long (1 : Int64), .long (20 : Int64)]) (rest := []) ⟨hx, hb, hml, hown, hts⟩ (c_M_in l D cI cJ cZ H.size y1 (1 : Int64) (20 : Int64) v7 hq7) (va_cwS 3 hts (gS mm_422 mm_423 mm_30 mm_424) rfl rfl rfl hs_M_in ⟨Nat.le_of_ble_eq_true rfl, Nat.le_of_ble_eq_true rfl⟩) (ps_ (F := nW) (u := ()) hK nP (nD (A := fun _ => True))) rfl rfl hl.1 rfl (lv_room (Nat.le_of_ble_eq_true rfl)) d_M_can_65 ⟨Nat.le_of_ble_eq_true rfl, Nat.le_of_ble_eq_true rfl⟩) hP hS hA (fun H locs hP hS => ?_)
    refine lv_if_eq (tgt := 86) hx hb d_M_can_68 (by decide) (fun c8 => ?_) (fun c8 => ?_)
    · replace hM := it_t c8 hM
      refine lv_iconst (v := (0 : Int32)) hx hb d_M_can_86 (by decide) ?_
      obtain rfl := Option.some.inj hM
      exact W.zret (v := (0 : Int32)) hx hb hr rfl (fun t ht hW => ⟨⟨(0 : Int32), (), rfl, rfl, trivial⟩, hS.F ht⟩) hS.2.2 d_M_can_87
    · replace hM := it_f c8 hM
      refine lv_lload_n hx hb d_M_can_71 rfl (lv_at hl 2 rfl) ?_
      refine lv_lconst (v := (1 : Int64)) hx hb d_M_can_72 (by decide) ?_
      refine lv_ldc2 (v := (99 : Int64)) hx hb hown (hts _ mm_425) d_M_can_73 ?_
      obtain ⟨v9, hq9, hM⟩ := bd_some hM
      refine fr_i (res := v9) (va_runS (As := [.long y3, .long (1 : Int64), .long (99 : Int64)]) (rest := []) ⟨hx, hb, hml, hown, hts⟩ (c_M_in l D cI cJ cZ H.size y3 (1 : Int64) (99 : Int64) v9 hq9) (va_cwS 3 hts (gS mm_422 mm_423 mm_30 mm_424) rfl rfl rfl hs_M_in ⟨Nat.le_of_ble_eq_true rfl, Nat.le_of_ble_eq_true rfl⟩) (ps_ (F := nW) (u := ()) hK nP (nD (A := fun _ => True))) rfl rfl hl.1 rfl (lv_room (Nat.le_of_ble_eq_true rfl)) d_M_can_76 ⟨Nat.le_of_ble_eq_true rfl, Nat.le_of_ble_eq_true rfl⟩) hP hS hA (fun H locs hP hS => ?_)
      refine lv_if_eq (tgt := 86) hx hb d_M_can_79 (by decide) (fun c10 => ?_) (fun c10 => ?_)
      · replace hM := it_t c10 hM
        refine lv_iconst (v := (0 : Int32)) hx hb d_M_can_86 (by decide) ?_
        obtain rfl := Option.some.inj hM
        exact W.zret (v := (0 : Int32)) hx hb hr rfl (fun t ht hW => ⟨⟨(0 : Int32), (), rfl, rfl, trivial⟩, hS.F ht⟩) hS.2.2 d_M_can_87
      · replace hM := it_f c10 hM
        refine lv_iconst (v := (1 : Int32)) hx hb d_M_can_82 (by decide) ?_
        refine lv_goto (tgt := 87) hx hb d_M_can_83 (by decide) ?_
        obtain rfl := Option.some.inj hM
        exact W.zret (v := (1 : Int32)) hx hb hr rfl (fun t ht hW => ⟨⟨(1 : Int32), (), rfl, rfl, trivial⟩, hS.F ht⟩) hS.2.2 d_M_can_87
  replace hM := it_f c6 hM
  by_cases c11 : x0 = (2 : Int32)
  · replace hM := it_t c11 hM
    refine lv_tableIn (off := 87) (tgt := 88) hx hb d_M_can_1 (by rw [c11]; decide) (by rw [c11]; decide) (by rw [c11]; rfl) (by decide) ?_
    refine lv_lload_n hx hb d_M_can_88 rfl (lv_at hl 1 rfl) ?_
    refine lv_lconst (v := (1 : Int64)) hx hb d_M_can_89 (by decide) ?_
    refine lv_ldc2 (v := (20 : Int64)) hx hb hown (hts _ mm_421) d_M_can_90 ?_
    obtain ⟨v12, hq12, hM⟩ := bd_some hM
    refine fr_i (res := v12) (va_runS (As := [.long y1, .long (1 : Int64), .long (20 : Int64)]) (rest := []) ⟨hx, hb, hml, hown, hts⟩ (c_M_in l D cI cJ cZ H.size y1 (1 : Int64) (20 : Int64) v12 hq12) (va_cwS 3 hts (gS mm_422 mm_423 mm_30 mm_424) rfl rfl rfl hs_M_in ⟨Nat.le_of_ble_eq_true rfl, Nat.le_of_ble_eq_true rfl⟩) (ps_ (F := nW) (u := ()) hK nP (nD (A := fun _ => True))) rfl rfl hl.1 rfl (lv_room (Nat.le_of_ble_eq_true rfl)) d_M_can_93 ⟨Nat.le_of_ble_eq_true rfl, Nat.le_of_ble_eq_true rfl⟩) hP hS hA (fun H locs hP hS => ?_)
    refine lv_if_eq (tgt := 114) hx hb d_M_can_96 (by decide) (fun c13 => ?_) (fun c13 => ?_)
    · replace hM := it_t c13 hM
      refine lv_iconst (v := (0 : Int32)) hx hb d_M_can_114 (by decide) ?_
      obtain rfl := Option.some.inj hM
      exact W.zret (v := (0 : Int32)) hx hb hr rfl (fun t ht hW => ⟨⟨(0 : Int32), (), rfl, rfl, trivial⟩, hS.F ht⟩) hS.2.2 d_M_can_115
    · replace hM := it_f c13 hM
      refine lv_lload_n hx hb d_M_can_99 rfl (lv_at hl 2 rfl) ?_
      refine lv_lconst (v := (1 : Int64)) hx hb d_M_can_100 (by decide) ?_
      refine lv_ldc2 (v := (20 : Int64)) hx hb hown (hts _ mm_421) d_M_can_101 ?_
      obtain ⟨v14, hq14, hM⟩ := bd_some hM
      refine fr_i (res := v14) (va_runS (As := [.long y3, .long (1 : Int64), .long (20 : Int64)]) (rest := []) ⟨hx, hb, hml, hown, hts⟩ (c_M_in l D cI cJ cZ H.size y3 (1 : Int64) (20 : Int64) v14 hq14) (va_cwS 3 hts (gS mm_422 mm_423 mm_30 mm_424) rfl rfl rfl hs_M_in ⟨Nat.le_of_ble_eq_true rfl, Nat.le_of_ble_eq_true rfl⟩) (ps_ (F := nW) (u := ()) hK nP (nD (A := fun _ => True))) rfl rfl hl.1 rfl (lv_room (Nat.le_of_ble_eq_true rfl)) d_M_can_104 ⟨Nat.le_of_ble_eq_true rfl, Nat.le_of_ble_eq_true rfl⟩) hP hS hA (fun H locs hP hS => ?_)
      refine lv_if_eq (tgt := 114) hx hb d_M_can_107 (by decide) (fun c15 => ?_) (fun c15 => ?_)
      · replace hM := it_t c15 hM
        refine lv_iconst (v := (0 : Int32)) hx hb d_M_can_114 (by decide) ?_
        obtain rfl := Option.some.inj hM
        exact W.zret (v := (0 : Int32)) hx hb hr rfl (fun t ht hW => ⟨⟨(0 : Int32), (), rfl, rfl, trivial⟩, hS.F ht⟩) hS.2.2 d_M_can_115
      · replace hM := it_f c15 hM
        refine lv_iconst (v := (1 : Int32)) hx hb d_M_can_110 (by decide) ?_
        refine lv_goto (tgt := 115) hx hb d_M_can_111 (by decide) ?_
        obtain rfl := Option.some.inj hM
        exact W.zret (v := (1 : Int32)) hx hb hr rfl (fun t ht hW => ⟨⟨(1 : Int32), (), rfl, rfl, trivial⟩, hS.F ht⟩) hS.2.2 d_M_can_115
  replace hM := it_f c11 hM
  by_cases c16 : x0 = (3 : Int32)
  · replace hM := it_t c16 hM
    refine lv_tableIn (off := 87) (tgt := 88) hx hb d_M_can_1 (by rw [c16]; decide) (by rw [c16]; decide) (by rw [c16]; rfl) (by decide) ?_
    refine lv_lload_n hx hb d_M_can_88 rfl (lv_at hl 1 rfl) ?_
    refine lv_lconst (v := (1 : Int64)) hx hb d_M_can_89 (by decide) ?_
    refine lv_ldc2 (v := (20 : Int64)) hx hb hown (hts _ mm_421) d_M_can_90 ?_
    obtain ⟨v17, hq17, hM⟩ := bd_some hM
    refine fr_i (res := v17) (va_runS (As := [.long y1, .long (1 : Int64), .long (20 : Int64)]) (rest := []) ⟨hx, hb, hml, hown, hts⟩ (c_M_in l D cI cJ cZ H.size y1 (1 : Int64) (20 : Int64) v17 hq17) (va_cwS 3 hts (gS mm_422 mm_423 mm_30 mm_424) rfl rfl rfl hs_M_in ⟨Nat.le_of_ble_eq_true rfl, Nat.le_of_ble_eq_true rfl⟩) (ps_ (F := nW) (u := ()) hK nP (nD (A := fun _ => True))) rfl rfl hl.1 rfl (lv_room (Nat.le_of_ble_eq_true rfl)) d_M_can_93 ⟨Nat.le_of_ble_eq_true rfl, Nat.le_of_ble_eq_true rfl⟩) hP hS hA (fun H locs hP hS => ?_)
    refine lv_if_eq (tgt := 114) hx hb d_M_can_96 (by decide) (fun c18 => ?_) (fun c18 => ?_)
    · replace hM := it_t c18 hM
      refine lv_iconst (v := (0 : Int32)) hx hb d_M_can_114 (by decide) ?_
      obtain rfl := Option.some.inj hM
      exact W.zret (v := (0 : Int32)) hx hb hr rfl (fun t ht hW => ⟨⟨(0 : Int32), (), rfl, rfl, trivial⟩, hS.F ht⟩) hS.2.2 d_M_can_115
    · replace hM := it_f c18 hM
      refine lv_lload_n hx hb d_M_can_99 rfl (lv_at hl 2 rfl) ?_
      refine lv_lconst (v := (1 : Int64)) hx hb d_M_can_100 (by decide) ?_
      refine lv_ldc2 (v := (20 : Int64)) hx hb hown (hts _ mm_421) d_M_can_101 ?_
      obtain ⟨v19, hq19, hM⟩ := bd_some hM
      refine fr_i (res := v19) (va_runS (As := [.long y3, .long (1 : Int64), .long (20 : Int64)]) (rest := []) ⟨hx, hb, hml, hown, hts⟩ (c_M_in l D cI cJ cZ H.size y3 (1 : Int64) (20 : Int64) v19 hq19) (va_cwS 3 hts (gS mm_422 mm_423 mm_30 mm_424) rfl rfl rfl hs_M_in ⟨Nat.le_of_ble_eq_true rfl, Nat.le_of_ble_eq_true rfl⟩) (ps_ (F := nW) (u := ()) hK nP (nD (A := fun _ => True))) rfl rfl hl.1 rfl (lv_room (Nat.le_of_ble_eq_true rfl)) d_M_can_104 ⟨Nat.le_of_ble_eq_true rfl, Nat.le_of_ble_eq_true rfl⟩) hP hS hA (fun H locs hP hS => ?_)
      refine lv_if_eq (tgt := 114) hx hb d_M_can_107 (by decide) (fun c20 => ?_) (fun c20 => ?_)
      · replace hM := it_t c20 hM
        refine lv_iconst (v := (0 : Int32)) hx hb d_M_can_114 (by decide) ?_
        obtain rfl := Option.some.inj hM
        exact W.zret (v := (0 : Int32)) hx hb hr rfl (fun t ht hW => ⟨⟨(0 : Int32), (), rfl, rfl, trivial⟩, hS.F ht⟩) hS.2.2 d_M_can_115
      · replace hM := it_f c20 hM
        refine lv_iconst (v := (1 : Int32)) hx hb d_M_can_110 (by decide) ?_
        refine lv_goto (tgt := 115) hx hb d_M_can_111 (by decide) ?_
        obtain rfl := Option.some.inj hM
        exact W.zret (v := (1 : Int32)) hx hb hr rfl (fun t ht hW => ⟨⟨(1 : Int32), (), rfl, rfl, trivial⟩, hS.F ht⟩) hS.2.2 d_M_can_115
  replace hM := it_f c16 hM
  by_cases c21 : x0 = (4 : Int32)
  · replace hM := it_t c21 hM
    refine lv_tableIn (off := 115) (tgt := 116) hx hb d_M_can_1 (by rw [c21]; decide) (by rw [c21]; decide) (by rw [c21]; rfl) (by decide) ?_
    refine lv_lload_n hx hb d_M_can_116 rfl (lv_at hl 1 rfl) ?_
    refine lv_lconst (v := (1 : Int64)) hx hb d_M_can_117 (by decide) ?_
    refine lv_ldc2 (v := (20 : Int64)) hx hb hown (hts _ mm_421) d_M_can_118 ?_
    obtain ⟨v22, hq22, hM⟩ := bd_some hM
    refine fr_i (res := v22) (va_runS (As := [.long y1, .long (1 : Int64), .long (20 : Int64)]) (rest := []) ⟨hx, hb, hml, hown, hts⟩ (c_M_in l D cI cJ cZ H.size y1 (1 : Int64) (20 : Int64) v22 hq22) (va_cwS 3 hts (gS mm_422 mm_423 mm_30 mm_424) rfl rfl rfl hs_M_in ⟨Nat.le_of_ble_eq_true rfl, Nat.le_of_ble_eq_true rfl⟩) (ps_ (F := nW) (u := ()) hK nP (nD (A := fun _ => True))) rfl rfl hl.1 rfl (lv_room (Nat.le_of_ble_eq_true rfl)) d_M_can_121 ⟨Nat.le_of_ble_eq_true rfl, Nat.le_of_ble_eq_true rfl⟩) hP hS hA (fun H locs hP hS => ?_)
    obtain ⟨h23, hM⟩ := gd_some hM
    obtain rfl := Option.some.inj hM
    exact W.zret (v := v22) hx hb hr (nz_b h23) (fun t ht hW => ⟨⟨v22, (), rfl, rfl, trivial⟩, hS.F ht⟩) hS.2.2 d_M_can_124
  replace hM := it_f c21 hM
  by_cases c24 : x0 = (5 : Int32)
  · replace hM := it_t c24 hM
    refine lv_tableIn (off := 87) (tgt := 88) hx hb d_M_can_1 (by rw [c24]; decide) (by rw [c24]; decide) (by rw [c24]; rfl) (by decide) ?_
    refine lv_lload_n hx hb d_M_can_88 rfl (lv_at hl 1 rfl) ?_
    refine lv_lconst (v := (1 : Int64)) hx hb d_M_can_89 (by decide) ?_
    refine lv_ldc2 (v := (20 : Int64)) hx hb hown (hts _ mm_421) d_M_can_90 ?_
    obtain ⟨v25, hq25, hM⟩ := bd_some hM
    refine fr_i (res := v25) (va_runS (As := [.long y1, .long (1 : Int64), .long (20 : Int64)]) (rest := []) ⟨hx, hb, hml, hown, hts⟩ (c_M_in l D cI cJ cZ H.size y1 (1 : Int64) (20 : Int64) v25 hq25) (va_cwS 3 hts (gS mm_422 mm_423 mm_30 mm_424) rfl rfl rfl hs_M_in ⟨Nat.le_of_ble_eq_true rfl, Nat.le_of_ble_eq_true rfl⟩) (ps_ (F := nW) (u := ()) hK nP (nD (A := fun _ => True))) rfl rfl hl.1 rfl (lv_room (Nat.le_of_ble_eq_true rfl)) d_M_can_93 ⟨Nat.le_of_ble_eq_true rfl, Nat.le_of_ble_eq_true rfl⟩) hP hS hA (fun H locs hP hS => ?_)
    refine lv_if_eq (tgt := 114) hx hb d_M_can_96 (by decide) (fun c26 => ?_) (fun c26 => ?_)
    · replace hM := it_t c26 hM
      refine lv_iconst (v := (0 : Int32)) hx hb d_M_can_114 (by decide) ?_
      obtain rfl := Option.some.inj hM
      exact W.zret (v := (0 : Int32)) hx hb hr rfl (fun t ht hW => ⟨⟨(0 : Int32), (), rfl, rfl, trivial⟩, hS.F ht⟩) hS.2.2 d_M_can_115
    · replace hM := it_f c26 hM
      refine lv_lload_n hx hb d_M_can_99 rfl (lv_at hl 2 rfl) ?_
      refine lv_lconst (v := (1 : Int64)) hx hb d_M_can_100 (by decide) ?_
      refine lv_ldc2 (v := (20 : Int64)) hx hb hown (hts _ mm_421) d_M_can_101 ?_
      obtain ⟨v27, hq27, hM⟩ := bd_some hM
      refine fr_i (res := v27) (va_runS (As := [.long y3, .long (1 : Int64), .long (20 : Int64)]) (rest := []) ⟨hx, hb, hml, hown, hts⟩ (c_M_in l D cI cJ cZ H.size y3 (1 : Int64) (20 : Int64) v27 hq27) (va_cwS 3 hts (gS mm_422 mm_423 mm_30 mm_424) rfl rfl rfl hs_M_in ⟨Nat.le_of_ble_eq_true rfl, Nat.le_of_ble_eq_true rfl⟩) (ps_ (F := nW) (u := ()) hK nP (nD (A := fun _ => True))) rfl rfl hl.1 rfl (lv_room (Nat.le_of_ble_eq_true rfl)) d_M_can_104 ⟨Nat.le_of_ble_eq_true rfl, Nat.le_of_ble_eq_true rfl⟩) hP hS hA (fun H locs hP hS => ?_)
      refine lv_if_eq (tgt := 114) hx hb d_M_can_107 (by decide) (fun c28 => ?_) (fun c28 => ?_)
      · replace hM := it_t c28 hM
        refine lv_iconst (v := (0 : Int32)) hx hb d_M_can_114 (by decide) ?_
        obtain rfl := Option.some.inj hM
        exact W.zret (v := (0 : Int32)) hx hb hr rfl (fun t ht hW => ⟨⟨(0 : Int32), (), rfl, rfl, trivial⟩, hS.F ht⟩) hS.2.2 d_M_can_115
      · replace hM := it_f c28 hM
        refine lv_iconst (v := (1 : Int32)) hx hb d_M_can_110 (by decide) ?_
        refine lv_goto (tgt := 115) hx hb d_M_can_111 (by decide) ?_
        obtain rfl := Option.some.inj hM
        exact W.zret (v := (1 : Int32)) hx hb hr rfl (fun t ht hW => ⟨⟨(1 : Int32), (), rfl, rfl, trivial⟩, hS.F ht⟩) hS.2.2 d_M_can_115
  replace hM := it_f c24 hM
  by_cases c29 : x0 = (6 : Int32)
  · replace hM := it_t c29 hM
    refine lv_tableIn (off := 87) (tgt := 88) hx hb d_M_can_1 (by rw [c29]; decide) (by rw [c29]; decide) (by rw [c29]; rfl) (by decide) ?_
    refine lv_lload_n hx hb d_M_can_88 rfl (lv_at hl 1 rfl) ?_
    refine lv_lconst (v := (1 : Int64)) hx hb d_M_can_89 (by decide) ?_
    refine lv_ldc2 (v := (20 : Int64)) hx hb hown (hts _ mm_421) d_M_can_90 ?_
    obtain ⟨v30, hq30, hM⟩ := bd_some hM
    refine fr_i (res := v30) (va_runS (As := [.long y1, .long (1 : Int64), .long (20 : Int64)]) (rest := []) ⟨hx, hb, hml, hown, hts⟩ (c_M_in l D cI cJ cZ H.size y1 (1 : Int64) (20 : Int64) v30 hq30) (va_cwS 3 hts (gS mm_422 mm_423 mm_30 mm_424) rfl rfl rfl hs_M_in ⟨Nat.le_of_ble_eq_true rfl, Nat.le_of_ble_eq_true rfl⟩) (ps_ (F := nW) (u := ()) hK nP (nD (A := fun _ => True))) rfl rfl hl.1 rfl (lv_room (Nat.le_of_ble_eq_true rfl)) d_M_can_93 ⟨Nat.le_of_ble_eq_true rfl, Nat.le_of_ble_eq_true rfl⟩) hP hS hA (fun H locs hP hS => ?_)
    refine lv_if_eq (tgt := 114) hx hb d_M_can_96 (by decide) (fun c31 => ?_) (fun c31 => ?_)
    · replace hM := it_t c31 hM
      refine lv_iconst (v := (0 : Int32)) hx hb d_M_can_114 (by decide) ?_
      obtain rfl := Option.some.inj hM
      exact W.zret (v := (0 : Int32)) hx hb hr rfl (fun t ht hW => ⟨⟨(0 : Int32), (), rfl, rfl, trivial⟩, hS.F ht⟩) hS.2.2 d_M_can_115
    · replace hM := it_f c31 hM
      refine lv_lload_n hx hb d_M_can_99 rfl (lv_at hl 2 rfl) ?_
      refine lv_lconst (v := (1 : Int64)) hx hb d_M_can_100 (by decide) ?_
      refine lv_ldc2 (v := (20 : Int64)) hx hb hown (hts _ mm_421) d_M_can_101 ?_
      obtain ⟨v32, hq32, hM⟩ := bd_some hM
      refine fr_i (res := v32) (va_runS (As := [.long y3, .long (1 : Int64), .long (20 : Int64)]) (rest := []) ⟨hx, hb, hml, hown, hts⟩ (c_M_in l D cI cJ cZ H.size y3 (1 : Int64) (20 : Int64) v32 hq32) (va_cwS 3 hts (gS mm_422 mm_423 mm_30 mm_424) rfl rfl rfl hs_M_in ⟨Nat.le_of_ble_eq_true rfl, Nat.le_of_ble_eq_true rfl⟩) (ps_ (F := nW) (u := ()) hK nP (nD (A := fun _ => True))) rfl rfl hl.1 rfl (lv_room (Nat.le_of_ble_eq_true rfl)) d_M_can_104 ⟨Nat.le_of_ble_eq_true rfl, Nat.le_of_ble_eq_true rfl⟩) hP hS hA (fun H locs hP hS => ?_)
      refine lv_if_eq (tgt := 114) hx hb d_M_can_107 (by decide) (fun c33 => ?_) (fun c33 => ?_)
      · replace hM := it_t c33 hM
        refine lv_iconst (v := (0 : Int32)) hx hb d_M_can_114 (by decide) ?_
        obtain rfl := Option.some.inj hM
        exact W.zret (v := (0 : Int32)) hx hb hr rfl (fun t ht hW => ⟨⟨(0 : Int32), (), rfl, rfl, trivial⟩, hS.F ht⟩) hS.2.2 d_M_can_115
      · replace hM := it_f c33 hM
        refine lv_iconst (v := (1 : Int32)) hx hb d_M_can_110 (by decide) ?_
        refine lv_goto (tgt := 115) hx hb d_M_can_111 (by decide) ?_
        obtain rfl := Option.some.inj hM
        exact W.zret (v := (1 : Int32)) hx hb hr rfl (fun t ht hW => ⟨⟨(1 : Int32), (), rfl, rfl, trivial⟩, hS.F ht⟩) hS.2.2 d_M_can_115
  replace hM := it_f c29 hM
  by_cases c34 : x0 = (7 : Int32)
  · replace hM := it_t c34 hM
    refine lv_tableIn (off := 124) (tgt := 125) hx hb d_M_can_1 (by rw [c34]; decide) (by rw [c34]; decide) (by rw [c34]; rfl) (by decide) ?_
    refine lv_lload_n hx hb d_M_can_125 rfl (lv_at hl 1 rfl) ?_
    refine lv_lconst (v := (1 : Int64)) hx hb d_M_can_126 (by decide) ?_
    refine lv_ldc2 (v := (20 : Int64)) hx hb hown (hts _ mm_421) d_M_can_127 ?_
    obtain ⟨v35, hq35, hM⟩ := bd_some hM
    refine fr_i (res := v35) (va_runS (As := [.long y1, .long (1 : Int64), .long (20 : Int64)]) (rest := []) ⟨hx, hb, hml, hown, hts⟩ (c_M_in l D cI cJ cZ H.size y1 (1 : Int64) (20 : Int64) v35 hq35) (va_cwS 3 hts (gS mm_422 mm_423 mm_30 mm_424) rfl rfl rfl hs_M_in ⟨Nat.le_of_ble_eq_true rfl, Nat.le_of_ble_eq_true rfl⟩) (ps_ (F := nW) (u := ()) hK nP (nD (A := fun _ => True))) rfl rfl hl.1 rfl (lv_room (Nat.le_of_ble_eq_true rfl)) d_M_can_130 ⟨Nat.le_of_ble_eq_true rfl, Nat.le_of_ble_eq_true rfl⟩) hP hS hA (fun H locs hP hS => ?_)
    refine lv_if_eq (tgt := 151) hx hb d_M_can_133 (by decide) (fun c36 => ?_) (fun c36 => ?_)
    · replace hM := it_t c36 hM
      refine lv_iconst (v := (0 : Int32)) hx hb d_M_can_151 (by decide) ?_
      obtain rfl := Option.some.inj hM
      exact W.zret (v := (0 : Int32)) hx hb hr rfl (fun t ht hW => ⟨⟨(0 : Int32), (), rfl, rfl, trivial⟩, hS.F ht⟩) hS.2.2 d_M_can_152
    · replace hM := it_f c36 hM
      refine lv_lload_n hx hb d_M_can_136 rfl (lv_at hl 2 rfl) ?_
      refine lv_lconst (v := (1 : Int64)) hx hb d_M_can_137 (by decide) ?_
      refine lv_ldc2 (v := (5 : Int64)) hx hb hown (hts _ mm_426) d_M_can_138 ?_
      obtain ⟨v37, hq37, hM⟩ := bd_some hM
      refine fr_i (res := v37) (va_runS (As := [.long y3, .long (1 : Int64), .long (5 : Int64)]) (rest := []) ⟨hx, hb, hml, hown, hts⟩ (c_M_in l D cI cJ cZ H.size y3 (1 : Int64) (5 : Int64) v37 hq37) (va_cwS 3 hts (gS mm_422 mm_423 mm_30 mm_424) rfl rfl rfl hs_M_in ⟨Nat.le_of_ble_eq_true rfl, Nat.le_of_ble_eq_true rfl⟩) (ps_ (F := nW) (u := ()) hK nP (nD (A := fun _ => True))) rfl rfl hl.1 rfl (lv_room (Nat.le_of_ble_eq_true rfl)) d_M_can_141 ⟨Nat.le_of_ble_eq_true rfl, Nat.le_of_ble_eq_true rfl⟩) hP hS hA (fun H locs hP hS => ?_)
      refine lv_if_eq (tgt := 151) hx hb d_M_can_144 (by decide) (fun c38 => ?_) (fun c38 => ?_)
      · replace hM := it_t c38 hM
        refine lv_iconst (v := (0 : Int32)) hx hb d_M_can_151 (by decide) ?_
        obtain rfl := Option.some.inj hM
        exact W.zret (v := (0 : Int32)) hx hb hr rfl (fun t ht hW => ⟨⟨(0 : Int32), (), rfl, rfl, trivial⟩, hS.F ht⟩) hS.2.2 d_M_can_152
      · replace hM := it_f c38 hM
        refine lv_iconst (v := (1 : Int32)) hx hb d_M_can_147 (by decide) ?_
        refine lv_goto (tgt := 152) hx hb d_M_can_148 (by decide) ?_
        obtain rfl := Option.some.inj hM
        exact W.zret (v := (1 : Int32)) hx hb hr rfl (fun t ht hW => ⟨⟨(1 : Int32), (), rfl, rfl, trivial⟩, hS.F ht⟩) hS.2.2 d_M_can_152
  replace hM := it_f c34 hM
  by_cases c39 : x0 = (8 : Int32)
  · replace hM := it_t c39 hM
    refine lv_tableIn (off := 124) (tgt := 125) hx hb d_M_can_1 (by rw [c39]; decide) (by rw [c39]; decide) (by rw [c39]; rfl) (by decide) ?_
    refine lv_lload_n hx hb d_M_can_125 rfl (lv_at hl 1 rfl) ?_
    refine lv_lconst (v := (1 : Int64)) hx hb d_M_can_126 (by decide) ?_
    refine lv_ldc2 (v := (20 : Int64)) hx hb hown (hts _ mm_421) d_M_can_127 ?_
    obtain ⟨v40, hq40, hM⟩ := bd_some hM
    refine fr_i (res := v40) (va_runS (As := [.long y1, .long (1 : Int64), .long (20 : Int64)]) (rest := []) ⟨hx, hb, hml, hown, hts⟩ (c_M_in l D cI cJ cZ H.size y1 (1 : Int64) (20 : Int64) v40 hq40) (va_cwS 3 hts (gS mm_422 mm_423 mm_30 mm_424) rfl rfl rfl hs_M_in ⟨Nat.le_of_ble_eq_true rfl, Nat.le_of_ble_eq_true rfl⟩) (ps_ (F := nW) (u := ()) hK nP (nD (A := fun _ => True))) rfl rfl hl.1 rfl (lv_room (Nat.le_of_ble_eq_true rfl)) d_M_can_130 ⟨Nat.le_of_ble_eq_true rfl, Nat.le_of_ble_eq_true rfl⟩) hP hS hA (fun H locs hP hS => ?_)
    refine lv_if_eq (tgt := 151) hx hb d_M_can_133 (by decide) (fun c41 => ?_) (fun c41 => ?_)
    · replace hM := it_t c41 hM
      refine lv_iconst (v := (0 : Int32)) hx hb d_M_can_151 (by decide) ?_
      obtain rfl := Option.some.inj hM
      exact W.zret (v := (0 : Int32)) hx hb hr rfl (fun t ht hW => ⟨⟨(0 : Int32), (), rfl, rfl, trivial⟩, hS.F ht⟩) hS.2.2 d_M_can_152
    · replace hM := it_f c41 hM
      refine lv_lload_n hx hb d_M_can_136 rfl (lv_at hl 2 rfl) ?_
      refine lv_lconst (v := (1 : Int64)) hx hb d_M_can_137 (by decide) ?_
      refine lv_ldc2 (v := (5 : Int64)) hx hb hown (hts _ mm_426) d_M_can_138 ?_
      obtain ⟨v42, hq42, hM⟩ := bd_some hM
      refine fr_i (res := v42) (va_runS (As := [.long y3, .long (1 : Int64), .long (5 : Int64)]) (rest := []) ⟨hx, hb, hml, hown, hts⟩ (c_M_in l D cI cJ cZ H.size y3 (1 : Int64) (5 : Int64) v42 hq42) (va_cwS 3 hts (gS mm_422 mm_423 mm_30 mm_424) rfl rfl rfl hs_M_in ⟨Nat.le_of_ble_eq_true rfl, Nat.le_of_ble_eq_true rfl⟩) (ps_ (F := nW) (u := ()) hK nP (nD (A := fun _ => True))) rfl rfl hl.1 rfl (lv_room (Nat.le_of_ble_eq_true rfl)) d_M_can_141 ⟨Nat.le_of_ble_eq_true rfl, Nat.le_of_ble_eq_true rfl⟩) hP hS hA (fun H locs hP hS => ?_)
      refine lv_if_eq (tgt := 151) hx hb d_M_can_144 (by decide) (fun c43 => ?_) (fun c43 => ?_)
      · replace hM := it_t c43 hM
        refine lv_iconst (v := (0 : Int32)) hx hb d_M_can_151 (by decide) ?_
        obtain rfl := Option.some.inj hM
        exact W.zret (v := (0 : Int32)) hx hb hr rfl (fun t ht hW => ⟨⟨(0 : Int32), (), rfl, rfl, trivial⟩, hS.F ht⟩) hS.2.2 d_M_can_152
      · replace hM := it_f c43 hM
        refine lv_iconst (v := (1 : Int32)) hx hb d_M_can_147 (by decide) ?_
        refine lv_goto (tgt := 152) hx hb d_M_can_148 (by decide) ?_
        obtain rfl := Option.some.inj hM
        exact W.zret (v := (1 : Int32)) hx hb hr rfl (fun t ht hW => ⟨⟨(1 : Int32), (), rfl, rfl, trivial⟩, hS.F ht⟩) hS.2.2 d_M_can_152
  replace hM := it_f c39 hM
  by_cases c44 : x0 = (9 : Int32)
  · replace hM := it_t c44 hM
    refine lv_tableIn (off := 152) (tgt := 153) hx hb d_M_can_1 (by rw [c44]; decide) (by rw [c44]; decide) (by rw [c44]; rfl) (by decide) ?_
    refine lv_lload_n hx hb d_M_can_153 rfl (lv_at hl 1 rfl) ?_
    refine lv_lconst (v := (1 : Int64)) hx hb d_M_can_154 (by decide) ?_
    refine lv_ldc2 (v := (20 : Int64)) hx hb hown (hts _ mm_421) d_M_can_155 ?_
    obtain ⟨v45, hq45, hM⟩ := bd_some hM
    refine fr_i (res := v45) (va_runS (As := [.long y1, .long (1 : Int64), .long (20 : Int64)]) (rest := []) ⟨hx, hb, hml, hown, hts⟩ (c_M_in l D cI cJ cZ H.size y1 (1 : Int64) (20 : Int64) v45 hq45) (va_cwS 3 hts (gS mm_422 mm_423 mm_30 mm_424) rfl rfl rfl hs_M_in ⟨Nat.le_of_ble_eq_true rfl, Nat.le_of_ble_eq_true rfl⟩) (ps_ (F := nW) (u := ()) hK nP (nD (A := fun _ => True))) rfl rfl hl.1 rfl (lv_room (Nat.le_of_ble_eq_true rfl)) d_M_can_158 ⟨Nat.le_of_ble_eq_true rfl, Nat.le_of_ble_eq_true rfl⟩) hP hS hA (fun H locs hP hS => ?_)
    refine lv_if_eq (tgt := 179) hx hb d_M_can_161 (by decide) (fun c46 => ?_) (fun c46 => ?_)
    · replace hM := it_t c46 hM
      refine lv_iconst (v := (0 : Int32)) hx hb d_M_can_179 (by decide) ?_
      obtain rfl := Option.some.inj hM
      exact W.zret (v := (0 : Int32)) hx hb hr rfl (fun t ht hW => ⟨⟨(0 : Int32), (), rfl, rfl, trivial⟩, hS.F ht⟩) hS.2.2 d_M_can_180
    · replace hM := it_f c46 hM
      refine lv_lload_n hx hb d_M_can_164 rfl (lv_at hl 2 rfl) ?_
      refine lv_lconst (v := (0 : Int64)) hx hb d_M_can_165 (by decide) ?_
      refine lv_ldc2 (v := (9 : Int64)) hx hb hown (hts _ mm_427) d_M_can_166 ?_
      obtain ⟨v47, hq47, hM⟩ := bd_some hM
      refine fr_i (res := v47) (va_runS (As := [.long y3, .long (0 : Int64), .long (9 : Int64)]) (rest := []) ⟨hx, hb, hml, hown, hts⟩ (c_M_in l D cI cJ cZ H.size y3 (0 : Int64) (9 : Int64) v47 hq47) (va_cwS 3 hts (gS mm_422 mm_423 mm_30 mm_424) rfl rfl rfl hs_M_in ⟨Nat.le_of_ble_eq_true rfl, Nat.le_of_ble_eq_true rfl⟩) (ps_ (F := nW) (u := ()) hK nP (nD (A := fun _ => True))) rfl rfl hl.1 rfl (lv_room (Nat.le_of_ble_eq_true rfl)) d_M_can_169 ⟨Nat.le_of_ble_eq_true rfl, Nat.le_of_ble_eq_true rfl⟩) hP hS hA (fun H locs hP hS => ?_)
      refine lv_if_eq (tgt := 179) hx hb d_M_can_172 (by decide) (fun c48 => ?_) (fun c48 => ?_)
      · replace hM := it_t c48 hM
        refine lv_iconst (v := (0 : Int32)) hx hb d_M_can_179 (by decide) ?_
        obtain rfl := Option.some.inj hM
        exact W.zret (v := (0 : Int32)) hx hb hr rfl (fun t ht hW => ⟨⟨(0 : Int32), (), rfl, rfl, trivial⟩, hS.F ht⟩) hS.2.2 d_M_can_180
      · replace hM := it_f c48 hM
        refine lv_iconst (v := (1 : Int32)) hx hb d_M_can_175 (by decide) ?_
        refine lv_goto (tgt := 180) hx hb d_M_can_176 (by decide) ?_
        obtain rfl := Option.some.inj hM
        exact W.zret (v := (1 : Int32)) hx hb hr rfl (fun t ht hW => ⟨⟨(1 : Int32), (), rfl, rfl, trivial⟩, hS.F ht⟩) hS.2.2 d_M_can_180
  replace hM := it_f c44 hM
  by_cases c49 : x0 = (10 : Int32)
  · replace hM := it_t c49 hM
    refine lv_tableIn (off := 180) (tgt := 181) hx hb d_M_can_1 (by rw [c49]; decide) (by rw [c49]; decide) (by rw [c49]; rfl) (by decide) ?_
    refine lv_lload_n hx hb d_M_can_181 rfl (lv_at hl 1 rfl) ?_
    refine lv_lconst (v := (0 : Int64)) hx hb d_M_can_182 (by decide) ?_
    refine lv_ldc2 (v := (9 : Int64)) hx hb hown (hts _ mm_427) d_M_can_183 ?_
    obtain ⟨v50, hq50, hM⟩ := bd_some hM
    refine fr_i (res := v50) (va_runS (As := [.long y1, .long (0 : Int64), .long (9 : Int64)]) (rest := []) ⟨hx, hb, hml, hown, hts⟩ (c_M_in l D cI cJ cZ H.size y1 (0 : Int64) (9 : Int64) v50 hq50) (va_cwS 3 hts (gS mm_422 mm_423 mm_30 mm_424) rfl rfl rfl hs_M_in ⟨Nat.le_of_ble_eq_true rfl, Nat.le_of_ble_eq_true rfl⟩) (ps_ (F := nW) (u := ()) hK nP (nD (A := fun _ => True))) rfl rfl hl.1 rfl (lv_room (Nat.le_of_ble_eq_true rfl)) d_M_can_186 ⟨Nat.le_of_ble_eq_true rfl, Nat.le_of_ble_eq_true rfl⟩) hP hS hA (fun H locs hP hS => ?_)
    refine lv_if_eq (tgt := 207) hx hb d_M_can_189 (by decide) (fun c51 => ?_) (fun c51 => ?_)
    · replace hM := it_t c51 hM
      refine lv_iconst (v := (0 : Int32)) hx hb d_M_can_207 (by decide) ?_
      obtain rfl := Option.some.inj hM
      exact W.zret (v := (0 : Int32)) hx hb hr rfl (fun t ht hW => ⟨⟨(0 : Int32), (), rfl, rfl, trivial⟩, hS.F ht⟩) hS.2.2 d_M_can_208
    · replace hM := it_f c51 hM
      refine lv_lload_n hx hb d_M_can_192 rfl (lv_at hl 2 rfl) ?_
      refine lv_lconst (v := (1 : Int64)) hx hb d_M_can_193 (by decide) ?_
      refine lv_ldc2 (v := (365 : Int64)) hx hb hown (hts _ mm_428) d_M_can_194 ?_
      obtain ⟨v52, hq52, hM⟩ := bd_some hM
      refine fr_i (res := v52) (va_runS (As := [.long y3, .long (1 : Int64), .long (365 : Int64)]) (rest := []) ⟨hx, hb, hml, hown, hts⟩ (c_M_in l D cI cJ cZ H.size y3 (1 : Int64) (365 : Int64) v52 hq52) (va_cwS 3 hts (gS mm_422 mm_423 mm_30 mm_424) rfl rfl rfl hs_M_in ⟨Nat.le_of_ble_eq_true rfl, Nat.le_of_ble_eq_true rfl⟩) (ps_ (F := nW) (u := ()) hK nP (nD (A := fun _ => True))) rfl rfl hl.1 rfl (lv_room (Nat.le_of_ble_eq_true rfl)) d_M_can_197 ⟨Nat.le_of_ble_eq_true rfl, Nat.le_of_ble_eq_true rfl⟩) hP hS hA (fun H locs hP hS => ?_)
      refine lv_if_eq (tgt := 207) hx hb d_M_can_200 (by decide) (fun c53 => ?_) (fun c53 => ?_)
      · replace hM := it_t c53 hM
        refine lv_iconst (v := (0 : Int32)) hx hb d_M_can_207 (by decide) ?_
        obtain rfl := Option.some.inj hM
        exact W.zret (v := (0 : Int32)) hx hb hr rfl (fun t ht hW => ⟨⟨(0 : Int32), (), rfl, rfl, trivial⟩, hS.F ht⟩) hS.2.2 d_M_can_208
      · replace hM := it_f c53 hM
        refine lv_iconst (v := (1 : Int32)) hx hb d_M_can_203 (by decide) ?_
        refine lv_goto (tgt := 208) hx hb d_M_can_204 (by decide) ?_
        obtain rfl := Option.some.inj hM
        exact W.zret (v := (1 : Int32)) hx hb hr rfl (fun t ht hW => ⟨⟨(1 : Int32), (), rfl, rfl, trivial⟩, hS.F ht⟩) hS.2.2 d_M_can_208
  replace hM := it_f c49 hM
  have nc1 := lv_neT c1 (a := 0) (by decide)
  have nc6 := lv_neT c6 (a := 1) (by decide)
  have nc11 := lv_neT c11 (a := 2) (by decide)
  have nc16 := lv_neT c16 (a := 3) (by decide)
  have nc21 := lv_neT c21 (a := 4) (by decide)
  have nc24 := lv_neT c24 (a := 5) (by decide)
  have nc29 := lv_neT c29 (a := 6) (by decide)
  have nc34 := lv_neT c34 (a := 7) (by decide)
  have nc39 := lv_neT c39 (a := 8) (by decide)
  have nc44 := lv_neT c44 (a := 9) (by decide)
  have nc49 := lv_neT c49 (a := 10) (by decide)
  refine lv_tableOut (tgt := 209) hx hb d_M_can_1 (by omega) (by decide) ?_
  refine lv_iconst (v := (0 : Int32)) hx hb d_M_can_209 (by decide) ?_
  obtain rfl := Option.some.inj hM
  exact W.zret (v := (0 : Int32)) hx hb hr rfl (fun t ht hW => ⟨⟨(0 : Int32), (), rfl, rfl, trivial⟩, hS.F ht⟩) hS.2.2 d_M_can_210
end
set_option maxRecDepth 100000 in
theorem c_M_can (l : Launch) (D : va_G) (cI cJ cZ : ClassId) (sz : Nat) (x0 : Int32) (y1 : Int64) (y3 : Int64) (res : Int32) (hM : B_M_can_0 x0 y1 y3 = some res) : Met l y_M_can ws_M_can rm_M_can (va_Pc [.int x0, .long y1, .long y3] (pr_ D cl9 (tyy cI cJ cZ) nW () sz)) (Qri (va_A [] sz) res) 0 0 (va_A [] sz) := by
  refine Met.ofW (cc := prog_5_method_4_code) (maxL := 5) (ret := (Option.some FieldType.boolean)) (by decide) rfl ?_
  intro p e s m args below meth c s₁ B hml hv
  obtain ⟨rfl, hsz, hP, hK, hD0⟩ := hv
  subst hsz
  have hts0 := atoms_spec (ws := ws_M_can) B.pre
  have hl := lv_entry ([.int x0, .long y1, .long y3]) (n := 5) (Nat.le_of_ble_eq_true rfl)
  rw [lg_entry_eq]
  generalize (lg_sl ([.int x0, .long y1, .long y3]) ++ List.replicate (5 - (lg_sl ([.int x0, .long y1, .long y3])).length) Slot.unset).toArray = ls at hl ⊢
  exact w_M_can_0 ⟨B.exec, B.bytes, B.returns, hml, findClass_of_methodNamed B.named, fun w h => hts0 w (List.mem_cons_of_mem _ h), B.notSynchronized, hK, fun q h => Or.inr h⟩ x0 y1 y3 s.heap [] ls hP hD0 va_S.rf hl hM
section
variable {p : Program} {l : Launch} {e : Env} {s : State} {m : MethodId} {args : Array Value} {below : List Frame} {meth : Method} {c : Code} {D : va_G} {cI cJ cZ : ClassId} {A : Nat → Prop} {bd : Nat → Nat}
set_option maxHeartbeats 4000000 in
set_option maxRecDepth 100000 in
theorem w_M_event_135 {res : (Int32 × Mod)} (C : Cx p s m args meth c prog_5_method_5_code 9 (Option.some FieldType.int) "PlainLibraryModel" tb D cl9 (tyy cI cJ cZ) A) (x1 : Int32) (y2 : Int64) (y4 : Int64) (y6 : Int64) (x8 : Int32) (u : Mod) (H : Heap) (locs : List Loc) (ls : Array Slot) (hP : va_P D cl9 ((cM cI cJ cZ bd) u) H) (hD : va_D A ((cM cI cJ cZ bd) u)) (hS : va_S A s.heap H locs) (hl : lv_has ls 9 [(0, .ref (bd 0)), (1, .int x1), (2, .long y2), (4, .long y4), (6, .long y6), (8, .int x8)]) (hM : B_M_event_135 x1 y2 y4 y6 x8 u = some res) : W p l e rm_M_event s m args below meth c H locs 0 0 (MQ below (Qwi D cl9 (tyy cI cJ cZ) (cM cI cJ cZ bd) A res) args s 0 0 A) (F0 m 135 ls []) := by
  have C0 := C
  obtain ⟨hx, hb, hr, hml, hown, hts, hlocks, hK, hA⟩ := C
  replace C := C0
  unfold B_M_event_135 at hM
  refine lv_aload_n hx hb d_M_event_135 rfl (lv_at hl 0 rfl) ?_
  refine va_get (D := D) (ci := 3) (v := .ref (bd 1)) (C := R_M) (T := T_M) (N := 21) hx hb hts in_M hown hK hP 0 rfl rfl 1 (by decide) (hts _ mm_350) (fun _ h9 => h9) rfl d_M_event_136 ?_
  refine lv_iload hx hb d_M_event_139 (lv_at hl 5 rfl) ?_
  refine lv_iload_n hx hb d_M_event_141 rfl (lv_at hl 1 rfl) ?_
  obtain ⟨h1, hM⟩ := gd_some hM
  refine va_iast hx hb hK hP hD hS 1 0 rfl rfl (vp_in_iff.mpr h1) d_M_event_142 (fun H locs hP hD hS => ?_)
  have hP : va_P D cl9 ((cM cI cJ cZ bd) (m_srt_w u (upd (m_srt u) x8.toNatClampNeg x1))) H := reP (zcM_srt cI cJ cZ bd u (upd (m_srt u) x8.toNatClampNeg x1)) hP
  have hD : va_D A ((cM cI cJ cZ bd) (m_srt_w u (upd (m_srt u) x8.toNatClampNeg x1))) := reD (zcM_srt cI cJ cZ bd u (upd (m_srt u) x8.toNatClampNeg x1)) hD
  refine lv_aload_n hx hb d_M_event_143 rfl (lv_at hl 0 rfl) ?_
  refine va_get (D := D) (ci := 3) (v := .ref (bd 2)) (C := R_M) (T := T_M) (N := 21) hx hb hts in_M hown hK hP 0 rfl rfl 2 (by decide) (hts _ mm_351) (fun _ h9 => h9) rfl d_M_event_144 ?_
  refine lv_iload hx hb d_M_event_147 (lv_at hl 5 rfl) ?_
  refine lv_lload_n hx hb d_M_event_149 rfl (lv_at hl 2 rfl) ?_
  refine lv_l2i (v := y2.toInt32) hx hb d_M_event_150 rfl ?_
  obtain ⟨h2, hM⟩ := gd_some hM
  refine va_iast hx hb hK hP hD hS 2 0 rfl rfl (vp_in_iff.mpr h2) d_M_event_151 (fun H locs hP hD hS => ?_)
  have hP : va_P D cl9 ((cM cI cJ cZ bd) (m_as_w (m_srt_w u (upd (m_srt u) x8.toNatClampNeg x1)) (upd (m_as (m_srt_w u (upd (m_srt u) x8.toNatClampNeg x1))) x8.toNatClampNeg (y2.toInt32)))) H := reP (zcM_as cI cJ cZ bd (m_srt_w u (upd (m_srt u) x8.toNatClampNeg x1)) (upd (m_as (m_srt_w u (upd (m_srt u) x8.toNatClampNeg x1))) x8.toNatClampNeg (y2.toInt32))) hP
  have hD : va_D A ((cM cI cJ cZ bd) (m_as_w (m_srt_w u (upd (m_srt u) x8.toNatClampNeg x1)) (upd (m_as (m_srt_w u (upd (m_srt u) x8.toNatClampNeg x1))) x8.toNatClampNeg (y2.toInt32)))) := reD (zcM_as cI cJ cZ bd (m_srt_w u (upd (m_srt u) x8.toNatClampNeg x1)) (upd (m_as (m_srt_w u (upd (m_srt u) x8.toNatClampNeg x1))) x8.toNatClampNeg (y2.toInt32))) hD
  obtain ⟨u3, hu3, hM⟩ := bd_some hM
  rw [Option.some.inj hu3] at hP hD
  refine lv_aload_n hx hb d_M_event_152 rfl (lv_at hl 0 rfl) ?_
  refine va_get (D := D) (ci := 3) (v := .ref (bd 3)) (C := R_M) (T := T_M) (N := 21) hx hb hts in_M hown hK hP 0 rfl rfl 3 (by decide) (hts _ mm_352) (fun _ h9 => h9) rfl d_M_event_153 ?_
  refine lv_iload hx hb d_M_event_156 (lv_at hl 5 rfl) ?_
  refine lv_lload hx hb d_M_event_158 (lv_at hl 3 rfl) ?_
  obtain ⟨h4, hM⟩ := gd_some hM
  refine va_last hx hb hK hP hD hS 3 1 rfl rfl (vp_in_iff.mpr h4) d_M_event_160 (fun H locs hP hD hS => ?_)
  have hP : va_P D cl9 ((cM cI cJ cZ bd) (m_bs_w u3 (vp_updL (m_bs u3) x8.toNatClampNeg y4))) H := reP (zcM_bs cI cJ cZ bd u3 (vp_updL (m_bs u3) x8.toNatClampNeg y4)) hP
  have hD : va_D A ((cM cI cJ cZ bd) (m_bs_w u3 (vp_updL (m_bs u3) x8.toNatClampNeg y4))) := reD (zcM_bs cI cJ cZ bd u3 (vp_updL (m_bs u3) x8.toNatClampNeg y4)) hD
  refine lv_aload_n hx hb d_M_event_161 rfl (lv_at hl 0 rfl) ?_
  refine va_get (D := D) (ci := 3) (v := .ref (bd 4)) (C := R_M) (T := T_M) (N := 21) hx hb hts in_M hown hK hP 0 rfl rfl 4 (by decide) (hts _ mm_353) (fun _ h9 => h9) rfl d_M_event_162 ?_
  refine lv_iload hx hb d_M_event_165 (lv_at hl 5 rfl) ?_
  refine lv_lload hx hb d_M_event_167 (lv_at hl 4 rfl) ?_
  obtain ⟨h5, hM⟩ := gd_some hM
  refine va_last hx hb hK hP hD hS 4 1 rfl rfl (vp_in_iff.mpr h5) d_M_event_169 (fun H locs hP hD hS => ?_)
  have hP : va_P D cl9 ((cM cI cJ cZ bd) (m_dys_w (m_bs_w u3 (vp_updL (m_bs u3) x8.toNatClampNeg y4)) (vp_updL (m_dys (m_bs_w u3 (vp_updL (m_bs u3) x8.toNatClampNeg y4))) x8.toNatClampNeg y6))) H := reP (zcM_dys cI cJ cZ bd (m_bs_w u3 (vp_updL (m_bs u3) x8.toNatClampNeg y4)) (vp_updL (m_dys (m_bs_w u3 (vp_updL (m_bs u3) x8.toNatClampNeg y4))) x8.toNatClampNeg y6)) hP
  have hD : va_D A ((cM cI cJ cZ bd) (m_dys_w (m_bs_w u3 (vp_updL (m_bs u3) x8.toNatClampNeg y4)) (vp_updL (m_dys (m_bs_w u3 (vp_updL (m_bs u3) x8.toNatClampNeg y4))) x8.toNatClampNeg y6))) := reD (zcM_dys cI cJ cZ bd (m_bs_w u3 (vp_updL (m_bs u3) x8.toNatClampNeg y4)) (vp_updL (m_dys (m_bs_w u3 (vp_updL (m_bs u3) x8.toNatClampNeg y4))) x8.toNatClampNeg y6)) hD
  obtain ⟨u6, hu6, hM⟩ := bd_some hM
  rw [Option.some.inj hu6] at hP hD
  refine lv_aload_n hx hb d_M_event_170 rfl (lv_at hl 0 rfl) ?_
  refine lv_dup hx hb d_M_event_171 rfl ?_
  refine va_get (D := D) (ci := 3) (v := .int (m_ct u6)) (C := R_M) (T := T_M) (N := 21) hx hb hts in_M hown hK hP 0 rfl rfl 5 (by decide) (hts _ mm_354) (fun _ h9 => h9) rfl d_M_event_172 ?_
  refine lv_iconst (v := (1 : Int32)) hx hb d_M_event_175 (by decide) ?_
  refine lv_iadd hx hb d_M_event_176 ?_
  refine va_put (D := D) (ci := 3) (v := .int ((m_ct u6) + (1 : Int32))) (ty := .int) (C := R_M) (T := T_M) (N := 21) hx hb hts in_M ty_M tk_M nm_M hown hK hP hD hS 0 rfl rfl 5 (by decide) (hts _ mm_354) (fun _ h9 => h9) rfl (by decide +kernel) rfl rfl (Nat.le_of_ble_eq_true rfl) d_M_event_177 (fun H locs hP hD hS => ?_)
  have hP : va_P D cl9 ((cM cI cJ cZ bd) (m_ct_w u6 ((m_ct u6) + (1 : Int32)))) H := reP (zcM_ct cI cJ cZ bd u6 ((m_ct u6) + (1 : Int32))) hP
  have hD : va_D A ((cM cI cJ cZ bd) (m_ct_w u6 ((m_ct u6) + (1 : Int32)))) := reD (zcM_ct cI cJ cZ bd u6 ((m_ct u6) + (1 : Int32))) hD
  refine lv_aload_n hx hb d_M_event_180 rfl (lv_at hl 0 rfl) ?_
  refine va_get (D := D) (ci := 3) (v := .int (m_ct (m_ct_w u6 ((m_ct u6) + (1 : Int32))))) (C := R_M) (T := T_M) (N := 21) hx hb hts in_M hown hK hP 0 rfl rfl 5 (by decide) (hts _ mm_354) (fun _ h9 => h9) rfl d_M_event_181 ?_
  obtain rfl := Option.some.inj hM
  exact W.iret (v := (m_ct (m_ct_w u6 ((m_ct u6) + (1 : Int32))))) hx hb hr (fun t ht hW => ⟨⟨(m_ct (m_ct_w u6 ((m_ct u6) + (1 : Int32)))), (m_ct_w u6 ((m_ct u6) + (1 : Int32))), rfl, rfl, by rw [ht]; exact hP, va_K.moved hW.alike hK, hD⟩, hS.F ht⟩) hS.2.2 d_M_event_184
set_option maxHeartbeats 4000000 in
set_option maxRecDepth 100000 in
theorem w_M_event_45s {res : (Int32 × Mod)} (C : Cx p s m args meth c prog_5_method_5_code 9 (Option.some FieldType.int) "PlainLibraryModel" tb D cl9 (tyy cI cJ cZ) A) {k45 : Int32 → Int64 → Int64 → Int64 → Int32 → Mod → Option (Int32 × Mod)} (hk45 : ∀ (x1 : Int32) (y2 : Int64) (y4 : Int64) (y6 : Int64) (x8 : Int32) (u : Mod) (H : Heap) (locs : List Loc) (ls : Array Slot), va_P D cl9 ((cM cI cJ cZ bd) u) H → va_D A ((cM cI cJ cZ bd) u) → va_S A s.heap H locs → lv_has ls 9 [(0, .ref (bd 0)), (1, .int x1), (2, .long y2), (4, .long y4), (6, .long y6), (8, .int x8)] → k45 x1 y2 y4 y6 x8 u = some res → W p l e rm_M_event s m args below meth c H locs 0 0 (MQ below (Qwi D cl9 (tyy cI cJ cZ) (cM cI cJ cZ bd) A res) args s 0 0 A) (F0 m 45 ls [])) (x1 : Int32) (y2 : Int64) (y4 : Int64) (y6 : Int64) (x8 : Int32) (u : Mod) (H : Heap) (locs : List Loc) (ls : Array Slot) (hP : va_P D cl9 ((cM cI cJ cZ bd) u) H) (hD : va_D A ((cM cI cJ cZ bd) u)) (hS : va_S A s.heap H locs) (hl : lv_has ls 9 [(0, .ref (bd 0)), (1, .int x1), (2, .long y2), (4, .long y4), (6, .long y6), (8, .int x8)]) (hM : B_M_event_45s k45 x1 y2 y4 y6 x8 u = some res) : W p l e rm_M_event s m args below meth c H locs 0 0 (MQ below (Qwi D cl9 (tyy cI cJ cZ) (cM cI cJ cZ bd) A res) args s 0 0 A) (F0 m 45 ls []) := by
  have C0 := C
  obtain ⟨hx, hb, hr, hml, hown, hts, hlocks, hK, hA⟩ := C
  replace C := C0
  unfold B_M_event_45s at hM
  refine lv_iload hx hb d_M_event_45 (lv_at hl 5 rfl) ?_
  refine lv_if_le (tgt := 135) hx hb d_M_event_47 (by decide) (fun c1 => ?_) (fun c1 => ?_)
  · replace hM := it_t c1 hM
    exact w_M_event_135 C x1 y2 y4 y6 x8 u H locs ls hP hD hS (lv_sub hl [0, 1, 2, 3, 4, 5] rfl) hM
  · replace hM := it_f c1 hM
    refine lv_aload_n hx hb d_M_event_50 rfl (lv_at hl 0 rfl) ?_
    refine va_get (D := D) (ci := 3) (v := .ref (bd 4)) (C := R_M) (T := T_M) (N := 21) hx hb hts in_M hown hK hP 0 rfl rfl 4 (by decide) (hts _ mm_353) (fun _ h9 => h9) rfl d_M_event_51 ?_
    refine lv_iload hx hb d_M_event_54 (lv_at hl 5 rfl) ?_
    refine lv_iconst (v := (1 : Int32)) hx hb d_M_event_56 (by decide) ?_
    refine lv_isub hx hb d_M_event_57 ?_
    obtain ⟨h2, hM⟩ := gd_some hM
    refine va_lald hx hb hK hP 4 1 rfl rfl (vp_in_iff.mpr h2) d_M_event_58 ?_
    refine lv_lload hx hb d_M_event_59 (lv_at hl 4 rfl) ?_
    refine W.lcmp hx hb d_M_event_61 ?_
    refine lv_if_le (tgt := 135) hx hb d_M_event_62 (by decide) (fun c3 => ?_) (fun c3 => ?_)
    · replace hM := it_t c3 hM
      exact w_M_event_135 C x1 y2 y4 y6 x8 u H locs ls hP hD hS (lv_sub hl [0, 1, 2, 3, 4, 5] rfl) hM
    · replace hM := it_f c3 hM
      refine lv_aload_n hx hb d_M_event_65 rfl (lv_at hl 0 rfl) ?_
      refine va_get (D := D) (ci := 3) (v := .ref (bd 1)) (C := R_M) (T := T_M) (N := 21) hx hb hts in_M hown hK hP 0 rfl rfl 1 (by decide) (hts _ mm_350) (fun _ h9 => h9) rfl d_M_event_66 ?_
      refine lv_iload hx hb d_M_event_69 (lv_at hl 5 rfl) ?_
      refine lv_aload_n hx hb d_M_event_71 rfl (lv_at hl 0 rfl) ?_
      refine va_get (D := D) (ci := 3) (v := .ref (bd 1)) (C := R_M) (T := T_M) (N := 21) hx hb hts in_M hown hK hP 0 rfl rfl 1 (by decide) (hts _ mm_350) (fun _ h9 => h9) rfl d_M_event_72 ?_
      refine lv_iload hx hb d_M_event_75 (lv_at hl 5 rfl) ?_
      refine lv_iconst (v := (1 : Int32)) hx hb d_M_event_77 (by decide) ?_
      refine lv_isub hx hb d_M_event_78 ?_
      obtain ⟨h4, hM⟩ := gd_some hM
      refine va_iald hx hb hK hP 1 0 rfl rfl (vp_in_iff.mpr h4) d_M_event_79 ?_
      obtain ⟨h5, hM⟩ := gd_some hM
      refine va_iast hx hb hK hP hD hS 1 0 rfl rfl (vp_in_iff.mpr h5) d_M_event_80 (fun H locs hP hD hS => ?_)
      have hP : va_P D cl9 ((cM cI cJ cZ bd) (m_srt_w u (upd (m_srt u) x8.toNatClampNeg ((m_srt u) (x8 - (1 : Int32)).toNatClampNeg)))) H := reP (zcM_srt cI cJ cZ bd u (upd (m_srt u) x8.toNatClampNeg ((m_srt u) (x8 - (1 : Int32)).toNatClampNeg))) hP
      have hD : va_D A ((cM cI cJ cZ bd) (m_srt_w u (upd (m_srt u) x8.toNatClampNeg ((m_srt u) (x8 - (1 : Int32)).toNatClampNeg)))) := reD (zcM_srt cI cJ cZ bd u (upd (m_srt u) x8.toNatClampNeg ((m_srt u) (x8 - (1 : Int32)).toNatClampNeg))) hD
      refine lv_aload_n hx hb d_M_event_81 rfl (lv_at hl 0 rfl) ?_
      refine va_get (D := D) (ci := 3) (v := .ref (bd 2)) (C := R_M) (T := T_M) (N := 21) hx hb hts in_M hown hK hP 0 rfl rfl 2 (by decide) (hts _ mm_351) (fun _ h9 => h9) rfl d_M_event_82 ?_
      refine lv_iload hx hb d_M_event_85 (lv_at hl 5 rfl) ?_
      refine lv_aload_n hx hb d_M_event_87 rfl (lv_at hl 0 rfl) ?_
      refine va_get (D := D) (ci := 3) (v := .ref (bd 2)) (C := R_M) (T := T_M) (N := 21) hx hb hts in_M hown hK hP 0 rfl rfl 2 (by decide) (hts _ mm_351) (fun _ h9 => h9) rfl d_M_event_88 ?_
      refine lv_iload hx hb d_M_event_91 (lv_at hl 5 rfl) ?_
      refine lv_iconst (v := (1 : Int32)) hx hb d_M_event_93 (by decide) ?_
      refine lv_isub hx hb d_M_event_94 ?_
      obtain ⟨h6, hM⟩ := gd_some hM
      refine va_iald hx hb hK hP 2 0 rfl rfl (vp_in_iff.mpr h6) d_M_event_95 ?_
      obtain ⟨h7, hM⟩ := gd_some hM
      refine va_iast hx hb hK hP hD hS 2 0 rfl rfl (vp_in_iff.mpr h7) d_M_event_96 (fun H locs hP hD hS => ?_)
      have hP : va_P D cl9 ((cM cI cJ cZ bd) (m_as_w (m_srt_w u (upd (m_srt u) x8.toNatClampNeg ((m_srt u) (x8 - (1 : Int32)).toNatClampNeg))) (upd (m_as (m_srt_w u (upd (m_srt u) x8.toNatClampNeg ((m_srt u) (x8 - (1 : Int32)).toNatClampNeg)))) x8.toNatClampNeg ((m_as (m_srt_w u (upd (m_srt u) x8.toNatClampNeg ((m_srt u) (x8 - (1 : Int32)).toNatClampNeg)))) (x8 - (1 : Int32)).toNatClampNeg)))) H := reP (zcM_as cI cJ cZ bd (m_srt_w u (upd (m_srt u) x8.toNatClampNeg ((m_srt u) (x8 - (1 : Int32)).toNatClampNeg))) (upd (m_as (m_srt_w u (upd (m_srt u) x8.toNatClampNeg ((m_srt u) (x8 - (1 : Int32)).toNatClampNeg)))) x8.toNatClampNeg ((m_as (m_srt_w u (upd (m_srt u) x8.toNatClampNeg ((m_srt u) (x8 - (1 : Int32)).toNatClampNeg)))) (x8 - (1 : Int32)).toNatClampNeg))) hP
      have hD : va_D A ((cM cI cJ cZ bd) (m_as_w (m_srt_w u (upd (m_srt u) x8.toNatClampNeg ((m_srt u) (x8 - (1 : Int32)).toNatClampNeg))) (upd (m_as (m_srt_w u (upd (m_srt u) x8.toNatClampNeg ((m_srt u) (x8 - (1 : Int32)).toNatClampNeg)))) x8.toNatClampNeg ((m_as (m_srt_w u (upd (m_srt u) x8.toNatClampNeg ((m_srt u) (x8 - (1 : Int32)).toNatClampNeg)))) (x8 - (1 : Int32)).toNatClampNeg)))) := reD (zcM_as cI cJ cZ bd (m_srt_w u (upd (m_srt u) x8.toNatClampNeg ((m_srt u) (x8 - (1 : Int32)).toNatClampNeg))) (upd (m_as (m_srt_w u (upd (m_srt u) x8.toNatClampNeg ((m_srt u) (x8 - (1 : Int32)).toNatClampNeg)))) x8.toNatClampNeg ((m_as (m_srt_w u (upd (m_srt u) x8.toNatClampNeg ((m_srt u) (x8 - (1 : Int32)).toNatClampNeg)))) (x8 - (1 : Int32)).toNatClampNeg))) hD
      obtain ⟨u8, hu8, hM⟩ := bd_some hM
      rw [Option.some.inj hu8] at hP hD
      refine lv_aload_n hx hb d_M_event_97 rfl (lv_at hl 0 rfl) ?_
      refine va_get (D := D) (ci := 3) (v := .ref (bd 3)) (C := R_M) (T := T_M) (N := 21) hx hb hts in_M hown hK hP 0 rfl rfl 3 (by decide) (hts _ mm_352) (fun _ h9 => h9) rfl d_M_event_98 ?_
      refine lv_iload hx hb d_M_event_101 (lv_at hl 5 rfl) ?_
      refine lv_aload_n hx hb d_M_event_103 rfl (lv_at hl 0 rfl) ?_
      refine va_get (D := D) (ci := 3) (v := .ref (bd 3)) (C := R_M) (T := T_M) (N := 21) hx hb hts in_M hown hK hP 0 rfl rfl 3 (by decide) (hts _ mm_352) (fun _ h9 => h9) rfl d_M_event_104 ?_
      refine lv_iload hx hb d_M_event_107 (lv_at hl 5 rfl) ?_
      refine lv_iconst (v := (1 : Int32)) hx hb d_M_event_109 (by decide) ?_
      refine lv_isub hx hb d_M_event_110 ?_
      obtain ⟨h9, hM⟩ := gd_some hM
      refine va_lald hx hb hK hP 3 1 rfl rfl (vp_in_iff.mpr h9) d_M_event_111 ?_
      obtain ⟨h10, hM⟩ := gd_some hM
      refine va_last hx hb hK hP hD hS 3 1 rfl rfl (vp_in_iff.mpr h10) d_M_event_112 (fun H locs hP hD hS => ?_)
      have hP : va_P D cl9 ((cM cI cJ cZ bd) (m_bs_w u8 (vp_updL (m_bs u8) x8.toNatClampNeg ((m_bs u8) (x8 - (1 : Int32)).toNatClampNeg)))) H := reP (zcM_bs cI cJ cZ bd u8 (vp_updL (m_bs u8) x8.toNatClampNeg ((m_bs u8) (x8 - (1 : Int32)).toNatClampNeg))) hP
      have hD : va_D A ((cM cI cJ cZ bd) (m_bs_w u8 (vp_updL (m_bs u8) x8.toNatClampNeg ((m_bs u8) (x8 - (1 : Int32)).toNatClampNeg)))) := reD (zcM_bs cI cJ cZ bd u8 (vp_updL (m_bs u8) x8.toNatClampNeg ((m_bs u8) (x8 - (1 : Int32)).toNatClampNeg))) hD
      refine lv_aload_n hx hb d_M_event_113 rfl (lv_at hl 0 rfl) ?_
      refine va_get (D := D) (ci := 3) (v := .ref (bd 4)) (C := R_M) (T := T_M) (N := 21) hx hb hts in_M hown hK hP 0 rfl rfl 4 (by decide) (hts _ mm_353) (fun _ h9 => h9) rfl d_M_event_114 ?_
      refine lv_iload hx hb d_M_event_117 (lv_at hl 5 rfl) ?_
      refine lv_aload_n hx hb d_M_event_119 rfl (lv_at hl 0 rfl) ?_
      refine va_get (D := D) (ci := 3) (v := .ref (bd 4)) (C := R_M) (T := T_M) (N := 21) hx hb hts in_M hown hK hP 0 rfl rfl 4 (by decide) (hts _ mm_353) (fun _ h9 => h9) rfl d_M_event_120 ?_
      refine lv_iload hx hb d_M_event_123 (lv_at hl 5 rfl) ?_
      refine lv_iconst (v := (1 : Int32)) hx hb d_M_event_125 (by decide) ?_
      refine lv_isub hx hb d_M_event_126 ?_
      obtain ⟨h11, hM⟩ := gd_some hM
      refine va_lald hx hb hK hP 4 1 rfl rfl (vp_in_iff.mpr h11) d_M_event_127 ?_
      obtain ⟨h12, hM⟩ := gd_some hM
      refine va_last hx hb hK hP hD hS 4 1 rfl rfl (vp_in_iff.mpr h12) d_M_event_128 (fun H locs hP hD hS => ?_)
      have hP : va_P D cl9 ((cM cI cJ cZ bd) (m_dys_w (m_bs_w u8 (vp_updL (m_bs u8) x8.toNatClampNeg ((m_bs u8) (x8 - (1 : Int32)).toNatClampNeg))) (vp_updL (m_dys (m_bs_w u8 (vp_updL (m_bs u8) x8.toNatClampNeg ((m_bs u8) (x8 - (1 : Int32)).toNatClampNeg)))) x8.toNatClampNeg ((m_dys (m_bs_w u8 (vp_updL (m_bs u8) x8.toNatClampNeg ((m_bs u8) (x8 - (1 : Int32)).toNatClampNeg)))) (x8 - (1 : Int32)).toNatClampNeg)))) H := reP (zcM_dys cI cJ cZ bd (m_bs_w u8 (vp_updL (m_bs u8) x8.toNatClampNeg ((m_bs u8) (x8 - (1 : Int32)).toNatClampNeg))) (vp_updL (m_dys (m_bs_w u8 (vp_updL (m_bs u8) x8.toNatClampNeg ((m_bs u8) (x8 - (1 : Int32)).toNatClampNeg)))) x8.toNatClampNeg ((m_dys (m_bs_w u8 (vp_updL (m_bs u8) x8.toNatClampNeg ((m_bs u8) (x8 - (1 : Int32)).toNatClampNeg)))) (x8 - (1 : Int32)).toNatClampNeg))) hP
      have hD : va_D A ((cM cI cJ cZ bd) (m_dys_w (m_bs_w u8 (vp_updL (m_bs u8) x8.toNatClampNeg ((m_bs u8) (x8 - (1 : Int32)).toNatClampNeg))) (vp_updL (m_dys (m_bs_w u8 (vp_updL (m_bs u8) x8.toNatClampNeg ((m_bs u8) (x8 - (1 : Int32)).toNatClampNeg)))) x8.toNatClampNeg ((m_dys (m_bs_w u8 (vp_updL (m_bs u8) x8.toNatClampNeg ((m_bs u8) (x8 - (1 : Int32)).toNatClampNeg)))) (x8 - (1 : Int32)).toNatClampNeg)))) := reD (zcM_dys cI cJ cZ bd (m_bs_w u8 (vp_updL (m_bs u8) x8.toNatClampNeg ((m_bs u8) (x8 - (1 : Int32)).toNatClampNeg))) (vp_updL (m_dys (m_bs_w u8 (vp_updL (m_bs u8) x8.toNatClampNeg ((m_bs u8) (x8 - (1 : Int32)).toNatClampNeg)))) x8.toNatClampNeg ((m_dys (m_bs_w u8 (vp_updL (m_bs u8) x8.toNatClampNeg ((m_bs u8) (x8 - (1 : Int32)).toNatClampNeg)))) (x8 - (1 : Int32)).toNatClampNeg))) hD
      obtain ⟨u13, hu13, hM⟩ := bd_some hM
      rw [Option.some.inj hu13] at hP hD
      refine lv_iinc (v := (x8 + (-1 : Int32))) (lv' := [(8, .int (x8 + (-1 : Int32))), (0, .ref (bd 0)), (1, .int x1), (2, .long y2), (4, .long y4), (6, .long y6)]) hx hb d_M_event_129 hl (k := 5) rfl rfl (by decide) rfl (fun ls hl => ?_)
      refine lv_goto (tgt := 45) hx hb d_M_event_132 (by decide) ?_
      exact hk45 x1 y2 y4 y6 (x8 + (-1 : Int32)) u13 H locs ls hP hD hS (lv_sub hl [1, 2, 3, 4, 5, 0] rfl) hM
theorem w_M_event_45 {res : (Int32 × Mod)} (C : Cx p s m args meth c prog_5_method_5_code 9 (Option.some FieldType.int) "PlainLibraryModel" tb D cl9 (tyy cI cJ cZ) A) : ∀ (fu : Nat) (x1 : Int32) (y2 : Int64) (y4 : Int64) (y6 : Int64) (x8 : Int32) (u : Mod) (H : Heap) (locs : List Loc) (ls : Array Slot), va_P D cl9 ((cM cI cJ cZ bd) u) H → va_D A ((cM cI cJ cZ bd) u) → va_S A s.heap H locs → lv_has ls 9 [(0, .ref (bd 0)), (1, .int x1), (2, .long y2), (4, .long y4), (6, .long y6), (8, .int x8)] → B_M_event_45 fu x1 y2 y4 y6 x8 u = some res → W p l e rm_M_event s m args below meth c H locs 0 0 (MQ below (Qwi D cl9 (tyy cI cJ cZ) (cM cI cJ cZ bd) A res) args s 0 0 A) (F0 m 45 ls []) := by
  intro fu
  induction fu with
  | zero =>
    intro x1 y2 y4 y6 x8 u H locs ls hP hD hS hl hM
    have hM : (none : Option (Int32 × Mod)) = some res := hM
    cases hM
  | succ fu ih =>
    intro x1 y2 y4 y6 x8 u H locs ls hP hD hS hl hM
    exact w_M_event_45s C ih x1 y2 y4 y6 x8 u H locs ls hP hD hS hl hM
set_option maxHeartbeats 4000000 in
set_option maxRecDepth 100000 in
theorem w_M_event_0 {res : (Int32 × Mod)} (C : Cx p s m args meth c prog_5_method_5_code 9 (Option.some FieldType.int) "PlainLibraryModel" tb D cl9 (tyy cI cJ cZ) A) (x1 : Int32) (y2 : Int64) (y4 : Int64) (y6 : Int64) (u : Mod) (H : Heap) (locs : List Loc) (ls : Array Slot) (hP : va_P D cl9 ((cM cI cJ cZ bd) u) H) (hD : va_D A ((cM cI cJ cZ bd) u)) (hS : va_S A s.heap H locs) (hl : lv_has ls 9 [(0, .ref (bd 0)), (1, .int x1), (2, .long y2), (4, .long y4), (6, .long y6)]) (hM : B_M_event_0 x1 y2 y4 y6 u = some res) : W p l e rm_M_event s m args below meth c H locs 0 0 (MQ below (Qwi D cl9 (tyy cI cJ cZ) (cM cI cJ cZ bd) A res) args s 0 0 A) (F0 m 0 ls []) := by
  have C0 := C
  obtain ⟨hx, hb, hr, hml, hown, hts, hlocks, hK, hA⟩ := C
  replace C := C0
  unfold B_M_event_0 at hM
  refine lv_aload_n hx hb d_M_event_0 rfl (lv_at hl 0 rfl) ?_
  refine lv_iconst (v := (0 : Int32)) hx hb d_M_event_1 (by decide) ?_
  refine va_put (D := D) (ci := 3) (v := .int (0 : Int32)) (ty := .int) (C := R_M) (T := T_M) (N := 21) hx hb hts in_M ty_M tk_M nm_M hown hK hP hD hS 0 rfl rfl 0 (by decide) (hts _ mm_349) (fun _ h9 => h9) rfl (by decide +kernel) rfl rfl (Nat.le_of_ble_eq_true rfl) d_M_event_2 (fun H locs hP hD hS => ?_)
  have hP : va_P D cl9 ((cM cI cJ cZ bd) (m_th_w u (0 : Int32))) H := reP (zcM_th cI cJ cZ bd u (0 : Int32)) hP
  have hD : va_D A ((cM cI cJ cZ bd) (m_th_w u (0 : Int32))) := reD (zcM_th cI cJ cZ bd u (0 : Int32)) hD
  refine lv_iload_n hx hb d_M_event_5 rfl (lv_at hl 1 rfl) ?_
  refine lv_lload_n hx hb d_M_event_6 rfl (lv_at hl 2 rfl) ?_
  refine lv_lload hx hb d_M_event_7 (lv_at hl 3 rfl) ?_
  obtain ⟨v1, hq1, hM⟩ := bd_some hM
  refine fr_i (res := v1) (va_runS (As := [.int x1, .long y2, .long y4]) (rest := []) ⟨hx, hb, hml, hown, hts⟩ (c_M_can l D cI cJ cZ H.size x1 y2 y4 v1 hq1) (va_cwS 3 hts (gS mm_418 mm_419 mm_30 mm_420) rfl rfl rfl hs_M_can ⟨Nat.le_of_ble_eq_true rfl, Nat.le_of_ble_eq_true rfl⟩) (ps_ (F := nW) (u := ()) hK nP (nD (A := fun _ => True))) rfl rfl hl.1 rfl (lv_room (Nat.le_of_ble_eq_true rfl)) d_M_event_9 ⟨Nat.le_of_ble_eq_true rfl, Nat.le_of_ble_eq_true rfl⟩) hP hS hA (fun H locs hP hS => ?_)
  refine lv_if_eq (tgt := 37) hx hb d_M_event_12 (by decide) (fun c2 => ?_) (fun c2 => ?_)
  · replace hM := it_t c2 hM
    refine lv_iconst (v := (0 : Int32)) hx hb d_M_event_37 (by decide) ?_
    obtain rfl := Option.some.inj hM
    exact W.iret (v := (0 : Int32)) hx hb hr (fun t ht hW => ⟨⟨(0 : Int32), (m_th_w u (0 : Int32)), rfl, rfl, by rw [ht]; exact hP, va_K.moved hW.alike hK, hD⟩, hS.F ht⟩) hS.2.2 d_M_event_38
  · replace hM := it_f c2 hM
    refine lv_lload hx hb d_M_event_15 (lv_at hl 4 rfl) ?_
    refine lv_lconst (v := (0 : Int64)) hx hb d_M_event_17 (by decide) ?_
    refine lv_ldc2 (v := (1000000 : Int64)) hx hb hown (hts _ mm_429) d_M_event_18 ?_
    obtain ⟨v3, hq3, hM⟩ := bd_some hM
    refine fr_i (res := v3) (va_runS (As := [.long y6, .long (0 : Int64), .long (1000000 : Int64)]) (rest := []) ⟨hx, hb, hml, hown, hts⟩ (c_M_in l D cI cJ cZ H.size y6 (0 : Int64) (1000000 : Int64) v3 hq3) (va_cwS 3 hts (gS mm_422 mm_423 mm_30 mm_424) rfl rfl rfl hs_M_in ⟨Nat.le_of_ble_eq_true rfl, Nat.le_of_ble_eq_true rfl⟩) (ps_ (F := nW) (u := ()) hK nP (nD (A := fun _ => True))) rfl rfl hl.1 rfl (lv_room (Nat.le_of_ble_eq_true rfl)) d_M_event_21 ⟨Nat.le_of_ble_eq_true rfl, Nat.le_of_ble_eq_true rfl⟩) hP hS hA (fun H locs hP hS => ?_)
    refine lv_if_eq (tgt := 37) hx hb d_M_event_24 (by decide) (fun c4 => ?_) (fun c4 => ?_)
    · replace hM := it_t c4 hM
      refine lv_iconst (v := (0 : Int32)) hx hb d_M_event_37 (by decide) ?_
      obtain rfl := Option.some.inj hM
      exact W.iret (v := (0 : Int32)) hx hb hr (fun t ht hW => ⟨⟨(0 : Int32), (m_th_w u (0 : Int32)), rfl, rfl, by rw [ht]; exact hP, va_K.moved hW.alike hK, hD⟩, hS.F ht⟩) hS.2.2 d_M_event_38
    · replace hM := it_f c4 hM
      refine lv_aload_n hx hb d_M_event_27 rfl (lv_at hl 0 rfl) ?_
      refine va_get (D := D) (ci := 3) (v := .int (m_ct (m_th_w u (0 : Int32)))) (C := R_M) (T := T_M) (N := 21) hx hb hts in_M hown hK hP 0 rfl rfl 5 (by decide) (hts _ mm_354) (fun _ h9 => h9) rfl d_M_event_28 ?_
      refine lv_sipush (v := (200 : Int32)) hx hb d_M_event_31 (by decide) ?_
      refine lv_icmp_ne (tgt := 39) hx hb d_M_event_34 (by decide) (fun c5 => ?_) (fun c5 => ?_)
      · replace hM := it_f c5 hM
        refine lv_aload_n hx hb d_M_event_39 rfl (lv_at hl 0 rfl) ?_
        refine va_get (D := D) (ci := 3) (v := .int (m_ct (m_th_w u (0 : Int32)))) (C := R_M) (T := T_M) (N := 21) hx hb hts in_M hown hK hP 0 rfl rfl 5 (by decide) (hts _ mm_354) (fun _ h9 => h9) rfl d_M_event_40 ?_
        refine lv_istore (lv' := [(8, .int (m_ct (m_th_w u (0 : Int32)))), (0, .ref (bd 0)), (1, .int x1), (2, .long y2), (4, .long y4), (6, .long y6)]) hx hb d_M_event_43 hl (by decide) rfl (fun ls hl => ?_)
        exact w_M_event_45 C FU x1 y2 y4 y6 (m_ct (m_th_w u (0 : Int32))) (m_th_w u (0 : Int32)) H locs ls hP hD hS (lv_sub hl [1, 2, 3, 4, 5, 0] rfl) hM
      · replace hM := it_t c5 hM
        refine lv_iconst (v := (0 : Int32)) hx hb d_M_event_37 (by decide) ?_
        obtain rfl := Option.some.inj hM
        exact W.iret (v := (0 : Int32)) hx hb hr (fun t ht hW => ⟨⟨(0 : Int32), (m_th_w u (0 : Int32)), rfl, rfl, by rw [ht]; exact hP, va_K.moved hW.alike hK, hD⟩, hS.F ht⟩) hS.2.2 d_M_event_38
end
set_option maxRecDepth 100000 in
theorem c_M_event (l : Launch) (D : va_G) (cI cJ cZ : ClassId) (bd : Nat → Nat) (sz : Nat) (x1 : Int32) (y2 : Int64) (y4 : Int64) (y6 : Int64) (u : Mod) (res : (Int32 × Mod)) (hM : B_M_event_0 x1 y2 y4 y6 u = some res) : Met l y_M_event ws_M_event rm_M_event (va_Pc [.ref (bd 0), .int x1, .long y2, .long y4, .long y6] (pr_ D cl9 (tyy cI cJ cZ) (cM cI cJ cZ bd) u sz)) (Qwi D cl9 (tyy cI cJ cZ) (cM cI cJ cZ bd) (va_A ((cM cI cJ cZ bd) u) sz) res) 0 0 (va_A ((cM cI cJ cZ bd) u) sz) := by
  refine Met.ofW (cc := prog_5_method_5_code) (maxL := 9) (ret := (Option.some FieldType.int)) (by decide) rfl ?_
  intro p e s m args below meth c s₁ B hml hv
  obtain ⟨rfl, hsz, hP, hK, hD0⟩ := hv
  subst hsz
  have hts0 := atoms_spec (ws := ws_M_event) B.pre
  have hl := lv_entry ([.ref (bd 0), .int x1, .long y2, .long y4, .long y6]) (n := 9) (Nat.le_of_ble_eq_true rfl)
  rw [lg_entry_eq]
  generalize (lg_sl ([.ref (bd 0), .int x1, .long y2, .long y4, .long y6]) ++ List.replicate (9 - (lg_sl ([.ref (bd 0), .int x1, .long y2, .long y4, .long y6])).length) Slot.unset).toArray = ls at hl ⊢
  exact w_M_event_0 ⟨B.exec, B.bytes, B.returns, hml, findClass_of_methodNamed B.named, fun w h => hts0 w (List.mem_cons_of_mem _ h), B.notSynchronized, hK, fun q h => Or.inr h⟩ x1 y2 y4 y6 u s.heap [] ls hP hD0.self va_S.rf hl hM
section
variable {p : Program} {l : Launch} {e : Env} {s : State} {m : MethodId} {args : Array Value} {below : List Frame} {meth : Method} {c : Code} {D : va_G} {cI cJ cZ : ClassId} {A : Nat → Prop} {bd : Nat → Nat}
set_option maxHeartbeats 4000000 in
set_option maxRecDepth 100000 in
theorem w_M_clear_94s {res : Mod} (C : Cx p s m args meth c prog_5_method_6_code 2 (Option.none : Option FieldType) "PlainLibraryModel" tb D cl9 (tyy cI cJ cZ) A) {k94 : Int32 → Mod → Option Mod} (hk94 : ∀ (x1 : Int32) (u : Mod) (H : Heap) (locs : List Loc) (ls : Array Slot), va_P D cl9 ((cM cI cJ cZ bd) u) H → va_D A ((cM cI cJ cZ bd) u) → va_S A s.heap H locs → lv_has ls 2 [(0, .ref (bd 0)), (1, .int x1)] → k94 x1 u = some res → W p l e rm_M_clear s m args below meth c H locs 0 0 (MQ below (Qwv D cl9 (tyy cI cJ cZ) (cM cI cJ cZ bd) A res) args s 0 0 A) (F0 m 94 ls [])) (x1 : Int32) (u : Mod) (H : Heap) (locs : List Loc) (ls : Array Slot) (hP : va_P D cl9 ((cM cI cJ cZ bd) u) H) (hD : va_D A ((cM cI cJ cZ bd) u)) (hS : va_S A s.heap H locs) (hl : lv_has ls 2 [(0, .ref (bd 0)), (1, .int x1)]) (hM : B_M_clear_94s k94 x1 u = some res) : W p l e rm_M_clear s m args below meth c H locs 0 0 (MQ below (Qwv D cl9 (tyy cI cJ cZ) (cM cI cJ cZ bd) A res) args s 0 0 A) (F0 m 94 ls []) := by
  have C0 := C
  obtain ⟨hx, hb, hr, hml, hown, hts, hlocks, hK, hA⟩ := C
  replace C := C0
  unfold B_M_clear_94s at hM
  refine lv_iload_n hx hb d_M_clear_94 rfl (lv_at hl 1 rfl) ?_
  refine lv_bipush (v := (10 : Int32)) hx hb d_M_clear_95 (by decide) ?_
  refine lv_icmp_ge (tgt := 114) hx hb d_M_clear_97 (by decide) (fun c1 => ?_) (fun c1 => ?_)
  · replace hM := it_t c1 hM
    refine lv_aload_n hx hb d_M_clear_114 rfl (lv_at hl 0 rfl) ?_
    refine lv_iconst (v := (0 : Int32)) hx hb d_M_clear_115 (by decide) ?_
    refine va_put (D := D) (ci := 3) (v := .int (0 : Int32)) (ty := .int) (C := R_M) (T := T_M) (N := 21) hx hb hts in_M ty_M tk_M nm_M hown hK hP hD hS 0 rfl rfl 17 (by decide) (hts _ mm_366) (fun _ h9 => h9) rfl (by decide +kernel) rfl rfl (Nat.le_of_ble_eq_true rfl) d_M_clear_116 (fun H locs hP hD hS => ?_)
    have hP : va_P D cl9 ((cM cI cJ cZ bd) (m_vd_w u (0 : Int32))) H := reP (zcM_vd cI cJ cZ bd u (0 : Int32)) hP
    have hD : va_D A ((cM cI cJ cZ bd) (m_vd_w u (0 : Int32))) := reD (zcM_vd cI cJ cZ bd u (0 : Int32)) hD
    refine lv_aload_n hx hb d_M_clear_119 rfl (lv_at hl 0 rfl) ?_
    refine lv_iconst (v := (0 : Int32)) hx hb d_M_clear_120 (by decide) ?_
    refine va_put (D := D) (ci := 3) (v := .int (0 : Int32)) (ty := .int) (C := R_M) (T := T_M) (N := 21) hx hb hts in_M ty_M tk_M nm_M hown hK hP hD hS 0 rfl rfl 18 (by decide) (hts _ mm_367) (fun _ h9 => h9) rfl (by decide +kernel) rfl rfl (Nat.le_of_ble_eq_true rfl) d_M_clear_121 (fun H locs hP hD hS => ?_)
    have hP : va_P D cl9 ((cM cI cJ cZ bd) (m_pk_w (m_vd_w u (0 : Int32)) (0 : Int32))) H := reP (zcM_pk cI cJ cZ bd (m_vd_w u (0 : Int32)) (0 : Int32)) hP
    have hD : va_D A ((cM cI cJ cZ bd) (m_pk_w (m_vd_w u (0 : Int32)) (0 : Int32))) := reD (zcM_pk cI cJ cZ bd (m_vd_w u (0 : Int32)) (0 : Int32)) hD
    obtain rfl := Option.some.inj hM
    exact W.vret hx hb hr (fun t ht hW => ⟨⟨(m_pk_w (m_vd_w u (0 : Int32)) (0 : Int32)), rfl, rfl, by rw [ht]; exact hP, va_K.moved hW.alike hK, hD⟩, hS.F ht⟩) hS.2.2 d_M_clear_124
  · replace hM := it_f c1 hM
    refine lv_aload_n hx hb d_M_clear_100 rfl (lv_at hl 0 rfl) ?_
    refine va_get (D := D) (ci := 3) (v := .ref (bd 13)) (C := R_M) (T := T_M) (N := 21) hx hb hts in_M hown hK hP 0 rfl rfl 14 (by decide) (hts _ mm_363) (fun _ h9 => h9) rfl d_M_clear_101 ?_
    refine lv_iload_n hx hb d_M_clear_104 rfl (lv_at hl 1 rfl) ?_
    refine lv_bipush (v := (28 : Int32)) hx hb d_M_clear_105 (by decide) ?_
    obtain ⟨h2, hM⟩ := gd_some hM
    refine va_iast hx hb hK hP hD hS 13 0 rfl rfl (vp_in_iff.mpr h2) d_M_clear_107 (fun H locs hP hD hS => ?_)
    have hP : va_P D cl9 ((cM cI cJ cZ bd) (m_ln_w u (upd (m_ln u) x1.toNatClampNeg (28 : Int32)))) H := reP (zcM_ln cI cJ cZ bd u (upd (m_ln u) x1.toNatClampNeg (28 : Int32))) hP
    have hD : va_D A ((cM cI cJ cZ bd) (m_ln_w u (upd (m_ln u) x1.toNatClampNeg (28 : Int32)))) := reD (zcM_ln cI cJ cZ bd u (upd (m_ln u) x1.toNatClampNeg (28 : Int32))) hD
    refine lv_iinc (v := (x1 + (1 : Int32))) (lv' := [(1, .int (x1 + (1 : Int32))), (0, .ref (bd 0))]) hx hb d_M_clear_108 hl (k := 1) rfl rfl (by decide) rfl (fun ls hl => ?_)
    refine lv_goto (tgt := 94) hx hb d_M_clear_111 (by decide) ?_
    exact hk94 (x1 + (1 : Int32)) (m_ln_w u (upd (m_ln u) x1.toNatClampNeg (28 : Int32))) H locs ls hP hD hS (lv_sub hl [1, 0] rfl) hM
theorem w_M_clear_94 {res : Mod} (C : Cx p s m args meth c prog_5_method_6_code 2 (Option.none : Option FieldType) "PlainLibraryModel" tb D cl9 (tyy cI cJ cZ) A) : ∀ (fu : Nat) (x1 : Int32) (u : Mod) (H : Heap) (locs : List Loc) (ls : Array Slot), va_P D cl9 ((cM cI cJ cZ bd) u) H → va_D A ((cM cI cJ cZ bd) u) → va_S A s.heap H locs → lv_has ls 2 [(0, .ref (bd 0)), (1, .int x1)] → B_M_clear_94 fu x1 u = some res → W p l e rm_M_clear s m args below meth c H locs 0 0 (MQ below (Qwv D cl9 (tyy cI cJ cZ) (cM cI cJ cZ bd) A res) args s 0 0 A) (F0 m 94 ls []) := by
  intro fu
  induction fu with
  | zero =>
    intro x1 u H locs ls hP hD hS hl hM
    have hM : (none : Option Mod) = some res := hM
    cases hM
  | succ fu ih =>
    intro x1 u H locs ls hP hD hS hl hM
    exact w_M_clear_94s C ih x1 u H locs ls hP hD hS hl hM
set_option maxHeartbeats 4000000 in
set_option maxRecDepth 100000 in
theorem w_M_clear_73s {res : Mod} (C : Cx p s m args meth c prog_5_method_6_code 2 (Option.none : Option FieldType) "PlainLibraryModel" tb D cl9 (tyy cI cJ cZ) A) {k73 : Int32 → Mod → Option Mod} (hk73 : ∀ (x1 : Int32) (u : Mod) (H : Heap) (locs : List Loc) (ls : Array Slot), va_P D cl9 ((cM cI cJ cZ bd) u) H → va_D A ((cM cI cJ cZ bd) u) → va_S A s.heap H locs → lv_has ls 2 [(0, .ref (bd 0)), (1, .int x1)] → k73 x1 u = some res → W p l e rm_M_clear s m args below meth c H locs 0 0 (MQ below (Qwv D cl9 (tyy cI cJ cZ) (cM cI cJ cZ bd) A res) args s 0 0 A) (F0 m 73 ls [])) (x1 : Int32) (u : Mod) (H : Heap) (locs : List Loc) (ls : Array Slot) (hP : va_P D cl9 ((cM cI cJ cZ bd) u) H) (hD : va_D A ((cM cI cJ cZ bd) u)) (hS : va_S A s.heap H locs) (hl : lv_has ls 2 [(0, .ref (bd 0)), (1, .int x1)]) (hM : B_M_clear_73s k73 x1 u = some res) : W p l e rm_M_clear s m args below meth c H locs 0 0 (MQ below (Qwv D cl9 (tyy cI cJ cZ) (cM cI cJ cZ bd) A res) args s 0 0 A) (F0 m 73 ls []) := by
  have C0 := C
  obtain ⟨hx, hb, hr, hml, hown, hts, hlocks, hK, hA⟩ := C
  replace C := C0
  unfold B_M_clear_73s at hM
  refine lv_iload_n hx hb d_M_clear_73 rfl (lv_at hl 1 rfl) ?_
  refine lv_bipush (v := (126 : Int32)) hx hb d_M_clear_74 (by decide) ?_
  refine lv_icmp_ge (tgt := 92) hx hb d_M_clear_76 (by decide) (fun c1 => ?_) (fun c1 => ?_)
  · replace hM := it_t c1 hM
    refine lv_iconst (v := (0 : Int32)) hx hb d_M_clear_92 (by decide) ?_
    refine lv_istore_n (lv' := [(1, .int (0 : Int32)), (0, .ref (bd 0))]) hx hb d_M_clear_93 rfl hl (by decide) rfl (fun ls hl => ?_)
    exact w_M_clear_94 C FU (0 : Int32) u H locs ls hP hD hS (lv_sub hl [1, 0] rfl) hM
  · replace hM := it_f c1 hM
    refine lv_aload_n hx hb d_M_clear_79 rfl (lv_at hl 0 rfl) ?_
    refine va_get (D := D) (ci := 3) (v := .ref (bd 11)) (C := R_M) (T := T_M) (N := 21) hx hb hts in_M hown hK hP 0 rfl rfl 12 (by decide) (hts _ mm_361) (fun _ h9 => h9) rfl d_M_clear_80 ?_
    refine lv_iload_n hx hb d_M_clear_83 rfl (lv_at hl 1 rfl) ?_
    refine lv_iconst (v := (-1 : Int32)) hx hb d_M_clear_84 (by decide) ?_
    obtain ⟨h2, hM⟩ := gd_some hM
    refine va_iast hx hb hK hP hD hS 11 0 rfl rfl (vp_in_iff.mpr h2) d_M_clear_85 (fun H locs hP hD hS => ?_)
    have hP : va_P D cl9 ((cM cI cJ cZ bd) (m_sm_w u (upd (m_sm u) x1.toNatClampNeg (-1 : Int32)))) H := reP (zcM_sm cI cJ cZ bd u (upd (m_sm u) x1.toNatClampNeg (-1 : Int32))) hP
    have hD : va_D A ((cM cI cJ cZ bd) (m_sm_w u (upd (m_sm u) x1.toNatClampNeg (-1 : Int32)))) := reD (zcM_sm cI cJ cZ bd u (upd (m_sm u) x1.toNatClampNeg (-1 : Int32))) hD
    refine lv_iinc (v := (x1 + (1 : Int32))) (lv' := [(1, .int (x1 + (1 : Int32))), (0, .ref (bd 0))]) hx hb d_M_clear_86 hl (k := 1) rfl rfl (by decide) rfl (fun ls hl => ?_)
    refine lv_goto (tgt := 73) hx hb d_M_clear_89 (by decide) ?_
    exact hk73 (x1 + (1 : Int32)) (m_sm_w u (upd (m_sm u) x1.toNatClampNeg (-1 : Int32))) H locs ls hP hD hS (lv_sub hl [1, 0] rfl) hM
theorem w_M_clear_73 {res : Mod} (C : Cx p s m args meth c prog_5_method_6_code 2 (Option.none : Option FieldType) "PlainLibraryModel" tb D cl9 (tyy cI cJ cZ) A) : ∀ (fu : Nat) (x1 : Int32) (u : Mod) (H : Heap) (locs : List Loc) (ls : Array Slot), va_P D cl9 ((cM cI cJ cZ bd) u) H → va_D A ((cM cI cJ cZ bd) u) → va_S A s.heap H locs → lv_has ls 2 [(0, .ref (bd 0)), (1, .int x1)] → B_M_clear_73 fu x1 u = some res → W p l e rm_M_clear s m args below meth c H locs 0 0 (MQ below (Qwv D cl9 (tyy cI cJ cZ) (cM cI cJ cZ bd) A res) args s 0 0 A) (F0 m 73 ls []) := by
  intro fu
  induction fu with
  | zero =>
    intro x1 u H locs ls hP hD hS hl hM
    have hM : (none : Option Mod) = some res := hM
    cases hM
  | succ fu ih =>
    intro x1 u H locs ls hP hD hS hl hM
    exact w_M_clear_73s C ih x1 u H locs ls hP hD hS hl hM
set_option maxHeartbeats 4000000 in
set_option maxRecDepth 100000 in
theorem w_M_clear_24s {res : Mod} (C : Cx p s m args meth c prog_5_method_6_code 2 (Option.none : Option FieldType) "PlainLibraryModel" tb D cl9 (tyy cI cJ cZ) A) {k24 : Int32 → Mod → Option Mod} (hk24 : ∀ (x1 : Int32) (u : Mod) (H : Heap) (locs : List Loc) (ls : Array Slot), va_P D cl9 ((cM cI cJ cZ bd) u) H → va_D A ((cM cI cJ cZ bd) u) → va_S A s.heap H locs → lv_has ls 2 [(0, .ref (bd 0)), (1, .int x1)] → k24 x1 u = some res → W p l e rm_M_clear s m args below meth c H locs 0 0 (MQ below (Qwv D cl9 (tyy cI cJ cZ) (cM cI cJ cZ bd) A res) args s 0 0 A) (F0 m 24 ls [])) (x1 : Int32) (u : Mod) (H : Heap) (locs : List Loc) (ls : Array Slot) (hP : va_P D cl9 ((cM cI cJ cZ bd) u) H) (hD : va_D A ((cM cI cJ cZ bd) u)) (hS : va_S A s.heap H locs) (hl : lv_has ls 2 [(0, .ref (bd 0)), (1, .int x1)]) (hM : B_M_clear_24s k24 x1 u = some res) : W p l e rm_M_clear s m args below meth c H locs 0 0 (MQ below (Qwv D cl9 (tyy cI cJ cZ) (cM cI cJ cZ bd) A res) args s 0 0 A) (F0 m 24 ls []) := by
  have C0 := C
  obtain ⟨hx, hb, hr, hml, hown, hts, hlocks, hK, hA⟩ := C
  replace C := C0
  unfold B_M_clear_24s at hM
  refine lv_iload_n hx hb d_M_clear_24 rfl (lv_at hl 1 rfl) ?_
  refine lv_bipush (v := (21 : Int32)) hx hb d_M_clear_25 (by decide) ?_
  refine lv_icmp_ge (tgt := 71) hx hb d_M_clear_27 (by decide) (fun c1 => ?_) (fun c1 => ?_)
  · replace hM := it_t c1 hM
    refine lv_iconst (v := (0 : Int32)) hx hb d_M_clear_71 (by decide) ?_
    refine lv_istore_n (lv' := [(1, .int (0 : Int32)), (0, .ref (bd 0))]) hx hb d_M_clear_72 rfl hl (by decide) rfl (fun ls hl => ?_)
    exact w_M_clear_73 C FU (0 : Int32) u H locs ls hP hD hS (lv_sub hl [1, 0] rfl) hM
  · replace hM := it_f c1 hM
    refine lv_aload_n hx hb d_M_clear_30 rfl (lv_at hl 0 rfl) ?_
    refine va_get (D := D) (ci := 3) (v := .ref (bd 6)) (C := R_M) (T := T_M) (N := 21) hx hb hts in_M hown hK hP 0 rfl rfl 7 (by decide) (hts _ mm_356) (fun _ h9 => h9) rfl d_M_clear_31 ?_
    refine lv_iload_n hx hb d_M_clear_34 rfl (lv_at hl 1 rfl) ?_
    refine lv_iconst (v := (0 : Int32)) hx hb d_M_clear_35 (by decide) ?_
    obtain ⟨h2, hM⟩ := gd_some hM
    refine va_iast hx hb hK hP hD hS 6 0 rfl rfl (vp_in_iff.mpr h2) d_M_clear_36 (fun H locs hP hD hS => ?_)
    have hP : va_P D cl9 ((cM cI cJ cZ bd) (m_rec_w u (upd (m_rec u) x1.toNatClampNeg (0 : Int32)))) H := reP (zcM_rec cI cJ cZ bd u (upd (m_rec u) x1.toNatClampNeg (0 : Int32))) hP
    have hD : va_D A ((cM cI cJ cZ bd) (m_rec_w u (upd (m_rec u) x1.toNatClampNeg (0 : Int32)))) := reD (zcM_rec cI cJ cZ bd u (upd (m_rec u) x1.toNatClampNeg (0 : Int32))) hD
    refine lv_aload_n hx hb d_M_clear_37 rfl (lv_at hl 0 rfl) ?_
    refine va_get (D := D) (ci := 3) (v := .ref (bd 7)) (C := R_M) (T := T_M) (N := 21) hx hb hts in_M hown hK hP 0 rfl rfl 8 (by decide) (hts _ mm_357) (fun _ h9 => h9) rfl d_M_clear_38 ?_
    refine lv_iload_n hx hb d_M_clear_41 rfl (lv_at hl 1 rfl) ?_
    refine lv_iconst (v := (0 : Int32)) hx hb d_M_clear_42 (by decide) ?_
    obtain ⟨h3, hM⟩ := gd_some hM
    refine va_iast hx hb hK hP hD hS 7 0 rfl rfl (vp_in_iff.mpr h3) d_M_clear_43 (fun H locs hP hD hS => ?_)
    have hP : va_P D cl9 ((cM cI cJ cZ bd) (m_per_w (m_rec_w u (upd (m_rec u) x1.toNatClampNeg (0 : Int32))) (upd (m_per (m_rec_w u (upd (m_rec u) x1.toNatClampNeg (0 : Int32)))) x1.toNatClampNeg (0 : Int32)))) H := reP (zcM_per cI cJ cZ bd (m_rec_w u (upd (m_rec u) x1.toNatClampNeg (0 : Int32))) (upd (m_per (m_rec_w u (upd (m_rec u) x1.toNatClampNeg (0 : Int32)))) x1.toNatClampNeg (0 : Int32))) hP
    have hD : va_D A ((cM cI cJ cZ bd) (m_per_w (m_rec_w u (upd (m_rec u) x1.toNatClampNeg (0 : Int32))) (upd (m_per (m_rec_w u (upd (m_rec u) x1.toNatClampNeg (0 : Int32)))) x1.toNatClampNeg (0 : Int32)))) := reD (zcM_per cI cJ cZ bd (m_rec_w u (upd (m_rec u) x1.toNatClampNeg (0 : Int32))) (upd (m_per (m_rec_w u (upd (m_rec u) x1.toNatClampNeg (0 : Int32)))) x1.toNatClampNeg (0 : Int32))) hD
    obtain ⟨u4, hu4, hM⟩ := bd_some hM
    rw [Option.some.inj hu4] at hP hD
    refine lv_aload_n hx hb d_M_clear_44 rfl (lv_at hl 0 rfl) ?_
    refine va_get (D := D) (ci := 3) (v := .ref (bd 8)) (C := R_M) (T := T_M) (N := 21) hx hb hts in_M hown hK hP 0 rfl rfl 9 (by decide) (hts _ mm_358) (fun _ h9 => h9) rfl d_M_clear_45 ?_
    refine lv_iload_n hx hb d_M_clear_48 rfl (lv_at hl 1 rfl) ?_
    refine lv_lconst (v := (0 : Int64)) hx hb d_M_clear_49 (by decide) ?_
    obtain ⟨h5, hM⟩ := gd_some hM
    refine va_last hx hb hK hP hD hS 8 1 rfl rfl (vp_in_iff.mpr h5) d_M_clear_50 (fun H locs hP hD hS => ?_)
    have hP : va_P D cl9 ((cM cI cJ cZ bd) (m_due_w u4 (vp_updL (m_due u4) x1.toNatClampNeg (0 : Int64)))) H := reP (zcM_due cI cJ cZ bd u4 (vp_updL (m_due u4) x1.toNatClampNeg (0 : Int64))) hP
    have hD : va_D A ((cM cI cJ cZ bd) (m_due_w u4 (vp_updL (m_due u4) x1.toNatClampNeg (0 : Int64)))) := reD (zcM_due cI cJ cZ bd u4 (vp_updL (m_due u4) x1.toNatClampNeg (0 : Int64))) hD
    refine lv_aload_n hx hb d_M_clear_51 rfl (lv_at hl 0 rfl) ?_
    refine va_get (D := D) (ci := 3) (v := .ref (bd 10)) (C := R_M) (T := T_M) (N := 21) hx hb hts in_M hown hK hP 0 rfl rfl 11 (by decide) (hts _ mm_360) (fun _ h9 => h9) rfl d_M_clear_52 ?_
    refine lv_iload_n hx hb d_M_clear_55 rfl (lv_at hl 1 rfl) ?_
    refine lv_iconst (v := (0 : Int32)) hx hb d_M_clear_56 (by decide) ?_
    obtain ⟨h6, hM⟩ := gd_some hM
    refine va_iast hx hb hK hP hD hS 10 0 rfl rfl (vp_in_iff.mpr h6) d_M_clear_57 (fun H locs hP hD hS => ?_)
    have hP : va_P D cl9 ((cM cI cJ cZ bd) (m_qs_w (m_due_w u4 (vp_updL (m_due u4) x1.toNatClampNeg (0 : Int64))) (upd (m_qs (m_due_w u4 (vp_updL (m_due u4) x1.toNatClampNeg (0 : Int64)))) x1.toNatClampNeg (0 : Int32)))) H := reP (zcM_qs cI cJ cZ bd (m_due_w u4 (vp_updL (m_due u4) x1.toNatClampNeg (0 : Int64))) (upd (m_qs (m_due_w u4 (vp_updL (m_due u4) x1.toNatClampNeg (0 : Int64)))) x1.toNatClampNeg (0 : Int32))) hP
    have hD : va_D A ((cM cI cJ cZ bd) (m_qs_w (m_due_w u4 (vp_updL (m_due u4) x1.toNatClampNeg (0 : Int64))) (upd (m_qs (m_due_w u4 (vp_updL (m_due u4) x1.toNatClampNeg (0 : Int64)))) x1.toNatClampNeg (0 : Int32)))) := reD (zcM_qs cI cJ cZ bd (m_due_w u4 (vp_updL (m_due u4) x1.toNatClampNeg (0 : Int64))) (upd (m_qs (m_due_w u4 (vp_updL (m_due u4) x1.toNatClampNeg (0 : Int64)))) x1.toNatClampNeg (0 : Int32))) hD
    obtain ⟨u7, hu7, hM⟩ := bd_some hM
    rw [Option.some.inj hu7] at hP hD
    refine lv_aload_n hx hb d_M_clear_58 rfl (lv_at hl 0 rfl) ?_
    refine va_get (D := D) (ci := 3) (v := .ref (bd 12)) (C := R_M) (T := T_M) (N := 21) hx hb hts in_M hown hK hP 0 rfl rfl 13 (by decide) (hts _ mm_362) (fun _ h9 => h9) rfl d_M_clear_59 ?_
    refine lv_iload_n hx hb d_M_clear_62 rfl (lv_at hl 1 rfl) ?_
    refine lv_iconst (v := (0 : Int32)) hx hb d_M_clear_63 (by decide) ?_
    obtain ⟨h8, hM⟩ := gd_some hM
    refine va_iast hx hb hK hP hD hS 12 0 rfl rfl (vp_in_iff.mpr h8) d_M_clear_64 (fun H locs hP hD hS => ?_)
    have hP : va_P D cl9 ((cM cI cJ cZ bd) (m_cls_w u7 (upd (m_cls u7) x1.toNatClampNeg (0 : Int32)))) H := reP (zcM_cls cI cJ cZ bd u7 (upd (m_cls u7) x1.toNatClampNeg (0 : Int32))) hP
    have hD : va_D A ((cM cI cJ cZ bd) (m_cls_w u7 (upd (m_cls u7) x1.toNatClampNeg (0 : Int32)))) := reD (zcM_cls cI cJ cZ bd u7 (upd (m_cls u7) x1.toNatClampNeg (0 : Int32))) hD
    refine lv_iinc (v := (x1 + (1 : Int32))) (lv' := [(1, .int (x1 + (1 : Int32))), (0, .ref (bd 0))]) hx hb d_M_clear_65 hl (k := 1) rfl rfl (by decide) rfl (fun ls hl => ?_)
    refine lv_goto (tgt := 24) hx hb d_M_clear_68 (by decide) ?_
    exact hk24 (x1 + (1 : Int32)) (m_cls_w u7 (upd (m_cls u7) x1.toNatClampNeg (0 : Int32))) H locs ls hP hD hS (lv_sub hl [1, 0] rfl) hM
theorem w_M_clear_24 {res : Mod} (C : Cx p s m args meth c prog_5_method_6_code 2 (Option.none : Option FieldType) "PlainLibraryModel" tb D cl9 (tyy cI cJ cZ) A) : ∀ (fu : Nat) (x1 : Int32) (u : Mod) (H : Heap) (locs : List Loc) (ls : Array Slot), va_P D cl9 ((cM cI cJ cZ bd) u) H → va_D A ((cM cI cJ cZ bd) u) → va_S A s.heap H locs → lv_has ls 2 [(0, .ref (bd 0)), (1, .int x1)] → B_M_clear_24 fu x1 u = some res → W p l e rm_M_clear s m args below meth c H locs 0 0 (MQ below (Qwv D cl9 (tyy cI cJ cZ) (cM cI cJ cZ bd) A res) args s 0 0 A) (F0 m 24 ls []) := by
  intro fu
  induction fu with
  | zero =>
    intro x1 u H locs ls hP hD hS hl hM
    have hM : (none : Option Mod) = some res := hM
    cases hM
  | succ fu ih =>
    intro x1 u H locs ls hP hD hS hl hM
    exact w_M_clear_24s C ih x1 u H locs ls hP hD hS hl hM
set_option maxHeartbeats 4000000 in
set_option maxRecDepth 100000 in
theorem w_M_clear_2s {res : Mod} (C : Cx p s m args meth c prog_5_method_6_code 2 (Option.none : Option FieldType) "PlainLibraryModel" tb D cl9 (tyy cI cJ cZ) A) {k2 : Int32 → Mod → Option Mod} (hk2 : ∀ (x1 : Int32) (u : Mod) (H : Heap) (locs : List Loc) (ls : Array Slot), va_P D cl9 ((cM cI cJ cZ bd) u) H → va_D A ((cM cI cJ cZ bd) u) → va_S A s.heap H locs → lv_has ls 2 [(0, .ref (bd 0)), (1, .int x1)] → k2 x1 u = some res → W p l e rm_M_clear s m args below meth c H locs 0 0 (MQ below (Qwv D cl9 (tyy cI cJ cZ) (cM cI cJ cZ bd) A res) args s 0 0 A) (F0 m 2 ls [])) (x1 : Int32) (u : Mod) (H : Heap) (locs : List Loc) (ls : Array Slot) (hP : va_P D cl9 ((cM cI cJ cZ bd) u) H) (hD : va_D A ((cM cI cJ cZ bd) u)) (hS : va_S A s.heap H locs) (hl : lv_has ls 2 [(0, .ref (bd 0)), (1, .int x1)]) (hM : B_M_clear_2s k2 x1 u = some res) : W p l e rm_M_clear s m args below meth c H locs 0 0 (MQ below (Qwv D cl9 (tyy cI cJ cZ) (cM cI cJ cZ bd) A res) args s 0 0 A) (F0 m 2 ls []) := by
  have C0 := C
  obtain ⟨hx, hb, hr, hml, hown, hts, hlocks, hK, hA⟩ := C
  replace C := C0
  unfold B_M_clear_2s at hM
  refine lv_iload_n hx hb d_M_clear_2 rfl (lv_at hl 1 rfl) ?_
  refine lv_sipush (v := (2100 : Int32)) hx hb d_M_clear_3 (by decide) ?_
  refine lv_icmp_ge (tgt := 22) hx hb d_M_clear_6 (by decide) (fun c1 => ?_) (fun c1 => ?_)
  · replace hM := it_t c1 hM
    refine lv_iconst (v := (0 : Int32)) hx hb d_M_clear_22 (by decide) ?_
    refine lv_istore_n (lv' := [(1, .int (0 : Int32)), (0, .ref (bd 0))]) hx hb d_M_clear_23 rfl hl (by decide) rfl (fun ls hl => ?_)
    exact w_M_clear_24 C FU (0 : Int32) u H locs ls hP hD hS (lv_sub hl [1, 0] rfl) hM
  · replace hM := it_f c1 hM
    refine lv_aload_n hx hb d_M_clear_9 rfl (lv_at hl 0 rfl) ?_
    refine va_get (D := D) (ci := 3) (v := .ref (bd 5)) (C := R_M) (T := T_M) (N := 21) hx hb hts in_M hown hK hP 0 rfl rfl 6 (by decide) (hts _ mm_355) (fun _ h9 => h9) rfl d_M_clear_10 ?_
    refine lv_iload_n hx hb d_M_clear_13 rfl (lv_at hl 1 rfl) ?_
    refine lv_iconst (v := (0 : Int32)) hx hb d_M_clear_14 (by decide) ?_
    obtain ⟨h2, hM⟩ := gd_some hM
    refine va_zast hx hb hK hP hD hS 5 2 rfl rfl (vp_in_iff.mpr h2) d_M_clear_15 (fun H locs hP hD hS => ?_)
    have hP : va_P D cl9 ((cM cI cJ cZ bd) (m_hd_w u (upd (m_hd u) x1.toNatClampNeg (vp_nar .boolean (0 : Int32))))) H := reP (zcM_hd cI cJ cZ bd u (upd (m_hd u) x1.toNatClampNeg (vp_nar .boolean (0 : Int32)))) hP
    have hD : va_D A ((cM cI cJ cZ bd) (m_hd_w u (upd (m_hd u) x1.toNatClampNeg (vp_nar .boolean (0 : Int32))))) := reD (zcM_hd cI cJ cZ bd u (upd (m_hd u) x1.toNatClampNeg (vp_nar .boolean (0 : Int32)))) hD
    refine lv_iinc (v := (x1 + (1 : Int32))) (lv' := [(1, .int (x1 + (1 : Int32))), (0, .ref (bd 0))]) hx hb d_M_clear_16 hl (k := 1) rfl rfl (by decide) rfl (fun ls hl => ?_)
    refine lv_goto (tgt := 2) hx hb d_M_clear_19 (by decide) ?_
    exact hk2 (x1 + (1 : Int32)) (m_hd_w u (upd (m_hd u) x1.toNatClampNeg (vp_nar .boolean (0 : Int32)))) H locs ls hP hD hS (lv_sub hl [1, 0] rfl) hM
theorem w_M_clear_2 {res : Mod} (C : Cx p s m args meth c prog_5_method_6_code 2 (Option.none : Option FieldType) "PlainLibraryModel" tb D cl9 (tyy cI cJ cZ) A) : ∀ (fu : Nat) (x1 : Int32) (u : Mod) (H : Heap) (locs : List Loc) (ls : Array Slot), va_P D cl9 ((cM cI cJ cZ bd) u) H → va_D A ((cM cI cJ cZ bd) u) → va_S A s.heap H locs → lv_has ls 2 [(0, .ref (bd 0)), (1, .int x1)] → B_M_clear_2 fu x1 u = some res → W p l e rm_M_clear s m args below meth c H locs 0 0 (MQ below (Qwv D cl9 (tyy cI cJ cZ) (cM cI cJ cZ bd) A res) args s 0 0 A) (F0 m 2 ls []) := by
  intro fu
  induction fu with
  | zero =>
    intro x1 u H locs ls hP hD hS hl hM
    have hM : (none : Option Mod) = some res := hM
    cases hM
  | succ fu ih =>
    intro x1 u H locs ls hP hD hS hl hM
    exact w_M_clear_2s C ih x1 u H locs ls hP hD hS hl hM
set_option maxHeartbeats 4000000 in
set_option maxRecDepth 100000 in
theorem w_M_clear_0 {res : Mod} (C : Cx p s m args meth c prog_5_method_6_code 2 (Option.none : Option FieldType) "PlainLibraryModel" tb D cl9 (tyy cI cJ cZ) A) (u : Mod) (H : Heap) (locs : List Loc) (ls : Array Slot) (hP : va_P D cl9 ((cM cI cJ cZ bd) u) H) (hD : va_D A ((cM cI cJ cZ bd) u)) (hS : va_S A s.heap H locs) (hl : lv_has ls 2 [(0, .ref (bd 0))]) (hM : B_M_clear_0 u = some res) : W p l e rm_M_clear s m args below meth c H locs 0 0 (MQ below (Qwv D cl9 (tyy cI cJ cZ) (cM cI cJ cZ bd) A res) args s 0 0 A) (F0 m 0 ls []) := by
  have C0 := C
  obtain ⟨hx, hb, hr, hml, hown, hts, hlocks, hK, hA⟩ := C
  replace C := C0
  unfold B_M_clear_0 at hM
  refine lv_iconst (v := (0 : Int32)) hx hb d_M_clear_0 (by decide) ?_
  refine lv_istore_n (lv' := [(1, .int (0 : Int32)), (0, .ref (bd 0))]) hx hb d_M_clear_1 rfl hl (by decide) rfl (fun ls hl => ?_)
  exact w_M_clear_2 C FU (0 : Int32) u H locs ls hP hD hS (lv_sub hl [1, 0] rfl) hM
end
set_option maxRecDepth 100000 in
theorem c_M_clear (l : Launch) (D : va_G) (cI cJ cZ : ClassId) (bd : Nat → Nat) (sz : Nat) (u : Mod) (res : Mod) (hM : B_M_clear_0 u = some res) : Met l y_M_clear ws_M_clear rm_M_clear (va_Pc [.ref (bd 0)] (pr_ D cl9 (tyy cI cJ cZ) (cM cI cJ cZ bd) u sz)) (Qwv D cl9 (tyy cI cJ cZ) (cM cI cJ cZ bd) (va_A ((cM cI cJ cZ bd) u) sz) res) 0 0 (va_A ((cM cI cJ cZ bd) u) sz) := by
  refine Met.ofW (cc := prog_5_method_6_code) (maxL := 2) (ret := (Option.none : Option FieldType)) (by decide) rfl ?_
  intro p e s m args below meth c s₁ B hml hv
  obtain ⟨rfl, hsz, hP, hK, hD0⟩ := hv
  subst hsz
  have hts0 := atoms_spec (ws := ws_M_clear) B.pre
  have hl := lv_entry ([.ref (bd 0)]) (n := 2) (Nat.le_of_ble_eq_true rfl)
  rw [lg_entry_eq]
  generalize (lg_sl ([.ref (bd 0)]) ++ List.replicate (2 - (lg_sl ([.ref (bd 0)])).length) Slot.unset).toArray = ls at hl ⊢
  exact w_M_clear_0 ⟨B.exec, B.bytes, B.returns, hml, findClass_of_methodNamed B.named, fun w h => hts0 w (List.mem_cons_of_mem _ h), B.notSynchronized, hK, fun q h => Or.inr h⟩ u s.heap [] ls hP hD0.self va_S.rf hl hM
section
variable {p : Program} {l : Launch} {e : Env} {s : State} {m : MethodId} {args : Array Value} {below : List Frame} {meth : Method} {c : Code} {D : va_G} {cI cJ cZ : ClassId} {A : Nat → Prop} {bd : Nat → Nat}
set_option maxHeartbeats 4000000 in
set_option maxRecDepth 100000 in
theorem w_M_placeOf_2s {res : Int32} (C : Cx p s m args meth c prog_5_method_7_code 4 (Option.some FieldType.int) "PlainLibraryModel" tb D cl9 (tyy cI cJ cZ) A) {k2 : Int32 → Int32 → Int32 → Mod → Option Int32} (hk2 : ∀ (x1 : Int32) (x2 : Int32) (x3 : Int32) (u : Mod) (H : Heap) (locs : List Loc) (ls : Array Slot), va_P D cl9 ((cM cI cJ cZ bd) u) H → va_D (fun _ => True) ((cM cI cJ cZ bd) u) → va_S A s.heap H locs → lv_has ls 4 [(0, .ref (bd 0)), (1, .int x1), (2, .int x2), (3, .int x3)] → k2 x1 x2 x3 u = some res → W p l e rm_M_placeOf s m args below meth c H locs 0 0 (MQ below (Qri A res) args s 0 0 A) (F0 m 2 ls [])) (x1 : Int32) (x2 : Int32) (x3 : Int32) (u : Mod) (H : Heap) (locs : List Loc) (ls : Array Slot) (hP : va_P D cl9 ((cM cI cJ cZ bd) u) H) (hD : va_D (fun _ => True) ((cM cI cJ cZ bd) u)) (hS : va_S A s.heap H locs) (hl : lv_has ls 4 [(0, .ref (bd 0)), (1, .int x1), (2, .int x2), (3, .int x3)]) (hM : B_M_placeOf_2s k2 x1 x2 x3 u = some res) : W p l e rm_M_placeOf s m args below meth c H locs 0 0 (MQ below (Qri A res) args s 0 0 A) (F0 m 2 ls []) := by
  have C0 := C
  obtain ⟨hx, hb, hr, hml, hown, hts, hlocks, hK, hA⟩ := C
  replace C := C0
  unfold B_M_placeOf_2s at hM
  refine lv_iload_n hx hb d_M_placeOf_2 rfl (lv_at hl 3 rfl) ?_
  refine lv_aload_n hx hb d_M_placeOf_3 rfl (lv_at hl 0 rfl) ?_
  refine va_get (D := D) (ci := 3) (v := .ref (bd 10)) (C := R_M) (T := T_M) (N := 21) hx hb hts in_M hown hK hP 0 rfl rfl 11 (by decide) (hts _ mm_360) (fun _ h9 => h9) rfl d_M_placeOf_4 ?_
  refine lv_iload_n hx hb d_M_placeOf_7 rfl (lv_at hl 1 rfl) ?_
  obtain ⟨h1, hM⟩ := gd_some hM
  refine va_iald hx hb hK hP 10 0 rfl rfl (vp_in_iff.mpr h1) d_M_placeOf_8 ?_
  refine lv_icmp_ge (tgt := 35) hx hb d_M_placeOf_9 (by decide) (fun c2 => ?_) (fun c2 => ?_)
  · replace hM := it_t c2 hM
    refine lv_iconst (v := (-1 : Int32)) hx hb d_M_placeOf_35 (by decide) ?_
    obtain rfl := Option.some.inj hM
    exact W.iret (v := (-1 : Int32)) hx hb hr (fun t ht hW => ⟨⟨(-1 : Int32), (), rfl, rfl, trivial⟩, hS.F ht⟩) hS.2.2 d_M_placeOf_36
  · replace hM := it_f c2 hM
    refine lv_aload_n hx hb d_M_placeOf_12 rfl (lv_at hl 0 rfl) ?_
    refine va_get (D := D) (ci := 3) (v := .ref (bd 9)) (C := R_M) (T := T_M) (N := 21) hx hb hts in_M hown hK hP 0 rfl rfl 10 (by decide) (hts _ mm_359) (fun _ h9 => h9) rfl d_M_placeOf_13 ?_
    refine lv_bipush (v := (20 : Int32)) hx hb d_M_placeOf_16 (by decide) ?_
    refine lv_iload_n hx hb d_M_placeOf_18 rfl (lv_at hl 1 rfl) ?_
    refine lv_imul hx hb d_M_placeOf_19 ?_
    refine lv_iload_n hx hb d_M_placeOf_20 rfl (lv_at hl 3 rfl) ?_
    refine lv_iadd hx hb d_M_placeOf_21 ?_
    obtain ⟨h3, hM⟩ := gd_some hM
    refine va_iald hx hb hK hP 9 0 rfl rfl (vp_in_iff.mpr h3) d_M_placeOf_22 ?_
    refine lv_iload_n hx hb d_M_placeOf_23 rfl (lv_at hl 2 rfl) ?_
    refine lv_icmp_ne (tgt := 29) hx hb d_M_placeOf_24 (by decide) (fun c4 => ?_) (fun c4 => ?_)
    · replace hM := it_f c4 hM
      refine lv_iinc (v := (x3 + (1 : Int32))) (lv' := [(3, .int (x3 + (1 : Int32))), (0, .ref (bd 0)), (1, .int x1), (2, .int x2)]) hx hb d_M_placeOf_29 hl (k := 3) rfl rfl (by decide) rfl (fun ls hl => ?_)
      refine lv_goto (tgt := 2) hx hb d_M_placeOf_32 (by decide) ?_
      exact hk2 x1 x2 (x3 + (1 : Int32)) u H locs ls hP hD hS (lv_sub hl [1, 2, 3, 0] rfl) hM
    · replace hM := it_t c4 hM
      refine lv_iload_n hx hb d_M_placeOf_27 rfl (lv_at hl 3 rfl) ?_
      obtain rfl := Option.some.inj hM
      exact W.iret (v := x3) hx hb hr (fun t ht hW => ⟨⟨x3, (), rfl, rfl, trivial⟩, hS.F ht⟩) hS.2.2 d_M_placeOf_28
theorem w_M_placeOf_2 {res : Int32} (C : Cx p s m args meth c prog_5_method_7_code 4 (Option.some FieldType.int) "PlainLibraryModel" tb D cl9 (tyy cI cJ cZ) A) : ∀ (fu : Nat) (x1 : Int32) (x2 : Int32) (x3 : Int32) (u : Mod) (H : Heap) (locs : List Loc) (ls : Array Slot), va_P D cl9 ((cM cI cJ cZ bd) u) H → va_D (fun _ => True) ((cM cI cJ cZ bd) u) → va_S A s.heap H locs → lv_has ls 4 [(0, .ref (bd 0)), (1, .int x1), (2, .int x2), (3, .int x3)] → B_M_placeOf_2 fu x1 x2 x3 u = some res → W p l e rm_M_placeOf s m args below meth c H locs 0 0 (MQ below (Qri A res) args s 0 0 A) (F0 m 2 ls []) := by
  intro fu
  induction fu with
  | zero =>
    intro x1 x2 x3 u H locs ls hP hD hS hl hM
    have hM : (none : Option Int32) = some res := hM
    cases hM
  | succ fu ih =>
    intro x1 x2 x3 u H locs ls hP hD hS hl hM
    exact w_M_placeOf_2s C ih x1 x2 x3 u H locs ls hP hD hS hl hM
set_option maxHeartbeats 4000000 in
set_option maxRecDepth 100000 in
theorem w_M_placeOf_0 {res : Int32} (C : Cx p s m args meth c prog_5_method_7_code 4 (Option.some FieldType.int) "PlainLibraryModel" tb D cl9 (tyy cI cJ cZ) A) (x1 : Int32) (x2 : Int32) (u : Mod) (H : Heap) (locs : List Loc) (ls : Array Slot) (hP : va_P D cl9 ((cM cI cJ cZ bd) u) H) (hD : va_D (fun _ => True) ((cM cI cJ cZ bd) u)) (hS : va_S A s.heap H locs) (hl : lv_has ls 4 [(0, .ref (bd 0)), (1, .int x1), (2, .int x2)]) (hM : B_M_placeOf_0 x1 x2 u = some res) : W p l e rm_M_placeOf s m args below meth c H locs 0 0 (MQ below (Qri A res) args s 0 0 A) (F0 m 0 ls []) := by
  have C0 := C
  obtain ⟨hx, hb, hr, hml, hown, hts, hlocks, hK, hA⟩ := C
  replace C := C0
  unfold B_M_placeOf_0 at hM
  refine lv_iconst (v := (0 : Int32)) hx hb d_M_placeOf_0 (by decide) ?_
  refine lv_istore_n (lv' := [(3, .int (0 : Int32)), (0, .ref (bd 0)), (1, .int x1), (2, .int x2)]) hx hb d_M_placeOf_1 rfl hl (by decide) rfl (fun ls hl => ?_)
  exact w_M_placeOf_2 C FU x1 x2 (0 : Int32) u H locs ls hP hD hS (lv_sub hl [1, 2, 3, 0] rfl) hM
end
set_option maxRecDepth 100000 in
theorem c_M_placeOf (l : Launch) (D : va_G) (cI cJ cZ : ClassId) (bd : Nat → Nat) (sz : Nat) (x1 : Int32) (x2 : Int32) (u : Mod) (res : Int32) (hM : B_M_placeOf_0 x1 x2 u = some res) : Met l y_M_placeOf ws_M_placeOf rm_M_placeOf (va_Pc [.ref (bd 0), .int x1, .int x2] (pr_ D cl9 (tyy cI cJ cZ) (cM cI cJ cZ bd) u sz)) (Qri (va_A [] sz) res) 0 0 (va_A [] sz) := by
  refine Met.ofW (cc := prog_5_method_7_code) (maxL := 4) (ret := (Option.some FieldType.int)) (by decide) rfl ?_
  intro p e s m args below meth c s₁ B hml hv
  obtain ⟨rfl, hsz, hP, hK, hD0⟩ := hv
  subst hsz
  have hts0 := atoms_spec (ws := ws_M_placeOf) B.pre
  have hl := lv_entry ([.ref (bd 0), .int x1, .int x2]) (n := 4) (Nat.le_of_ble_eq_true rfl)
  rw [lg_entry_eq]
  generalize (lg_sl ([.ref (bd 0), .int x1, .int x2]) ++ List.replicate (4 - (lg_sl ([.ref (bd 0), .int x1, .int x2])).length) Slot.unset).toArray = ls at hl ⊢
  exact w_M_placeOf_0 ⟨B.exec, B.bytes, B.returns, hml, findClass_of_methodNamed B.named, fun w h => hts0 w (List.mem_cons_of_mem _ h), B.notSynchronized, hK, fun q h => Or.inr h⟩ x1 x2 u s.heap [] ls hP hD0 va_S.rf hl hM
section
variable {p : Program} {l : Launch} {e : Env} {s : State} {m : MethodId} {args : Array Value} {below : List Frame} {meth : Method} {c : Code} {D : va_G} {cI cJ cZ : ClassId} {A : Nat → Prop} {bd : Nat → Nat}
set_option maxHeartbeats 4000000 in
set_option maxRecDepth 100000 in
theorem w_M_leave_27s {res : (Int32 × Mod)} (C : Cx p s m args meth c prog_5_method_8_code 5 (Option.some FieldType.boolean) "PlainLibraryModel" tb D cl9 (tyy cI cJ cZ) A) {k27 : Int32 → Int32 → Mod → Option (Int32 × Mod)} (hk27 : ∀ (x1 : Int32) (x4 : Int32) (u : Mod) (H : Heap) (locs : List Loc) (ls : Array Slot), va_P D cl9 ((cM cI cJ cZ bd) u) H → va_D A ((cM cI cJ cZ bd) u) → va_S A s.heap H locs → lv_has ls 5 [(0, .ref (bd 0)), (1, .int x1), (4, .int x4)] → k27 x1 x4 u = some res → W p l e rm_M_leave s m args below meth c H locs 0 0 (MQ below (Qwi D cl9 (tyy cI cJ cZ) (cM cI cJ cZ bd) A res) args s 0 0 A) (F0 m 27 ls [])) (x1 : Int32) (x4 : Int32) (u : Mod) (H : Heap) (locs : List Loc) (ls : Array Slot) (hP : va_P D cl9 ((cM cI cJ cZ bd) u) H) (hD : va_D A ((cM cI cJ cZ bd) u)) (hS : va_S A s.heap H locs) (hl : lv_has ls 5 [(0, .ref (bd 0)), (1, .int x1), (4, .int x4)]) (hM : B_M_leave_27s k27 x1 x4 u = some res) : W p l e rm_M_leave s m args below meth c H locs 0 0 (MQ below (Qwi D cl9 (tyy cI cJ cZ) (cM cI cJ cZ bd) A res) args s 0 0 A) (F0 m 27 ls []) := by
  have C0 := C
  obtain ⟨hx, hb, hr, hml, hown, hts, hlocks, hK, hA⟩ := C
  replace C := C0
  unfold B_M_leave_27s at hM
  refine lv_iload hx hb d_M_leave_27 (lv_at hl 2 rfl) ?_
  refine lv_aload_n hx hb d_M_leave_29 rfl (lv_at hl 0 rfl) ?_
  refine va_get (D := D) (ci := 3) (v := .ref (bd 10)) (C := R_M) (T := T_M) (N := 21) hx hb hts in_M hown hK hP 0 rfl rfl 11 (by decide) (hts _ mm_360) (fun _ h9 => h9) rfl d_M_leave_30 ?_
  refine lv_iload_n hx hb d_M_leave_33 rfl (lv_at hl 1 rfl) ?_
  obtain ⟨h1, hM⟩ := gd_some hM
  refine va_iald hx hb hK hP 10 0 rfl rfl (vp_in_iff.mpr h1) d_M_leave_34 ?_
  refine lv_icmp_ge (tgt := 70) hx hb d_M_leave_35 (by decide) (fun c2 => ?_) (fun c2 => ?_)
  · replace hM := it_t c2 hM
    refine lv_iconst (v := (1 : Int32)) hx hb d_M_leave_70 (by decide) ?_
    obtain rfl := Option.some.inj hM
    exact W.zret (v := (1 : Int32)) hx hb hr rfl (fun t ht hW => ⟨⟨(1 : Int32), u, rfl, rfl, by rw [ht]; exact hP, va_K.moved hW.alike hK, hD⟩, hS.F ht⟩) hS.2.2 d_M_leave_71
  · replace hM := it_f c2 hM
    refine lv_aload_n hx hb d_M_leave_38 rfl (lv_at hl 0 rfl) ?_
    refine va_get (D := D) (ci := 3) (v := .ref (bd 9)) (C := R_M) (T := T_M) (N := 21) hx hb hts in_M hown hK hP 0 rfl rfl 10 (by decide) (hts _ mm_359) (fun _ h9 => h9) rfl d_M_leave_39 ?_
    refine lv_bipush (v := (20 : Int32)) hx hb d_M_leave_42 (by decide) ?_
    refine lv_iload_n hx hb d_M_leave_44 rfl (lv_at hl 1 rfl) ?_
    refine lv_imul hx hb d_M_leave_45 ?_
    refine lv_iload hx hb d_M_leave_46 (lv_at hl 2 rfl) ?_
    refine lv_iadd hx hb d_M_leave_48 ?_
    refine lv_aload_n hx hb d_M_leave_49 rfl (lv_at hl 0 rfl) ?_
    refine va_get (D := D) (ci := 3) (v := .ref (bd 9)) (C := R_M) (T := T_M) (N := 21) hx hb hts in_M hown hK hP 0 rfl rfl 10 (by decide) (hts _ mm_359) (fun _ h9 => h9) rfl d_M_leave_50 ?_
    refine lv_bipush (v := (20 : Int32)) hx hb d_M_leave_53 (by decide) ?_
    refine lv_iload_n hx hb d_M_leave_55 rfl (lv_at hl 1 rfl) ?_
    refine lv_imul hx hb d_M_leave_56 ?_
    refine lv_iload hx hb d_M_leave_57 (lv_at hl 2 rfl) ?_
    refine lv_iadd hx hb d_M_leave_59 ?_
    refine lv_iconst (v := (1 : Int32)) hx hb d_M_leave_60 (by decide) ?_
    refine lv_iadd hx hb d_M_leave_61 ?_
    obtain ⟨h3, hM⟩ := gd_some hM
    refine va_iald hx hb hK hP 9 0 rfl rfl (vp_in_iff.mpr h3) d_M_leave_62 ?_
    obtain ⟨h4, hM⟩ := gd_some hM
    refine va_iast hx hb hK hP hD hS 9 0 rfl rfl (vp_in_iff.mpr h4) d_M_leave_63 (fun H locs hP hD hS => ?_)
    have hP : va_P D cl9 ((cM cI cJ cZ bd) (m_qd_w u (upd (m_qd u) (((20 : Int32) * x1) + x4).toNatClampNeg ((m_qd u) ((((20 : Int32) * x1) + x4) + (1 : Int32)).toNatClampNeg)))) H := reP (zcM_qd cI cJ cZ bd u (upd (m_qd u) (((20 : Int32) * x1) + x4).toNatClampNeg ((m_qd u) ((((20 : Int32) * x1) + x4) + (1 : Int32)).toNatClampNeg))) hP
    have hD : va_D A ((cM cI cJ cZ bd) (m_qd_w u (upd (m_qd u) (((20 : Int32) * x1) + x4).toNatClampNeg ((m_qd u) ((((20 : Int32) * x1) + x4) + (1 : Int32)).toNatClampNeg)))) := reD (zcM_qd cI cJ cZ bd u (upd (m_qd u) (((20 : Int32) * x1) + x4).toNatClampNeg ((m_qd u) ((((20 : Int32) * x1) + x4) + (1 : Int32)).toNatClampNeg))) hD
    obtain ⟨u5, hu5, hM⟩ := bd_some hM
    rw [Option.some.inj hu5] at hP hD
    refine lv_iinc (v := (x4 + (1 : Int32))) (lv' := [(4, .int (x4 + (1 : Int32))), (0, .ref (bd 0)), (1, .int x1)]) hx hb d_M_leave_64 hl (k := 2) rfl rfl (by decide) rfl (fun ls hl => ?_)
    refine lv_goto (tgt := 27) hx hb d_M_leave_67 (by decide) ?_
    exact hk27 x1 (x4 + (1 : Int32)) u5 H locs ls hP hD hS (lv_sub hl [1, 2, 0] rfl) hM
theorem w_M_leave_27 {res : (Int32 × Mod)} (C : Cx p s m args meth c prog_5_method_8_code 5 (Option.some FieldType.boolean) "PlainLibraryModel" tb D cl9 (tyy cI cJ cZ) A) : ∀ (fu : Nat) (x1 : Int32) (x4 : Int32) (u : Mod) (H : Heap) (locs : List Loc) (ls : Array Slot), va_P D cl9 ((cM cI cJ cZ bd) u) H → va_D A ((cM cI cJ cZ bd) u) → va_S A s.heap H locs → lv_has ls 5 [(0, .ref (bd 0)), (1, .int x1), (4, .int x4)] → B_M_leave_27 fu x1 x4 u = some res → W p l e rm_M_leave s m args below meth c H locs 0 0 (MQ below (Qwi D cl9 (tyy cI cJ cZ) (cM cI cJ cZ bd) A res) args s 0 0 A) (F0 m 27 ls []) := by
  intro fu
  induction fu with
  | zero =>
    intro x1 x4 u H locs ls hP hD hS hl hM
    have hM : (none : Option (Int32 × Mod)) = some res := hM
    cases hM
  | succ fu ih =>
    intro x1 x4 u H locs ls hP hD hS hl hM
    exact w_M_leave_27s C ih x1 x4 u H locs ls hP hD hS hl hM
set_option maxHeartbeats 4000000 in
set_option maxRecDepth 100000 in
theorem w_M_leave_0 {res : (Int32 × Mod)} (C : Cx p s m args meth c prog_5_method_8_code 5 (Option.some FieldType.boolean) "PlainLibraryModel" tb D cl9 (tyy cI cJ cZ) A) (x1 : Int32) (x2 : Int32) (u : Mod) (H : Heap) (locs : List Loc) (ls : Array Slot) (hP : va_P D cl9 ((cM cI cJ cZ bd) u) H) (hD : va_D A ((cM cI cJ cZ bd) u)) (hS : va_S A s.heap H locs) (hl : lv_has ls 5 [(0, .ref (bd 0)), (1, .int x1), (2, .int x2)]) (hM : B_M_leave_0 x1 x2 u = some res) : W p l e rm_M_leave s m args below meth c H locs 0 0 (MQ below (Qwi D cl9 (tyy cI cJ cZ) (cM cI cJ cZ bd) A res) args s 0 0 A) (F0 m 0 ls []) := by
  have C0 := C
  obtain ⟨hx, hb, hr, hml, hown, hts, hlocks, hK, hA⟩ := C
  replace C := C0
  unfold B_M_leave_0 at hM
  refine lv_aload_n hx hb d_M_leave_0 rfl (lv_at hl 0 rfl) ?_
  refine lv_iload_n hx hb d_M_leave_1 rfl (lv_at hl 1 rfl) ?_
  refine lv_iload_n hx hb d_M_leave_2 rfl (lv_at hl 2 rfl) ?_
  obtain ⟨v1, hq1, hM⟩ := bd_some hM
  refine fr_i (res := v1) (va_runV (As := [.int x1, .int x2]) (rest := []) ⟨hx, hb, hml, hown, hts⟩ (c_M_placeOf l D cI cJ cZ bd H.size x1 x2 u v1 hq1) (cwV 2 hts (gV mm_462 mm_464 (ms_ 23 rfl rfl) mm_30 mm_465) rfl rfl rfl hd_M_placeOf ⟨Nat.le_of_ble_eq_true rfl, Nat.le_of_ble_eq_true rfl⟩) (pv_ (F := (cM cI cJ cZ bd)) (u := u) hK hP hD (va_recv hK hP (ci := 3) (q0 := 0) rfl rfl)) rfl rfl hl.1 rfl (lv_room (Nat.le_of_ble_eq_true rfl)) d_M_leave_3 ⟨Nat.le_of_ble_eq_true rfl, Nat.le_of_ble_eq_true rfl⟩) hP hS hA (fun H locs hP hS => ?_)
  refine lv_istore_n (lv' := [(3, .int v1), (0, .ref (bd 0)), (1, .int x1), (2, .int x2)]) hx hb d_M_leave_6 rfl hl (by decide) rfl (fun ls hl => ?_)
  refine lv_iload_n hx hb d_M_leave_7 rfl (lv_at hl 0 rfl) ?_
  refine lv_iconst (v := (-1 : Int32)) hx hb d_M_leave_8 (by decide) ?_
  refine lv_icmp_ne (tgt := 14) hx hb d_M_leave_9 (by decide) (fun c2 => ?_) (fun c2 => ?_)
  · replace hM := it_f c2 hM
    refine lv_aload_n hx hb d_M_leave_14 rfl (lv_at hl 1 rfl) ?_
    refine va_get (D := D) (ci := 3) (v := .ref (bd 10)) (C := R_M) (T := T_M) (N := 21) hx hb hts in_M hown hK hP 0 rfl rfl 11 (by decide) (hts _ mm_360) (fun _ h9 => h9) rfl d_M_leave_15 ?_
    refine lv_iload_n hx hb d_M_leave_18 rfl (lv_at hl 2 rfl) ?_
    refine lv_dup2_11 hx hb d_M_leave_19 rfl rfl ?_
    obtain ⟨h3, hM⟩ := gd_some hM
    refine va_iald hx hb hK hP 10 0 rfl rfl (vp_in_iff.mpr h3) d_M_leave_20 ?_
    refine lv_iconst (v := (1 : Int32)) hx hb d_M_leave_21 (by decide) ?_
    refine lv_isub hx hb d_M_leave_22 ?_
    obtain ⟨h4, hM⟩ := gd_some hM
    refine va_iast hx hb hK hP hD hS 10 0 rfl rfl (vp_in_iff.mpr h4) d_M_leave_23 (fun H locs hP hD hS => ?_)
    have hP : va_P D cl9 ((cM cI cJ cZ bd) (m_qs_w u (upd (m_qs u) x1.toNatClampNeg (((m_qs u) x1.toNatClampNeg) - (1 : Int32))))) H := reP (zcM_qs cI cJ cZ bd u (upd (m_qs u) x1.toNatClampNeg (((m_qs u) x1.toNatClampNeg) - (1 : Int32)))) hP
    have hD : va_D A ((cM cI cJ cZ bd) (m_qs_w u (upd (m_qs u) x1.toNatClampNeg (((m_qs u) x1.toNatClampNeg) - (1 : Int32))))) := reD (zcM_qs cI cJ cZ bd u (upd (m_qs u) x1.toNatClampNeg (((m_qs u) x1.toNatClampNeg) - (1 : Int32)))) hD
    refine lv_iload_n hx hb d_M_leave_24 rfl (lv_at hl 0 rfl) ?_
    refine lv_istore (lv' := [(4, .int v1), (3, .int v1), (0, .ref (bd 0)), (1, .int x1), (2, .int x2)]) hx hb d_M_leave_25 hl (by decide) rfl (fun ls hl => ?_)
    exact w_M_leave_27 C FU x1 v1 (m_qs_w u (upd (m_qs u) x1.toNatClampNeg (((m_qs u) x1.toNatClampNeg) - (1 : Int32)))) H locs ls hP hD hS (lv_sub hl [2, 3, 0] rfl) hM
  · replace hM := it_t c2 hM
    refine lv_iconst (v := (0 : Int32)) hx hb d_M_leave_12 (by decide) ?_
    obtain rfl := Option.some.inj hM
    exact W.zret (v := (0 : Int32)) hx hb hr rfl (fun t ht hW => ⟨⟨(0 : Int32), u, rfl, rfl, by rw [ht]; exact hP, va_K.moved hW.alike hK, hD⟩, hS.F ht⟩) hS.2.2 d_M_leave_13
end
set_option maxRecDepth 100000 in
theorem c_M_leave (l : Launch) (D : va_G) (cI cJ cZ : ClassId) (bd : Nat → Nat) (sz : Nat) (x1 : Int32) (x2 : Int32) (u : Mod) (res : (Int32 × Mod)) (hM : B_M_leave_0 x1 x2 u = some res) : Met l y_M_leave ws_M_leave rm_M_leave (va_Pc [.ref (bd 0), .int x1, .int x2] (pr_ D cl9 (tyy cI cJ cZ) (cM cI cJ cZ bd) u sz)) (Qwi D cl9 (tyy cI cJ cZ) (cM cI cJ cZ bd) (va_A ((cM cI cJ cZ bd) u) sz) res) 0 0 (va_A ((cM cI cJ cZ bd) u) sz) := by
  refine Met.ofW (cc := prog_5_method_8_code) (maxL := 5) (ret := (Option.some FieldType.boolean)) (by decide) rfl ?_
  intro p e s m args below meth c s₁ B hml hv
  obtain ⟨rfl, hsz, hP, hK, hD0⟩ := hv
  subst hsz
  have hts0 := atoms_spec (ws := ws_M_leave) B.pre
  have hl := lv_entry ([.ref (bd 0), .int x1, .int x2]) (n := 5) (Nat.le_of_ble_eq_true rfl)
  rw [lg_entry_eq]
  generalize (lg_sl ([.ref (bd 0), .int x1, .int x2]) ++ List.replicate (5 - (lg_sl ([.ref (bd 0), .int x1, .int x2])).length) Slot.unset).toArray = ls at hl ⊢
  exact w_M_leave_0 ⟨B.exec, B.bytes, B.returns, hml, findClass_of_methodNamed B.named, fun w h => hts0 w (List.mem_cons_of_mem _ h), B.notSynchronized, hK, fun q h => Or.inr h⟩ x1 x2 u s.heap [] ls hP hD0.self va_S.rf hl hM
section
variable {p : Program} {l : Launch} {e : Env} {s : State} {m : MethodId} {args : Array Value} {below : List Frame} {meth : Method} {c : Code} {D : va_G} {cI cJ cZ : ClassId} {A : Nat → Prop} {bd : Nat → Nat}
set_option maxHeartbeats 4000000 in
set_option maxRecDepth 100000 in
theorem w_M_stand_0 {res : (Int32 × Mod)} (C : Cx p s m args meth c prog_5_method_9_code 3 (Option.some FieldType.boolean) "PlainLibraryModel" tb D cl9 (tyy cI cJ cZ) A) (x1 : Int32) (x2 : Int32) (u : Mod) (H : Heap) (locs : List Loc) (ls : Array Slot) (hP : va_P D cl9 ((cM cI cJ cZ bd) u) H) (hD : va_D A ((cM cI cJ cZ bd) u)) (hS : va_S A s.heap H locs) (hl : lv_has ls 3 [(0, .ref (bd 0)), (1, .int x1), (2, .int x2)]) (hM : B_M_stand_0 x1 x2 u = some res) : W p l e rm_M_stand s m args below meth c H locs 0 0 (MQ below (Qwi D cl9 (tyy cI cJ cZ) (cM cI cJ cZ bd) A res) args s 0 0 A) (F0 m 0 ls []) := by
  have C0 := C
  obtain ⟨hx, hb, hr, hml, hown, hts, hlocks, hK, hA⟩ := C
  replace C := C0
  unfold B_M_stand_0 at hM
  refine lv_aload_n hx hb d_M_stand_0 rfl (lv_at hl 0 rfl) ?_
  refine lv_iload_n hx hb d_M_stand_1 rfl (lv_at hl 1 rfl) ?_
  refine lv_iload_n hx hb d_M_stand_2 rfl (lv_at hl 2 rfl) ?_
  obtain ⟨v1, hq1, hM⟩ := bd_some hM
  refine fr_i (res := v1) (va_runV (As := [.int x1, .int x2]) (rest := []) ⟨hx, hb, hml, hown, hts⟩ (c_M_placeOf l D cI cJ cZ bd H.size x1 x2 u v1 hq1) (cwV 2 hts (gV mm_462 mm_464 (ms_ 23 rfl rfl) mm_30 mm_465) rfl rfl rfl hd_M_placeOf ⟨Nat.le_of_ble_eq_true rfl, Nat.le_of_ble_eq_true rfl⟩) (pv_ (F := (cM cI cJ cZ bd)) (u := u) hK hP hD (va_recv hK hP (ci := 3) (q0 := 0) rfl rfl)) rfl rfl hl.1 rfl (lv_room (Nat.le_of_ble_eq_true rfl)) d_M_stand_3 ⟨Nat.le_of_ble_eq_true rfl, Nat.le_of_ble_eq_true rfl⟩) hP hS hA (fun H locs hP hS => ?_)
  refine lv_iconst (v := (-1 : Int32)) hx hb d_M_stand_6 (by decide) ?_
  refine lv_icmp_eq (tgt := 12) hx hb d_M_stand_7 (by decide) (fun c2 => ?_) (fun c2 => ?_)
  · replace hM := it_t c2 hM
    refine lv_aload_n hx hb d_M_stand_12 rfl (lv_at hl 0 rfl) ?_
    refine va_get (D := D) (ci := 3) (v := .ref (bd 9)) (C := R_M) (T := T_M) (N := 21) hx hb hts in_M hown hK hP 0 rfl rfl 10 (by decide) (hts _ mm_359) (fun _ h9 => h9) rfl d_M_stand_13 ?_
    refine lv_bipush (v := (20 : Int32)) hx hb d_M_stand_16 (by decide) ?_
    refine lv_iload_n hx hb d_M_stand_18 rfl (lv_at hl 1 rfl) ?_
    refine lv_imul hx hb d_M_stand_19 ?_
    refine lv_aload_n hx hb d_M_stand_20 rfl (lv_at hl 0 rfl) ?_
    refine va_get (D := D) (ci := 3) (v := .ref (bd 10)) (C := R_M) (T := T_M) (N := 21) hx hb hts in_M hown hK hP 0 rfl rfl 11 (by decide) (hts _ mm_360) (fun _ h9 => h9) rfl d_M_stand_21 ?_
    refine lv_iload_n hx hb d_M_stand_24 rfl (lv_at hl 1 rfl) ?_
    obtain ⟨h3, hM⟩ := gd_some hM
    refine va_iald hx hb hK hP 10 0 rfl rfl (vp_in_iff.mpr h3) d_M_stand_25 ?_
    refine lv_iadd hx hb d_M_stand_26 ?_
    refine lv_iload_n hx hb d_M_stand_27 rfl (lv_at hl 2 rfl) ?_
    obtain ⟨h4, hM⟩ := gd_some hM
    refine va_iast hx hb hK hP hD hS 9 0 rfl rfl (vp_in_iff.mpr h4) d_M_stand_28 (fun H locs hP hD hS => ?_)
    have hP : va_P D cl9 ((cM cI cJ cZ bd) (m_qd_w u (upd (m_qd u) (((20 : Int32) * x1) + ((m_qs u) x1.toNatClampNeg)).toNatClampNeg x2))) H := reP (zcM_qd cI cJ cZ bd u (upd (m_qd u) (((20 : Int32) * x1) + ((m_qs u) x1.toNatClampNeg)).toNatClampNeg x2)) hP
    have hD : va_D A ((cM cI cJ cZ bd) (m_qd_w u (upd (m_qd u) (((20 : Int32) * x1) + ((m_qs u) x1.toNatClampNeg)).toNatClampNeg x2))) := reD (zcM_qd cI cJ cZ bd u (upd (m_qd u) (((20 : Int32) * x1) + ((m_qs u) x1.toNatClampNeg)).toNatClampNeg x2)) hD
    refine lv_aload_n hx hb d_M_stand_29 rfl (lv_at hl 0 rfl) ?_
    refine va_get (D := D) (ci := 3) (v := .ref (bd 10)) (C := R_M) (T := T_M) (N := 21) hx hb hts in_M hown hK hP 0 rfl rfl 11 (by decide) (hts _ mm_360) (fun _ h9 => h9) rfl d_M_stand_30 ?_
    refine lv_iload_n hx hb d_M_stand_33 rfl (lv_at hl 1 rfl) ?_
    refine lv_dup2_11 hx hb d_M_stand_34 rfl rfl ?_
    obtain ⟨h5, hM⟩ := gd_some hM
    refine va_iald hx hb hK hP 10 0 rfl rfl (vp_in_iff.mpr h5) d_M_stand_35 ?_
    refine lv_iconst (v := (1 : Int32)) hx hb d_M_stand_36 (by decide) ?_
    refine lv_iadd hx hb d_M_stand_37 ?_
    obtain ⟨h6, hM⟩ := gd_some hM
    refine va_iast hx hb hK hP hD hS 10 0 rfl rfl (vp_in_iff.mpr h6) d_M_stand_38 (fun H locs hP hD hS => ?_)
    have hP : va_P D cl9 ((cM cI cJ cZ bd) (m_qs_w (m_qd_w u (upd (m_qd u) (((20 : Int32) * x1) + ((m_qs u) x1.toNatClampNeg)).toNatClampNeg x2)) (upd (m_qs (m_qd_w u (upd (m_qd u) (((20 : Int32) * x1) + ((m_qs u) x1.toNatClampNeg)).toNatClampNeg x2))) x1.toNatClampNeg (((m_qs (m_qd_w u (upd (m_qd u) (((20 : Int32) * x1) + ((m_qs u) x1.toNatClampNeg)).toNatClampNeg x2))) x1.toNatClampNeg) + (1 : Int32))))) H := reP (zcM_qs cI cJ cZ bd (m_qd_w u (upd (m_qd u) (((20 : Int32) * x1) + ((m_qs u) x1.toNatClampNeg)).toNatClampNeg x2)) (upd (m_qs (m_qd_w u (upd (m_qd u) (((20 : Int32) * x1) + ((m_qs u) x1.toNatClampNeg)).toNatClampNeg x2))) x1.toNatClampNeg (((m_qs (m_qd_w u (upd (m_qd u) (((20 : Int32) * x1) + ((m_qs u) x1.toNatClampNeg)).toNatClampNeg x2))) x1.toNatClampNeg) + (1 : Int32)))) hP
    have hD : va_D A ((cM cI cJ cZ bd) (m_qs_w (m_qd_w u (upd (m_qd u) (((20 : Int32) * x1) + ((m_qs u) x1.toNatClampNeg)).toNatClampNeg x2)) (upd (m_qs (m_qd_w u (upd (m_qd u) (((20 : Int32) * x1) + ((m_qs u) x1.toNatClampNeg)).toNatClampNeg x2))) x1.toNatClampNeg (((m_qs (m_qd_w u (upd (m_qd u) (((20 : Int32) * x1) + ((m_qs u) x1.toNatClampNeg)).toNatClampNeg x2))) x1.toNatClampNeg) + (1 : Int32))))) := reD (zcM_qs cI cJ cZ bd (m_qd_w u (upd (m_qd u) (((20 : Int32) * x1) + ((m_qs u) x1.toNatClampNeg)).toNatClampNeg x2)) (upd (m_qs (m_qd_w u (upd (m_qd u) (((20 : Int32) * x1) + ((m_qs u) x1.toNatClampNeg)).toNatClampNeg x2))) x1.toNatClampNeg (((m_qs (m_qd_w u (upd (m_qd u) (((20 : Int32) * x1) + ((m_qs u) x1.toNatClampNeg)).toNatClampNeg x2))) x1.toNatClampNeg) + (1 : Int32)))) hD
    obtain ⟨u7, hu7, hM⟩ := bd_some hM
    rw [Option.some.inj hu7] at hP hD
    refine lv_iconst (v := (1 : Int32)) hx hb d_M_stand_39 (by decide) ?_
    obtain rfl := Option.some.inj hM
    exact W.zret (v := (1 : Int32)) hx hb hr rfl (fun t ht hW => ⟨⟨(1 : Int32), u7, rfl, rfl, by rw [ht]; exact hP, va_K.moved hW.alike hK, hD⟩, hS.F ht⟩) hS.2.2 d_M_stand_40
  · replace hM := it_f c2 hM
    refine lv_iconst (v := (0 : Int32)) hx hb d_M_stand_10 (by decide) ?_
    obtain rfl := Option.some.inj hM
    exact W.zret (v := (0 : Int32)) hx hb hr rfl (fun t ht hW => ⟨⟨(0 : Int32), u, rfl, rfl, by rw [ht]; exact hP, va_K.moved hW.alike hK, hD⟩, hS.F ht⟩) hS.2.2 d_M_stand_11
end
set_option maxRecDepth 100000 in
theorem c_M_stand (l : Launch) (D : va_G) (cI cJ cZ : ClassId) (bd : Nat → Nat) (sz : Nat) (x1 : Int32) (x2 : Int32) (u : Mod) (res : (Int32 × Mod)) (hM : B_M_stand_0 x1 x2 u = some res) : Met l y_M_stand ws_M_stand rm_M_stand (va_Pc [.ref (bd 0), .int x1, .int x2] (pr_ D cl9 (tyy cI cJ cZ) (cM cI cJ cZ bd) u sz)) (Qwi D cl9 (tyy cI cJ cZ) (cM cI cJ cZ bd) (va_A ((cM cI cJ cZ bd) u) sz) res) 0 0 (va_A ((cM cI cJ cZ bd) u) sz) := by
  refine Met.ofW (cc := prog_5_method_9_code) (maxL := 3) (ret := (Option.some FieldType.boolean)) (by decide) rfl ?_
  intro p e s m args below meth c s₁ B hml hv
  obtain ⟨rfl, hsz, hP, hK, hD0⟩ := hv
  subst hsz
  have hts0 := atoms_spec (ws := ws_M_stand) B.pre
  have hl := lv_entry ([.ref (bd 0), .int x1, .int x2]) (n := 3) (Nat.le_of_ble_eq_true rfl)
  rw [lg_entry_eq]
  generalize (lg_sl ([.ref (bd 0), .int x1, .int x2]) ++ List.replicate (3 - (lg_sl ([.ref (bd 0), .int x1, .int x2])).length) Slot.unset).toArray = ls at hl ⊢
  exact w_M_stand_0 ⟨B.exec, B.bytes, B.returns, hml, findClass_of_methodNamed B.named, fun w h => hts0 w (List.mem_cons_of_mem _ h), B.notSynchronized, hK, fun q h => Or.inr h⟩ x1 x2 u s.heap [] ls hP hD0.self va_S.rf hl hM
section
variable {p : Program} {l : Launch} {e : Env} {s : State} {m : MethodId} {args : Array Value} {below : List Frame} {meth : Method} {c : Code} {D : va_G} {cI cJ cZ : ClassId} {A : Nat → Prop} {bd : Nat → Nat}
set_option maxHeartbeats 4000000 in
set_option maxRecDepth 100000 in
theorem w_M_lend_100 {res : (Int32 × Mod)} (C : Cx p s m args meth c prog_5_method_10_code 7 (Option.some FieldType.boolean) "PlainLibraryModel" tb D cl9 (tyy cI cJ cZ) A) (u : Mod) (H : Heap) (locs : List Loc) (ls : Array Slot) (hP : va_P D cl9 ((cM cI cJ cZ bd) u) H) (hD : va_D A ((cM cI cJ cZ bd) u)) (hS : va_S A s.heap H locs) (hl : lv_has ls 7 []) (hM : B_M_lend_100 u = some res) : W p l e rm_M_lend s m args below meth c H locs 0 0 (MQ below (Qwi D cl9 (tyy cI cJ cZ) (cM cI cJ cZ bd) A res) args s 0 0 A) (F0 m 100 ls []) := by
  have C0 := C
  obtain ⟨hx, hb, hr, hml, hown, hts, hlocks, hK, hA⟩ := C
  replace C := C0
  unfold B_M_lend_100 at hM
  refine lv_iconst (v := (1 : Int32)) hx hb d_M_lend_100 (by decide) ?_
  refine lv_goto (tgt := 105) hx hb d_M_lend_101 (by decide) ?_
  obtain rfl := Option.some.inj hM
  exact W.zret (v := (1 : Int32)) hx hb hr rfl (fun t ht hW => ⟨⟨(1 : Int32), u, rfl, rfl, by rw [ht]; exact hP, va_K.moved hW.alike hK, hD⟩, hS.F ht⟩) hS.2.2 d_M_lend_105
set_option maxHeartbeats 4000000 in
set_option maxRecDepth 100000 in
theorem w_M_lend_48 {res : (Int32 × Mod)} (C : Cx p s m args meth c prog_5_method_10_code 7 (Option.some FieldType.boolean) "PlainLibraryModel" tb D cl9 (tyy cI cJ cZ) A) (x1 : Int32) (x2 : Int32) (y3 : Int64) (x5 : Int32) (u : Mod) (H : Heap) (locs : List Loc) (ls : Array Slot) (hP : va_P D cl9 ((cM cI cJ cZ bd) u) H) (hD : va_D A ((cM cI cJ cZ bd) u)) (hS : va_S A s.heap H locs) (hl : lv_has ls 7 [(0, .ref (bd 0)), (1, .int x1), (2, .int x2), (3, .long y3), (5, .int x5)]) (hM : B_M_lend_48 x1 x2 y3 x5 u = some res) : W p l e rm_M_lend s m args below meth c H locs 0 0 (MQ below (Qwi D cl9 (tyy cI cJ cZ) (cM cI cJ cZ bd) A res) args s 0 0 A) (F0 m 48 ls []) := by
  have C0 := C
  obtain ⟨hx, hb, hr, hml, hown, hts, hlocks, hK, hA⟩ := C
  replace C := C0
  unfold B_M_lend_48 at hM
  refine lv_aload_n hx hb d_M_lend_48 rfl (lv_at hl 0 rfl) ?_
  refine lv_iload hx hb d_M_lend_49 (lv_at hl 4 rfl) ?_
  refine lv_iload_n hx hb d_M_lend_51 rfl (lv_at hl 2 rfl) ?_
  obtain ⟨v1, hq1, hM⟩ := bd_some hM
  refine fw_i (F := (cM cI cJ cZ bd)) (u := u) (res := v1) (va_runV (As := [.int x5, .int x2]) (rest := []) ⟨hx, hb, hml, hown, hts⟩ (c_M_leave l D cI cJ cZ bd H.size x5 x2 u v1 hq1) (cwV 2 hts (gV mm_458 mm_460 (ms_ 22 rfl rfl) mm_30 mm_461) rfl rfl rfl hd_M_leave ⟨Nat.le_of_ble_eq_true rfl, Nat.le_of_ble_eq_true rfl⟩) (pv_ (F := (cM cI cJ cZ bd)) (u := u) hK hP hD (va_recv hK hP (ci := 3) (q0 := 0) rfl rfl)) rfl rfl hl.1 rfl (lv_room (Nat.le_of_ble_eq_true rfl)) d_M_lend_52 ⟨Nat.le_of_ble_eq_true rfl, Nat.le_of_ble_eq_true rfl⟩) hS (fa_ hD hS hA) (fun H locs hP hD hS => ?_)
  refine lv_istore (lv' := [(6, .int v1.1), (0, .ref (bd 0)), (1, .int x1), (2, .int x2), (3, .long y3), (5, .int x5)]) hx hb d_M_lend_55 hl (by decide) rfl (fun ls hl => ?_)
  refine lv_aload_n hx hb d_M_lend_57 rfl (lv_at hl 1 rfl) ?_
  refine va_get (D := D) (ci := 3) (v := .ref (bd 7)) (C := R_M) (T := T_M) (N := 21) hx hb hts in_M hown hK hP 0 rfl rfl 8 (by decide) (hts _ mm_357) (fun _ h9 => h9) rfl d_M_lend_58 ?_
  refine lv_iload_n hx hb d_M_lend_61 rfl (lv_at hl 2 rfl) ?_
  refine lv_iload_n hx hb d_M_lend_62 rfl (lv_at hl 3 rfl) ?_
  obtain ⟨h2, hM⟩ := gd_some hM
  refine va_iast hx hb hK hP hD hS 7 0 rfl rfl (vp_in_iff.mpr h2) d_M_lend_63 (fun H locs hP hD hS => ?_)
  have hP : va_P D cl9 ((cM cI cJ cZ bd) (m_per_w v1.2 (upd (m_per v1.2) x1.toNatClampNeg x2))) H := reP (zcM_per cI cJ cZ bd v1.2 (upd (m_per v1.2) x1.toNatClampNeg x2)) hP
  have hD : va_D A ((cM cI cJ cZ bd) (m_per_w v1.2 (upd (m_per v1.2) x1.toNatClampNeg x2))) := reD (zcM_per cI cJ cZ bd v1.2 (upd (m_per v1.2) x1.toNatClampNeg x2)) hD
  refine lv_aload_n hx hb d_M_lend_64 rfl (lv_at hl 1 rfl) ?_
  refine va_get (D := D) (ci := 3) (v := .ref (bd 8)) (C := R_M) (T := T_M) (N := 21) hx hb hts in_M hown hK hP 0 rfl rfl 9 (by decide) (hts _ mm_358) (fun _ h9 => h9) rfl d_M_lend_65 ?_
  refine lv_iload_n hx hb d_M_lend_68 rfl (lv_at hl 2 rfl) ?_
  refine lv_lload_n hx hb d_M_lend_69 rfl (lv_at hl 4 rfl) ?_
  refine lv_aload_n hx hb d_M_lend_70 rfl (lv_at hl 1 rfl) ?_
  refine va_get (D := D) (ci := 3) (v := .ref (bd 13)) (C := R_M) (T := T_M) (N := 21) hx hb hts in_M hown hK hP 0 rfl rfl 14 (by decide) (hts _ mm_363) (fun _ h9 => h9) rfl d_M_lend_71 ?_
  refine lv_aload_n hx hb d_M_lend_74 rfl (lv_at hl 1 rfl) ?_
  refine va_get (D := D) (ci := 3) (v := .ref (bd 12)) (C := R_M) (T := T_M) (N := 21) hx hb hts in_M hown hK hP 0 rfl rfl 13 (by decide) (hts _ mm_362) (fun _ h9 => h9) rfl d_M_lend_75 ?_
  refine lv_iload hx hb d_M_lend_78 (lv_at hl 5 rfl) ?_
  obtain ⟨h3, hM⟩ := gd_some hM
  refine va_iald hx hb hK hP 12 0 rfl rfl (vp_in_iff.mpr h3) d_M_lend_80 ?_
  obtain ⟨h4, hM⟩ := gd_some hM
  refine va_iald hx hb hK hP 13 0 rfl rfl (vp_in_iff.mpr h4) d_M_lend_81 ?_
  refine lv_i2l (v := ((m_ln (m_per_w v1.2 (upd (m_per v1.2) x1.toNatClampNeg x2))) ((m_cls (m_per_w v1.2 (upd (m_per v1.2) x1.toNatClampNeg x2))) x5.toNatClampNeg).toNatClampNeg).toInt64) hx hb d_M_lend_82 rfl ?_
  refine lv_ladd hx hb d_M_lend_83 ?_
  obtain ⟨h5, hM⟩ := gd_some hM
  refine va_last hx hb hK hP hD hS 8 1 rfl rfl (vp_in_iff.mpr h5) d_M_lend_84 (fun H locs hP hD hS => ?_)
  have hP : va_P D cl9 ((cM cI cJ cZ bd) (m_due_w (m_per_w v1.2 (upd (m_per v1.2) x1.toNatClampNeg x2)) (vp_updL (m_due (m_per_w v1.2 (upd (m_per v1.2) x1.toNatClampNeg x2))) x1.toNatClampNeg (y3 + (((m_ln (m_per_w v1.2 (upd (m_per v1.2) x1.toNatClampNeg x2))) ((m_cls (m_per_w v1.2 (upd (m_per v1.2) x1.toNatClampNeg x2))) x5.toNatClampNeg).toNatClampNeg).toInt64))))) H := reP (zcM_due cI cJ cZ bd (m_per_w v1.2 (upd (m_per v1.2) x1.toNatClampNeg x2)) (vp_updL (m_due (m_per_w v1.2 (upd (m_per v1.2) x1.toNatClampNeg x2))) x1.toNatClampNeg (y3 + (((m_ln (m_per_w v1.2 (upd (m_per v1.2) x1.toNatClampNeg x2))) ((m_cls (m_per_w v1.2 (upd (m_per v1.2) x1.toNatClampNeg x2))) x5.toNatClampNeg).toNatClampNeg).toInt64)))) hP
  have hD : va_D A ((cM cI cJ cZ bd) (m_due_w (m_per_w v1.2 (upd (m_per v1.2) x1.toNatClampNeg x2)) (vp_updL (m_due (m_per_w v1.2 (upd (m_per v1.2) x1.toNatClampNeg x2))) x1.toNatClampNeg (y3 + (((m_ln (m_per_w v1.2 (upd (m_per v1.2) x1.toNatClampNeg x2))) ((m_cls (m_per_w v1.2 (upd (m_per v1.2) x1.toNatClampNeg x2))) x5.toNatClampNeg).toNatClampNeg).toInt64))))) := reD (zcM_due cI cJ cZ bd (m_per_w v1.2 (upd (m_per v1.2) x1.toNatClampNeg x2)) (vp_updL (m_due (m_per_w v1.2 (upd (m_per v1.2) x1.toNatClampNeg x2))) x1.toNatClampNeg (y3 + (((m_ln (m_per_w v1.2 (upd (m_per v1.2) x1.toNatClampNeg x2))) ((m_cls (m_per_w v1.2 (upd (m_per v1.2) x1.toNatClampNeg x2))) x5.toNatClampNeg).toNatClampNeg).toInt64)))) hD
  obtain ⟨u6, hu6, hM⟩ := bd_some hM
  rw [Option.some.inj hu6] at hP hD
  refine lv_iload hx hb d_M_lend_85 (lv_at hl 0 rfl) ?_
  refine lv_if_ne (tgt := 100) hx hb d_M_lend_87 (by decide) (fun c7 => ?_) (fun c7 => ?_)
  · replace hM := it_f c7 hM
    exact w_M_lend_100 C u6 H locs ls hP hD hS (lv_sub hl [] rfl) hM
  · replace hM := it_t c7 hM
    refine lv_aload_n hx hb d_M_lend_90 rfl (lv_at hl 1 rfl) ?_
    refine va_get (D := D) (ci := 3) (v := .ref (bd 7)) (C := R_M) (T := T_M) (N := 21) hx hb hts in_M hown hK hP 0 rfl rfl 8 (by decide) (hts _ mm_357) (fun _ h9 => h9) rfl d_M_lend_91 ?_
    refine lv_iload_n hx hb d_M_lend_94 rfl (lv_at hl 2 rfl) ?_
    obtain ⟨h8, hM⟩ := gd_some hM
    refine va_iald hx hb hK hP 7 0 rfl rfl (vp_in_iff.mpr h8) d_M_lend_95 ?_
    refine lv_iload_n hx hb d_M_lend_96 rfl (lv_at hl 3 rfl) ?_
    refine lv_icmp_ne (tgt := 104) hx hb d_M_lend_97 (by decide) (fun c9 => ?_) (fun c9 => ?_)
    · replace hM := it_f c9 hM
      refine lv_iconst (v := (0 : Int32)) hx hb d_M_lend_104 (by decide) ?_
      obtain rfl := Option.some.inj hM
      exact W.zret (v := (0 : Int32)) hx hb hr rfl (fun t ht hW => ⟨⟨(0 : Int32), u6, rfl, rfl, by rw [ht]; exact hP, va_K.moved hW.alike hK, hD⟩, hS.F ht⟩) hS.2.2 d_M_lend_105
    · replace hM := it_t c9 hM
      exact w_M_lend_100 C u6 H locs ls hP hD hS (lv_sub hl [] rfl) hM
set_option maxHeartbeats 4000000 in
set_option maxRecDepth 100000 in
theorem w_M_lend_0 {res : (Int32 × Mod)} (C : Cx p s m args meth c prog_5_method_10_code 7 (Option.some FieldType.boolean) "PlainLibraryModel" tb D cl9 (tyy cI cJ cZ) A) (x1 : Int32) (x2 : Int32) (y3 : Int64) (u : Mod) (H : Heap) (locs : List Loc) (ls : Array Slot) (hP : va_P D cl9 ((cM cI cJ cZ bd) u) H) (hD : va_D A ((cM cI cJ cZ bd) u)) (hS : va_S A s.heap H locs) (hl : lv_has ls 7 [(0, .ref (bd 0)), (1, .int x1), (2, .int x2), (3, .long y3)]) (hM : B_M_lend_0 x1 x2 y3 u = some res) : W p l e rm_M_lend s m args below meth c H locs 0 0 (MQ below (Qwi D cl9 (tyy cI cJ cZ) (cM cI cJ cZ bd) A res) args s 0 0 A) (F0 m 0 ls []) := by
  have C0 := C
  obtain ⟨hx, hb, hr, hml, hown, hts, hlocks, hK, hA⟩ := C
  replace C := C0
  unfold B_M_lend_0 at hM
  refine lv_aload_n hx hb d_M_lend_0 rfl (lv_at hl 0 rfl) ?_
  refine va_get (D := D) (ci := 3) (v := .ref (bd 6)) (C := R_M) (T := T_M) (N := 21) hx hb hts in_M hown hK hP 0 rfl rfl 7 (by decide) (hts _ mm_356) (fun _ h9 => h9) rfl d_M_lend_1 ?_
  refine lv_iload_n hx hb d_M_lend_4 rfl (lv_at hl 1 rfl) ?_
  obtain ⟨h1, hM⟩ := gd_some hM
  refine va_iald hx hb hK hP 6 0 rfl rfl (vp_in_iff.mpr h1) d_M_lend_5 ?_
  refine lv_istore (lv' := [(5, .int ((m_rec u) x1.toNatClampNeg)), (0, .ref (bd 0)), (1, .int x1), (2, .int x2), (3, .long y3)]) hx hb d_M_lend_6 hl (by decide) rfl (fun ls hl => ?_)
  refine lv_iload hx hb d_M_lend_8 (lv_at hl 0 rfl) ?_
  refine lv_if_eq (tgt := 46) hx hb d_M_lend_10 (by decide) (fun c2 => ?_) (fun c2 => ?_)
  · replace hM := it_t c2 hM
    refine lv_iconst (v := (0 : Int32)) hx hb d_M_lend_46 (by decide) ?_
    obtain rfl := Option.some.inj hM
    exact W.zret (v := (0 : Int32)) hx hb hr rfl (fun t ht hW => ⟨⟨(0 : Int32), u, rfl, rfl, by rw [ht]; exact hP, va_K.moved hW.alike hK, hD⟩, hS.F ht⟩) hS.2.2 d_M_lend_47
  · replace hM := it_f c2 hM
    refine lv_aload_n hx hb d_M_lend_13 rfl (lv_at hl 1 rfl) ?_
    refine va_get (D := D) (ci := 3) (v := .ref (bd 7)) (C := R_M) (T := T_M) (N := 21) hx hb hts in_M hown hK hP 0 rfl rfl 8 (by decide) (hts _ mm_357) (fun _ h9 => h9) rfl d_M_lend_14 ?_
    refine lv_iload_n hx hb d_M_lend_17 rfl (lv_at hl 2 rfl) ?_
    obtain ⟨h3, hM⟩ := gd_some hM
    refine va_iald hx hb hK hP 7 0 rfl rfl (vp_in_iff.mpr h3) d_M_lend_18 ?_
    refine lv_if_ne (tgt := 46) hx hb d_M_lend_19 (by decide) (fun c4 => ?_) (fun c4 => ?_)
    · replace hM := it_f c4 hM
      refine lv_iconst (v := (0 : Int32)) hx hb d_M_lend_46 (by decide) ?_
      obtain rfl := Option.some.inj hM
      exact W.zret (v := (0 : Int32)) hx hb hr rfl (fun t ht hW => ⟨⟨(0 : Int32), u, rfl, rfl, by rw [ht]; exact hP, va_K.moved hW.alike hK, hD⟩, hS.F ht⟩) hS.2.2 d_M_lend_47
    · replace hM := it_t c4 hM
      refine lv_aload_n hx hb d_M_lend_22 rfl (lv_at hl 1 rfl) ?_
      refine va_get (D := D) (ci := 3) (v := .ref (bd 10)) (C := R_M) (T := T_M) (N := 21) hx hb hts in_M hown hK hP 0 rfl rfl 11 (by decide) (hts _ mm_360) (fun _ h9 => h9) rfl d_M_lend_23 ?_
      refine lv_iload hx hb d_M_lend_26 (lv_at hl 0 rfl) ?_
      obtain ⟨h5, hM⟩ := gd_some hM
      refine va_iald hx hb hK hP 10 0 rfl rfl (vp_in_iff.mpr h5) d_M_lend_28 ?_
      refine lv_if_le (tgt := 48) hx hb d_M_lend_29 (by decide) (fun c6 => ?_) (fun c6 => ?_)
      · replace hM := it_t c6 hM
        exact w_M_lend_48 C x1 x2 y3 ((m_rec u) x1.toNatClampNeg) u H locs ls hP hD hS (lv_sub hl [1, 2, 3, 4, 0] rfl) hM
      · replace hM := it_f c6 hM
        refine lv_aload_n hx hb d_M_lend_32 rfl (lv_at hl 1 rfl) ?_
        refine va_get (D := D) (ci := 3) (v := .ref (bd 9)) (C := R_M) (T := T_M) (N := 21) hx hb hts in_M hown hK hP 0 rfl rfl 10 (by decide) (hts _ mm_359) (fun _ h9 => h9) rfl d_M_lend_33 ?_
        refine lv_bipush (v := (20 : Int32)) hx hb d_M_lend_36 (by decide) ?_
        refine lv_iload hx hb d_M_lend_38 (lv_at hl 0 rfl) ?_
        refine lv_imul hx hb d_M_lend_40 ?_
        obtain ⟨h7, hM⟩ := gd_some hM
        refine va_iald hx hb hK hP 9 0 rfl rfl (vp_in_iff.mpr h7) d_M_lend_41 ?_
        refine lv_iload_n hx hb d_M_lend_42 rfl (lv_at hl 3 rfl) ?_
        refine lv_icmp_eq (tgt := 48) hx hb d_M_lend_43 (by decide) (fun c8 => ?_) (fun c8 => ?_)
        · replace hM := it_t c8 hM
          exact w_M_lend_48 C x1 x2 y3 ((m_rec u) x1.toNatClampNeg) u H locs ls hP hD hS (lv_sub hl [1, 2, 3, 4, 0] rfl) hM
        · replace hM := it_f c8 hM
          refine lv_iconst (v := (0 : Int32)) hx hb d_M_lend_46 (by decide) ?_
          obtain rfl := Option.some.inj hM
          exact W.zret (v := (0 : Int32)) hx hb hr rfl (fun t ht hW => ⟨⟨(0 : Int32), u, rfl, rfl, by rw [ht]; exact hP, va_K.moved hW.alike hK, hD⟩, hS.F ht⟩) hS.2.2 d_M_lend_47
end
set_option maxRecDepth 100000 in
theorem c_M_lend (l : Launch) (D : va_G) (cI cJ cZ : ClassId) (bd : Nat → Nat) (sz : Nat) (x1 : Int32) (x2 : Int32) (y3 : Int64) (u : Mod) (res : (Int32 × Mod)) (hM : B_M_lend_0 x1 x2 y3 u = some res) : Met l y_M_lend ws_M_lend rm_M_lend (va_Pc [.ref (bd 0), .int x1, .int x2, .long y3] (pr_ D cl9 (tyy cI cJ cZ) (cM cI cJ cZ bd) u sz)) (Qwi D cl9 (tyy cI cJ cZ) (cM cI cJ cZ bd) (va_A ((cM cI cJ cZ bd) u) sz) res) 0 0 (va_A ((cM cI cJ cZ bd) u) sz) := by
  refine Met.ofW (cc := prog_5_method_10_code) (maxL := 7) (ret := (Option.some FieldType.boolean)) (by decide) rfl ?_
  intro p e s m args below meth c s₁ B hml hv
  obtain ⟨rfl, hsz, hP, hK, hD0⟩ := hv
  subst hsz
  have hts0 := atoms_spec (ws := ws_M_lend) B.pre
  have hl := lv_entry ([.ref (bd 0), .int x1, .int x2, .long y3]) (n := 7) (Nat.le_of_ble_eq_true rfl)
  rw [lg_entry_eq]
  generalize (lg_sl ([.ref (bd 0), .int x1, .int x2, .long y3]) ++ List.replicate (7 - (lg_sl ([.ref (bd 0), .int x1, .int x2, .long y3])).length) Slot.unset).toArray = ls at hl ⊢
  exact w_M_lend_0 ⟨B.exec, B.bytes, B.returns, hml, findClass_of_methodNamed B.named, fun w h => hts0 w (List.mem_cons_of_mem _ h), B.notSynchronized, hK, fun q h => Or.inr h⟩ x1 x2 y3 u s.heap [] ls hP hD0.self va_S.rf hl hM
section
variable {p : Program} {l : Launch} {e : Env} {s : State} {m : MethodId} {args : Array Value} {below : List Frame} {meth : Method} {c : Code} {D : va_G} {cI cJ cZ : ClassId} {A : Nat → Prop} {bd : Nat → Nat}
set_option maxHeartbeats 4000000 in
set_option maxRecDepth 100000 in
theorem w_M_sets_0 {res : (Int32 × Mod)} (C : Cx p s m args meth c prog_5_method_11_code 4 (Option.some FieldType.boolean) "PlainLibraryModel" tb D cl9 (tyy cI cJ cZ) A) (x1 : Int32) (x2 : Int32) (u : Mod) (H : Heap) (locs : List Loc) (ls : Array Slot) (hP : va_P D cl9 ((cM cI cJ cZ bd) u) H) (hD : va_D A ((cM cI cJ cZ bd) u)) (hS : va_S A s.heap H locs) (hl : lv_has ls 4 [(0, .ref (bd 0)), (1, .int x1), (2, .int x2)]) (hM : B_M_sets_0 x1 x2 u = some res) : W p l e rm_M_sets s m args below meth c H locs 0 0 (MQ below (Qwi D cl9 (tyy cI cJ cZ) (cM cI cJ cZ bd) A res) args s 0 0 A) (F0 m 0 ls []) := by
  have C0 := C
  obtain ⟨hx, hb, hr, hml, hown, hts, hlocks, hK, hA⟩ := C
  replace C := C0
  unfold B_M_sets_0 at hM
  refine lv_aload_n hx hb d_M_sets_0 rfl (lv_at hl 0 rfl) ?_
  refine va_get (D := D) (ci := 3) (v := .ref (bd 5)) (C := R_M) (T := T_M) (N := 21) hx hb hts in_M hown hK hP 0 rfl rfl 6 (by decide) (hts _ mm_355) (fun _ h9 => h9) rfl d_M_sets_1 ?_
  refine lv_iload_n hx hb d_M_sets_4 rfl (lv_at hl 1 rfl) ?_
  obtain ⟨h1, hM⟩ := gd_some hM
  refine va_zald hx hb hK hP 5 2 rfl rfl (vp_in_iff.mpr h1) d_M_sets_5 ?_
  refine lv_istore_n (lv' := [(3, .int ((m_hd u) x1.toNatClampNeg)), (0, .ref (bd 0)), (1, .int x1), (2, .int x2)]) hx hb d_M_sets_6 rfl hl (by decide) rfl (fun ls hl => ?_)
  refine lv_aload_n hx hb d_M_sets_7 rfl (lv_at hl 1 rfl) ?_
  refine va_get (D := D) (ci := 3) (v := .ref (bd 5)) (C := R_M) (T := T_M) (N := 21) hx hb hts in_M hown hK hP 0 rfl rfl 6 (by decide) (hts _ mm_355) (fun _ h9 => h9) rfl d_M_sets_8 ?_
  refine lv_iload_n hx hb d_M_sets_11 rfl (lv_at hl 2 rfl) ?_
  refine lv_iload_n hx hb d_M_sets_12 rfl (lv_at hl 3 rfl) ?_
  obtain ⟨h2, hM⟩ := gd_some hM
  refine va_zast hx hb hK hP hD hS 5 2 rfl rfl (vp_in_iff.mpr h2) d_M_sets_13 (fun H locs hP hD hS => ?_)
  have hP : va_P D cl9 ((cM cI cJ cZ bd) (m_hd_w u (upd (m_hd u) x1.toNatClampNeg (vp_nar .boolean x2)))) H := reP (zcM_hd cI cJ cZ bd u (upd (m_hd u) x1.toNatClampNeg (vp_nar .boolean x2))) hP
  have hD : va_D A ((cM cI cJ cZ bd) (m_hd_w u (upd (m_hd u) x1.toNatClampNeg (vp_nar .boolean x2)))) := reD (zcM_hd cI cJ cZ bd u (upd (m_hd u) x1.toNatClampNeg (vp_nar .boolean x2))) hD
  refine lv_iload_n hx hb d_M_sets_14 rfl (lv_at hl 0 rfl) ?_
  refine lv_iload_n hx hb d_M_sets_15 rfl (lv_at hl 3 rfl) ?_
  refine lv_icmp_eq (tgt := 23) hx hb d_M_sets_16 (by decide) (fun c3 => ?_) (fun c3 => ?_)
  · replace hM := it_t c3 hM
    refine lv_iconst (v := (0 : Int32)) hx hb d_M_sets_23 (by decide) ?_
    obtain rfl := Option.some.inj hM
    exact W.zret (v := (0 : Int32)) hx hb hr rfl (fun t ht hW => ⟨⟨(0 : Int32), (m_hd_w u (upd (m_hd u) x1.toNatClampNeg (vp_nar .boolean x2))), rfl, rfl, by rw [ht]; exact hP, va_K.moved hW.alike hK, hD⟩, hS.F ht⟩) hS.2.2 d_M_sets_24
  · replace hM := it_f c3 hM
    refine lv_iconst (v := (1 : Int32)) hx hb d_M_sets_19 (by decide) ?_
    refine lv_goto (tgt := 24) hx hb d_M_sets_20 (by decide) ?_
    obtain rfl := Option.some.inj hM
    exact W.zret (v := (1 : Int32)) hx hb hr rfl (fun t ht hW => ⟨⟨(1 : Int32), (m_hd_w u (upd (m_hd u) x1.toNatClampNeg (vp_nar .boolean x2))), rfl, rfl, by rw [ht]; exact hP, va_K.moved hW.alike hK, hD⟩, hS.F ht⟩) hS.2.2 d_M_sets_24
end
set_option maxRecDepth 100000 in
theorem c_M_sets (l : Launch) (D : va_G) (cI cJ cZ : ClassId) (bd : Nat → Nat) (sz : Nat) (x1 : Int32) (x2 : Int32) (u : Mod) (res : (Int32 × Mod)) (hM : B_M_sets_0 x1 x2 u = some res) : Met l y_M_sets ws_M_sets rm_M_sets (va_Pc [.ref (bd 0), .int x1, .int x2] (pr_ D cl9 (tyy cI cJ cZ) (cM cI cJ cZ bd) u sz)) (Qwi D cl9 (tyy cI cJ cZ) (cM cI cJ cZ bd) (va_A ((cM cI cJ cZ bd) u) sz) res) 0 0 (va_A ((cM cI cJ cZ bd) u) sz) := by
  refine Met.ofW (cc := prog_5_method_11_code) (maxL := 4) (ret := (Option.some FieldType.boolean)) (by decide) rfl ?_
  intro p e s m args below meth c s₁ B hml hv
  obtain ⟨rfl, hsz, hP, hK, hD0⟩ := hv
  subst hsz
  have hts0 := atoms_spec (ws := ws_M_sets) B.pre
  have hl := lv_entry ([.ref (bd 0), .int x1, .int x2]) (n := 4) (Nat.le_of_ble_eq_true rfl)
  rw [lg_entry_eq]
  generalize (lg_sl ([.ref (bd 0), .int x1, .int x2]) ++ List.replicate (4 - (lg_sl ([.ref (bd 0), .int x1, .int x2])).length) Slot.unset).toArray = ls at hl ⊢
  exact w_M_sets_0 ⟨B.exec, B.bytes, B.returns, hml, findClass_of_methodNamed B.named, fun w h => hts0 w (List.mem_cons_of_mem _ h), B.notSynchronized, hK, fun q h => Or.inr h⟩ x1 x2 u s.heap [] ls hP hD0.self va_S.rf hl hM
section
variable {p : Program} {l : Launch} {e : Env} {s : State} {m : MethodId} {args : Array Value} {below : List Frame} {meth : Method} {c : Code} {D : va_G} {cI cJ cZ : ClassId} {A : Nat → Prop} {bd : Nat → Nat}
set_option maxHeartbeats 4000000 in
set_option maxRecDepth 100000 in
theorem w_M_stores_32 {res : (Int32 × Mod)} (C : Cx p s m args meth c prog_5_method_12_code 4 (Option.some FieldType.boolean) "PlainLibraryModel" tb D cl9 (tyy cI cJ cZ) A) (u : Mod) (H : Heap) (locs : List Loc) (ls : Array Slot) (hP : va_P D cl9 ((cM cI cJ cZ bd) u) H) (hD : va_D A ((cM cI cJ cZ bd) u)) (hS : va_S A s.heap H locs) (hl : lv_has ls 4 []) (hM : B_M_stores_32 u = some res) : W p l e rm_M_stores s m args below meth c H locs 0 0 (MQ below (Qwi D cl9 (tyy cI cJ cZ) (cM cI cJ cZ bd) A res) args s 0 0 A) (F0 m 32 ls []) := by
  have C0 := C
  obtain ⟨hx, hb, hr, hml, hown, hts, hlocks, hK, hA⟩ := C
  replace C := C0
  unfold B_M_stores_32 at hM
  refine lv_iconst (v := (1 : Int32)) hx hb d_M_stores_32 (by decide) ?_
  refine lv_goto (tgt := 37) hx hb d_M_stores_33 (by decide) ?_
  obtain rfl := Option.some.inj hM
  exact W.zret (v := (1 : Int32)) hx hb hr rfl (fun t ht hW => ⟨⟨(1 : Int32), u, rfl, rfl, by rw [ht]; exact hP, va_K.moved hW.alike hK, hD⟩, hS.F ht⟩) hS.2.2 d_M_stores_37
set_option maxHeartbeats 4000000 in
set_option maxRecDepth 100000 in
theorem w_M_stores_15 {res : (Int32 × Mod)} (C : Cx p s m args meth c prog_5_method_12_code 4 (Option.some FieldType.boolean) "PlainLibraryModel" tb D cl9 (tyy cI cJ cZ) A) (x1 : Int32) (x2 : Int32) (t0 : Int32) (u : Mod) (H : Heap) (locs : List Loc) (ls : Array Slot) (hP : va_P D cl9 ((cM cI cJ cZ bd) u) H) (hD : va_D A ((cM cI cJ cZ bd) u)) (hS : va_S A s.heap H locs) (hl : lv_has ls 4 [(0, .ref (bd 0)), (1, .int x1), (2, .int x2)]) (hM : B_M_stores_15 x1 x2 t0 u = some res) : W p l e rm_M_stores s m args below meth c H locs 0 0 (MQ below (Qwi D cl9 (tyy cI cJ cZ) (cM cI cJ cZ bd) A res) args s 0 0 A) (F0 m 15 ls [.int t0]) := by
  have C0 := C
  obtain ⟨hx, hb, hr, hml, hown, hts, hlocks, hK, hA⟩ := C
  replace C := C0
  unfold B_M_stores_15 at hM
  refine lv_istore_n (lv' := [(3, .int t0), (0, .ref (bd 0)), (1, .int x1), (2, .int x2)]) hx hb d_M_stores_15 rfl hl (by decide) rfl (fun ls hl => ?_)
  refine lv_aload_n hx hb d_M_stores_16 rfl (lv_at hl 1 rfl) ?_
  refine va_get (D := D) (ci := 3) (v := .ref (bd 11)) (C := R_M) (T := T_M) (N := 21) hx hb hts in_M hown hK hP 0 rfl rfl 12 (by decide) (hts _ mm_361) (fun _ h9 => h9) rfl d_M_stores_17 ?_
  refine lv_iload_n hx hb d_M_stores_20 rfl (lv_at hl 2 rfl) ?_
  refine lv_iload_n hx hb d_M_stores_21 rfl (lv_at hl 3 rfl) ?_
  obtain ⟨h1, hM⟩ := gd_some hM
  refine va_iast hx hb hK hP hD hS 11 0 rfl rfl (vp_in_iff.mpr h1) d_M_stores_22 (fun H locs hP hD hS => ?_)
  have hP : va_P D cl9 ((cM cI cJ cZ bd) (m_sm_w u (upd (m_sm u) x1.toNatClampNeg x2))) H := reP (zcM_sm cI cJ cZ bd u (upd (m_sm u) x1.toNatClampNeg x2)) hP
  have hD : va_D A ((cM cI cJ cZ bd) (m_sm_w u (upd (m_sm u) x1.toNatClampNeg x2))) := reD (zcM_sm cI cJ cZ bd u (upd (m_sm u) x1.toNatClampNeg x2)) hD
  refine lv_iload_n hx hb d_M_stores_23 rfl (lv_at hl 0 rfl) ?_
  refine lv_if_ne (tgt := 32) hx hb d_M_stores_24 (by decide) (fun c2 => ?_) (fun c2 => ?_)
  · replace hM := it_f c2 hM
    exact w_M_stores_32 C (m_sm_w u (upd (m_sm u) x1.toNatClampNeg x2)) H locs ls hP hD hS (lv_sub hl [] rfl) hM
  · replace hM := it_t c2 hM
    refine lv_iload_n hx hb d_M_stores_27 rfl (lv_at hl 3 rfl) ?_
    refine lv_iconst (v := (-1 : Int32)) hx hb d_M_stores_28 (by decide) ?_
    refine lv_icmp_eq (tgt := 36) hx hb d_M_stores_29 (by decide) (fun c3 => ?_) (fun c3 => ?_)
    · replace hM := it_t c3 hM
      refine lv_iconst (v := (0 : Int32)) hx hb d_M_stores_36 (by decide) ?_
      obtain rfl := Option.some.inj hM
      exact W.zret (v := (0 : Int32)) hx hb hr rfl (fun t ht hW => ⟨⟨(0 : Int32), (m_sm_w u (upd (m_sm u) x1.toNatClampNeg x2)), rfl, rfl, by rw [ht]; exact hP, va_K.moved hW.alike hK, hD⟩, hS.F ht⟩) hS.2.2 d_M_stores_37
    · replace hM := it_f c3 hM
      exact w_M_stores_32 C (m_sm_w u (upd (m_sm u) x1.toNatClampNeg x2)) H locs ls hP hD hS (lv_sub hl [] rfl) hM
set_option maxHeartbeats 4000000 in
set_option maxRecDepth 100000 in
theorem w_M_stores_0 {res : (Int32 × Mod)} (C : Cx p s m args meth c prog_5_method_12_code 4 (Option.some FieldType.boolean) "PlainLibraryModel" tb D cl9 (tyy cI cJ cZ) A) (x1 : Int32) (x2 : Int32) (u : Mod) (H : Heap) (locs : List Loc) (ls : Array Slot) (hP : va_P D cl9 ((cM cI cJ cZ bd) u) H) (hD : va_D A ((cM cI cJ cZ bd) u)) (hS : va_S A s.heap H locs) (hl : lv_has ls 4 [(0, .ref (bd 0)), (1, .int x1), (2, .int x2)]) (hM : B_M_stores_0 x1 x2 u = some res) : W p l e rm_M_stores s m args below meth c H locs 0 0 (MQ below (Qwi D cl9 (tyy cI cJ cZ) (cM cI cJ cZ bd) A res) args s 0 0 A) (F0 m 0 ls []) := by
  have C0 := C
  obtain ⟨hx, hb, hr, hml, hown, hts, hlocks, hK, hA⟩ := C
  replace C := C0
  unfold B_M_stores_0 at hM
  refine lv_aload_n hx hb d_M_stores_0 rfl (lv_at hl 0 rfl) ?_
  refine va_get (D := D) (ci := 3) (v := .ref (bd 11)) (C := R_M) (T := T_M) (N := 21) hx hb hts in_M hown hK hP 0 rfl rfl 12 (by decide) (hts _ mm_361) (fun _ h9 => h9) rfl d_M_stores_1 ?_
  refine lv_iload_n hx hb d_M_stores_4 rfl (lv_at hl 1 rfl) ?_
  obtain ⟨h1, hM⟩ := gd_some hM
  refine va_iald hx hb hK hP 11 0 rfl rfl (vp_in_iff.mpr h1) d_M_stores_5 ?_
  refine lv_iconst (v := (-1 : Int32)) hx hb d_M_stores_6 (by decide) ?_
  refine lv_icmp_eq (tgt := 14) hx hb d_M_stores_7 (by decide) (fun c2 => ?_) (fun c2 => ?_)
  · replace hM := it_t c2 hM
    refine lv_iconst (v := (0 : Int32)) hx hb d_M_stores_14 (by decide) ?_
    exact w_M_stores_15 C x1 x2 (0 : Int32) u H locs ls hP hD hS (lv_sub hl [0, 1, 2] rfl) hM
  · replace hM := it_f c2 hM
    refine lv_iconst (v := (1 : Int32)) hx hb d_M_stores_10 (by decide) ?_
    refine lv_goto (tgt := 15) hx hb d_M_stores_11 (by decide) ?_
    exact w_M_stores_15 C x1 x2 (1 : Int32) u H locs ls hP hD hS (lv_sub hl [0, 1, 2] rfl) hM
end
set_option maxRecDepth 100000 in
theorem c_M_stores (l : Launch) (D : va_G) (cI cJ cZ : ClassId) (bd : Nat → Nat) (sz : Nat) (x1 : Int32) (x2 : Int32) (u : Mod) (res : (Int32 × Mod)) (hM : B_M_stores_0 x1 x2 u = some res) : Met l y_M_stores ws_M_stores rm_M_stores (va_Pc [.ref (bd 0), .int x1, .int x2] (pr_ D cl9 (tyy cI cJ cZ) (cM cI cJ cZ bd) u sz)) (Qwi D cl9 (tyy cI cJ cZ) (cM cI cJ cZ bd) (va_A ((cM cI cJ cZ bd) u) sz) res) 0 0 (va_A ((cM cI cJ cZ bd) u) sz) := by
  refine Met.ofW (cc := prog_5_method_12_code) (maxL := 4) (ret := (Option.some FieldType.boolean)) (by decide) rfl ?_
  intro p e s m args below meth c s₁ B hml hv
  obtain ⟨rfl, hsz, hP, hK, hD0⟩ := hv
  subst hsz
  have hts0 := atoms_spec (ws := ws_M_stores) B.pre
  have hl := lv_entry ([.ref (bd 0), .int x1, .int x2]) (n := 4) (Nat.le_of_ble_eq_true rfl)
  rw [lg_entry_eq]
  generalize (lg_sl ([.ref (bd 0), .int x1, .int x2]) ++ List.replicate (4 - (lg_sl ([.ref (bd 0), .int x1, .int x2])).length) Slot.unset).toArray = ls at hl ⊢
  exact w_M_stores_0 ⟨B.exec, B.bytes, B.returns, hml, findClass_of_methodNamed B.named, fun w h => hts0 w (List.mem_cons_of_mem _ h), B.notSynchronized, hK, fun q h => Or.inr h⟩ x1 x2 u s.heap [] ls hP hD0.self va_S.rf hl hM
section
variable {p : Program} {l : Launch} {e : Env} {s : State} {m : MethodId} {args : Array Value} {below : List Frame} {meth : Method} {c : Code} {D : va_G} {cI cJ cZ : ClassId} {A : Nat → Prop} {bd : Nat → Nat}
set_option maxHeartbeats 4000000 in
set_option maxRecDepth 100000 in
theorem w_M_does_0 {res : (Int32 × Mod)} (C : Cx p s m args meth c prog_5_method_13_code 4 (Option.some FieldType.boolean) "PlainLibraryModel" tb D cl9 (tyy cI cJ cZ) A) (x1 : Int32) (u : Mod) (H : Heap) (locs : List Loc) (ls : Array Slot) (hP : va_P D cl9 ((cM cI cJ cZ bd) u) H) (hD : va_D A ((cM cI cJ cZ bd) u)) (hS : va_S A s.heap H locs) (hl : lv_has ls 4 [(0, .ref (bd 0)), (1, .int x1)]) (hM : B_M_does_0 x1 u = some res) : W p l e rm_M_does s m args below meth c H locs 0 0 (MQ below (Qwi D cl9 (tyy cI cJ cZ) (cM cI cJ cZ bd) A res) args s 0 0 A) (F0 m 0 ls []) := by
  have C0 := C
  obtain ⟨hx, hb, hr, hml, hown, hts, hlocks, hK, hA⟩ := C
  replace C := C0
  unfold B_M_does_0 at hM
  refine lv_aload_n hx hb d_M_does_0 rfl (lv_at hl 0 rfl) ?_
  refine va_get (D := D) (ci := 3) (v := .ref (bd 2)) (C := R_M) (T := T_M) (N := 21) hx hb hts in_M hown hK hP 0 rfl rfl 2 (by decide) (hts _ mm_351) (fun _ h9 => h9) rfl d_M_does_1 ?_
  refine lv_iload_n hx hb d_M_does_4 rfl (lv_at hl 1 rfl) ?_
  obtain ⟨h1, hM⟩ := gd_some hM
  refine va_iald hx hb hK hP 2 0 rfl rfl (vp_in_iff.mpr h1) d_M_does_5 ?_
  refine lv_istore_n (lv' := [(2, .int ((m_as u) x1.toNatClampNeg)), (0, .ref (bd 0)), (1, .int x1)]) hx hb d_M_does_6 rfl hl (by decide) rfl (fun ls hl => ?_)
  refine lv_aload_n hx hb d_M_does_7 rfl (lv_at hl 1 rfl) ?_
  refine va_get (D := D) (ci := 3) (v := .ref (bd 3)) (C := R_M) (T := T_M) (N := 21) hx hb hts in_M hown hK hP 0 rfl rfl 3 (by decide) (hts _ mm_352) (fun _ h9 => h9) rfl d_M_does_8 ?_
  refine lv_iload_n hx hb d_M_does_11 rfl (lv_at hl 2 rfl) ?_
  obtain ⟨h2, hM⟩ := gd_some hM
  refine va_lald hx hb hK hP 3 1 rfl rfl (vp_in_iff.mpr h2) d_M_does_12 ?_
  refine lv_l2i (v := ((m_bs u) x1.toNatClampNeg).toInt32) hx hb d_M_does_13 rfl ?_
  refine lv_istore_n (lv' := [(3, .int (((m_bs u) x1.toNatClampNeg).toInt32)), (2, .int ((m_as u) x1.toNatClampNeg)), (0, .ref (bd 0)), (1, .int x1)]) hx hb d_M_does_14 rfl hl (by decide) rfl (fun ls hl => ?_)
  refine lv_aload_n hx hb d_M_does_15 rfl (lv_at hl 2 rfl) ?_
  refine va_get (D := D) (ci := 3) (v := .ref (bd 1)) (C := R_M) (T := T_M) (N := 21) hx hb hts in_M hown hK hP 0 rfl rfl 1 (by decide) (hts _ mm_350) (fun _ h9 => h9) rfl d_M_does_16 ?_
  refine lv_iload_n hx hb d_M_does_19 rfl (lv_at hl 3 rfl) ?_
  obtain ⟨h3, hM⟩ := gd_some hM
  refine va_iald hx hb hK hP 1 0 rfl rfl (vp_in_iff.mpr h3) d_M_does_20 ?_
  by_cases c4 : ((m_srt u) x1.toNatClampNeg) = (0 : Int32)
  · replace hM := it_t c4 hM
    refine lv_tableIn (off := 55) (tgt := 76) hx hb d_M_does_21 (by rw [c4]; decide) (by rw [c4]; decide) (by rw [c4]; rfl) (by decide) ?_
    refine lv_aload_n hx hb d_M_does_76 rfl (lv_at hl 2 rfl) ?_
    refine lv_bipush (v := (100 : Int32)) hx hb d_M_does_77 (by decide) ?_
    refine lv_iload_n hx hb d_M_does_79 rfl (lv_at hl 1 rfl) ?_
    refine lv_imul hx hb d_M_does_80 ?_
    refine lv_iload_n hx hb d_M_does_81 rfl (lv_at hl 0 rfl) ?_
    refine lv_iadd hx hb d_M_does_82 ?_
    refine lv_iconst (v := (1 : Int32)) hx hb d_M_does_83 (by decide) ?_
    obtain ⟨v5, hq5, hM⟩ := bd_some hM
    refine fw_i (F := (cM cI cJ cZ bd)) (u := u) (res := v5) (va_runV (As := [.int (((100 : Int32) * ((m_as u) x1.toNatClampNeg)) + (((m_bs u) x1.toNatClampNeg).toInt32)), .int (1 : Int32)]) (rest := []) ⟨hx, hb, hml, hown, hts⟩ (c_M_sets l D cI cJ cZ bd H.size (((100 : Int32) * ((m_as u) x1.toNatClampNeg)) + (((m_bs u) x1.toNatClampNeg).toInt32)) (1 : Int32) u v5 hq5) (cwV 2 hts (gV mm_450 mm_452 (ms_ 20 rfl rfl) mm_30 mm_453) rfl rfl rfl hd_M_sets ⟨Nat.le_of_ble_eq_true rfl, Nat.le_of_ble_eq_true rfl⟩) (pv_ (F := (cM cI cJ cZ bd)) (u := u) hK hP hD (va_recv hK hP (ci := 3) (q0 := 0) rfl rfl)) rfl rfl hl.1 rfl (lv_room (Nat.le_of_ble_eq_true rfl)) d_M_does_84 ⟨Nat.le_of_ble_eq_true rfl, Nat.le_of_ble_eq_true rfl⟩) hS (fa_ hD hS hA) (fun H locs hP hD hS => ?_)
    obtain ⟨h6, hM⟩ := gd_some hM
    obtain rfl := Option.some.inj hM
    exact W.zret (v := v5.1) hx hb hr (nz_b h6) (fun t ht hW => ⟨⟨v5.1, v5.2, rfl, rfl, by rw [ht]; exact hP, va_K.moved hW.alike hK, hD⟩, hS.F ht⟩) hS.2.2 d_M_does_87
  replace hM := it_f c4 hM
  by_cases c7 : ((m_srt u) x1.toNatClampNeg) = (1 : Int32)
  · replace hM := it_t c7 hM
    refine lv_tableIn (off := 67) (tgt := 88) hx hb d_M_does_21 (by rw [c7]; decide) (by rw [c7]; decide) (by rw [c7]; rfl) (by decide) ?_
    refine lv_aload_n hx hb d_M_does_88 rfl (lv_at hl 2 rfl) ?_
    refine lv_bipush (v := (100 : Int32)) hx hb d_M_does_89 (by decide) ?_
    refine lv_iload_n hx hb d_M_does_91 rfl (lv_at hl 1 rfl) ?_
    refine lv_imul hx hb d_M_does_92 ?_
    refine lv_iload_n hx hb d_M_does_93 rfl (lv_at hl 0 rfl) ?_
    refine lv_iadd hx hb d_M_does_94 ?_
    refine lv_iconst (v := (0 : Int32)) hx hb d_M_does_95 (by decide) ?_
    obtain ⟨v8, hq8, hM⟩ := bd_some hM
    refine fw_i (F := (cM cI cJ cZ bd)) (u := u) (res := v8) (va_runV (As := [.int (((100 : Int32) * ((m_as u) x1.toNatClampNeg)) + (((m_bs u) x1.toNatClampNeg).toInt32)), .int (0 : Int32)]) (rest := []) ⟨hx, hb, hml, hown, hts⟩ (c_M_sets l D cI cJ cZ bd H.size (((100 : Int32) * ((m_as u) x1.toNatClampNeg)) + (((m_bs u) x1.toNatClampNeg).toInt32)) (0 : Int32) u v8 hq8) (cwV 2 hts (gV mm_450 mm_452 (ms_ 20 rfl rfl) mm_30 mm_453) rfl rfl rfl hd_M_sets ⟨Nat.le_of_ble_eq_true rfl, Nat.le_of_ble_eq_true rfl⟩) (pv_ (F := (cM cI cJ cZ bd)) (u := u) hK hP hD (va_recv hK hP (ci := 3) (q0 := 0) rfl rfl)) rfl rfl hl.1 rfl (lv_room (Nat.le_of_ble_eq_true rfl)) d_M_does_96 ⟨Nat.le_of_ble_eq_true rfl, Nat.le_of_ble_eq_true rfl⟩) hS (fa_ hD hS hA) (fun H locs hP hD hS => ?_)
    obtain ⟨h9, hM⟩ := gd_some hM
    obtain rfl := Option.some.inj hM
    exact W.zret (v := v8.1) hx hb hr (nz_b h9) (fun t ht hW => ⟨⟨v8.1, v8.2, rfl, rfl, by rw [ht]; exact hP, va_K.moved hW.alike hK, hD⟩, hS.F ht⟩) hS.2.2 d_M_does_99
  replace hM := it_f c7 hM
  by_cases c10 : ((m_srt u) x1.toNatClampNeg) = (2 : Int32)
  · replace hM := it_t c10 hM
    refine lv_tableIn (off := 79) (tgt := 100) hx hb d_M_does_21 (by rw [c10]; decide) (by rw [c10]; decide) (by rw [c10]; rfl) (by decide) ?_
    refine lv_aload_n hx hb d_M_does_100 rfl (lv_at hl 2 rfl) ?_
    refine va_get (D := D) (ci := 3) (v := .ref (bd 7)) (C := R_M) (T := T_M) (N := 21) hx hb hts in_M hown hK hP 0 rfl rfl 8 (by decide) (hts _ mm_357) (fun _ h9 => h9) rfl d_M_does_101 ?_
    refine lv_iload_n hx hb d_M_does_104 rfl (lv_at hl 1 rfl) ?_
    obtain ⟨h11, hM⟩ := gd_some hM
    refine va_iald hx hb hK hP 7 0 rfl rfl (vp_in_iff.mpr h11) d_M_does_105 ?_
    refine lv_if_eq (tgt := 111) hx hb d_M_does_106 (by decide) (fun c12 => ?_) (fun c12 => ?_)
    · replace hM := it_t c12 hM
      refine lv_aload_n hx hb d_M_does_111 rfl (lv_at hl 2 rfl) ?_
      refine va_get (D := D) (ci := 3) (v := .ref (bd 6)) (C := R_M) (T := T_M) (N := 21) hx hb hts in_M hown hK hP 0 rfl rfl 7 (by decide) (hts _ mm_356) (fun _ h9 => h9) rfl d_M_does_112 ?_
      refine lv_iload_n hx hb d_M_does_115 rfl (lv_at hl 1 rfl) ?_
      refine lv_iload_n hx hb d_M_does_116 rfl (lv_at hl 0 rfl) ?_
      obtain ⟨h13, hM⟩ := gd_some hM
      refine va_iast hx hb hK hP hD hS 6 0 rfl rfl (vp_in_iff.mpr h13) d_M_does_117 (fun H locs hP hD hS => ?_)
      have hP : va_P D cl9 ((cM cI cJ cZ bd) (m_rec_w u (upd (m_rec u) ((m_as u) x1.toNatClampNeg).toNatClampNeg (((m_bs u) x1.toNatClampNeg).toInt32)))) H := reP (zcM_rec cI cJ cZ bd u (upd (m_rec u) ((m_as u) x1.toNatClampNeg).toNatClampNeg (((m_bs u) x1.toNatClampNeg).toInt32))) hP
      have hD : va_D A ((cM cI cJ cZ bd) (m_rec_w u (upd (m_rec u) ((m_as u) x1.toNatClampNeg).toNatClampNeg (((m_bs u) x1.toNatClampNeg).toInt32)))) := reD (zcM_rec cI cJ cZ bd u (upd (m_rec u) ((m_as u) x1.toNatClampNeg).toNatClampNeg (((m_bs u) x1.toNatClampNeg).toInt32))) hD
      refine lv_iconst (v := (1 : Int32)) hx hb d_M_does_118 (by decide) ?_
      obtain rfl := Option.some.inj hM
      exact W.zret (v := (1 : Int32)) hx hb hr rfl (fun t ht hW => ⟨⟨(1 : Int32), (m_rec_w u (upd (m_rec u) ((m_as u) x1.toNatClampNeg).toNatClampNeg (((m_bs u) x1.toNatClampNeg).toInt32))), rfl, rfl, by rw [ht]; exact hP, va_K.moved hW.alike hK, hD⟩, hS.F ht⟩) hS.2.2 d_M_does_119
    · replace hM := it_f c12 hM
      refine lv_iconst (v := (0 : Int32)) hx hb d_M_does_109 (by decide) ?_
      obtain rfl := Option.some.inj hM
      exact W.zret (v := (0 : Int32)) hx hb hr rfl (fun t ht hW => ⟨⟨(0 : Int32), u, rfl, rfl, by rw [ht]; exact hP, va_K.moved hW.alike hK, hD⟩, hS.F ht⟩) hS.2.2 d_M_does_110
  replace hM := it_f c10 hM
  by_cases c14 : ((m_srt u) x1.toNatClampNeg) = (3 : Int32)
  · replace hM := it_t c14 hM
    refine lv_tableIn (off := 99) (tgt := 120) hx hb d_M_does_21 (by rw [c14]; decide) (by rw [c14]; decide) (by rw [c14]; rfl) (by decide) ?_
    refine lv_aload_n hx hb d_M_does_120 rfl (lv_at hl 2 rfl) ?_
    refine lv_iload_n hx hb d_M_does_121 rfl (lv_at hl 1 rfl) ?_
    refine lv_iload_n hx hb d_M_does_122 rfl (lv_at hl 0 rfl) ?_
    refine lv_aload_n hx hb d_M_does_123 rfl (lv_at hl 2 rfl) ?_
    refine va_get (D := D) (ci := 3) (v := .ref (bd 4)) (C := R_M) (T := T_M) (N := 21) hx hb hts in_M hown hK hP 0 rfl rfl 4 (by decide) (hts _ mm_353) (fun _ h9 => h9) rfl d_M_does_124 ?_
    refine lv_iload_n hx hb d_M_does_127 rfl (lv_at hl 3 rfl) ?_
    obtain ⟨h15, hM⟩ := gd_some hM
    refine va_lald hx hb hK hP 4 1 rfl rfl (vp_in_iff.mpr h15) d_M_does_128 ?_
    obtain ⟨v16, hq16, hM⟩ := bd_some hM
    refine fw_i (F := (cM cI cJ cZ bd)) (u := u) (res := v16) (va_runV (As := [.int ((m_as u) x1.toNatClampNeg), .int (((m_bs u) x1.toNatClampNeg).toInt32), .long ((m_dys u) x1.toNatClampNeg)]) (rest := []) ⟨hx, hb, hml, hown, hts⟩ (c_M_lend l D cI cJ cZ bd H.size ((m_as u) x1.toNatClampNeg) (((m_bs u) x1.toNatClampNeg).toInt32) ((m_dys u) x1.toNatClampNeg) u v16 hq16) (cwV 3 hts (gV mm_454 mm_456 (ms_ 21 rfl rfl) mm_30 mm_457) rfl rfl rfl hd_M_lend ⟨Nat.le_of_ble_eq_true rfl, Nat.le_of_ble_eq_true rfl⟩) (pv_ (F := (cM cI cJ cZ bd)) (u := u) hK hP hD (va_recv hK hP (ci := 3) (q0 := 0) rfl rfl)) rfl rfl hl.1 rfl (lv_room (Nat.le_of_ble_eq_true rfl)) d_M_does_129 ⟨Nat.le_of_ble_eq_true rfl, Nat.le_of_ble_eq_true rfl⟩) hS (fa_ hD hS hA) (fun H locs hP hD hS => ?_)
    obtain ⟨h17, hM⟩ := gd_some hM
    obtain rfl := Option.some.inj hM
    exact W.zret (v := v16.1) hx hb hr (nz_b h17) (fun t ht hW => ⟨⟨v16.1, v16.2, rfl, rfl, by rw [ht]; exact hP, va_K.moved hW.alike hK, hD⟩, hS.F ht⟩) hS.2.2 d_M_does_132
  replace hM := it_f c14 hM
  by_cases c18 : ((m_srt u) x1.toNatClampNeg) = (4 : Int32)
  · replace hM := it_t c18 hM
    refine lv_tableIn (off := 112) (tgt := 133) hx hb d_M_does_21 (by rw [c18]; decide) (by rw [c18]; decide) (by rw [c18]; rfl) (by decide) ?_
    refine lv_aload_n hx hb d_M_does_133 rfl (lv_at hl 2 rfl) ?_
    refine va_get (D := D) (ci := 3) (v := .ref (bd 15)) (C := R_M) (T := T_M) (N := 21) hx hb hts in_M hown hK hP 0 rfl rfl 16 (by decide) (hts _ mm_365) (fun _ h9 => h9) rfl d_M_does_134 ?_
    refine lv_iload_n hx hb d_M_does_137 rfl (lv_at hl 3 rfl) ?_
    refine lv_aload_n hx hb d_M_does_138 rfl (lv_at hl 2 rfl) ?_
    refine va_get (D := D) (ci := 3) (v := .ref (bd 7)) (C := R_M) (T := T_M) (N := 21) hx hb hts in_M hown hK hP 0 rfl rfl 8 (by decide) (hts _ mm_357) (fun _ h9 => h9) rfl d_M_does_139 ?_
    refine lv_iload_n hx hb d_M_does_142 rfl (lv_at hl 1 rfl) ?_
    obtain ⟨h19, hM⟩ := gd_some hM
    refine va_iald hx hb hK hP 7 0 rfl rfl (vp_in_iff.mpr h19) d_M_does_143 ?_
    obtain ⟨h20, hM⟩ := gd_some hM
    refine va_iast hx hb hK hP hD hS 15 0 rfl rfl (vp_in_iff.mpr h20) d_M_does_144 (fun H locs hP hD hS => ?_)
    have hP : va_P D cl9 ((cM cI cJ cZ bd) (m_bk_w u (upd (m_bk u) x1.toNatClampNeg ((m_per u) ((m_as u) x1.toNatClampNeg).toNatClampNeg)))) H := reP (zcM_bk cI cJ cZ bd u (upd (m_bk u) x1.toNatClampNeg ((m_per u) ((m_as u) x1.toNatClampNeg).toNatClampNeg))) hP
    have hD : va_D A ((cM cI cJ cZ bd) (m_bk_w u (upd (m_bk u) x1.toNatClampNeg ((m_per u) ((m_as u) x1.toNatClampNeg).toNatClampNeg)))) := reD (zcM_bk cI cJ cZ bd u (upd (m_bk u) x1.toNatClampNeg ((m_per u) ((m_as u) x1.toNatClampNeg).toNatClampNeg))) hD
    refine lv_aload_n hx hb d_M_does_145 rfl (lv_at hl 2 rfl) ?_
    refine va_get (D := D) (ci := 3) (v := .ref (bd 7)) (C := R_M) (T := T_M) (N := 21) hx hb hts in_M hown hK hP 0 rfl rfl 8 (by decide) (hts _ mm_357) (fun _ h9 => h9) rfl d_M_does_146 ?_
    refine lv_iload_n hx hb d_M_does_149 rfl (lv_at hl 1 rfl) ?_
    refine lv_iconst (v := (0 : Int32)) hx hb d_M_does_150 (by decide) ?_
    obtain ⟨h21, hM⟩ := gd_some hM
    refine va_iast hx hb hK hP hD hS 7 0 rfl rfl (vp_in_iff.mpr h21) d_M_does_151 (fun H locs hP hD hS => ?_)
    have hP : va_P D cl9 ((cM cI cJ cZ bd) (m_per_w (m_bk_w u (upd (m_bk u) x1.toNatClampNeg ((m_per u) ((m_as u) x1.toNatClampNeg).toNatClampNeg))) (upd (m_per (m_bk_w u (upd (m_bk u) x1.toNatClampNeg ((m_per u) ((m_as u) x1.toNatClampNeg).toNatClampNeg)))) ((m_as u) x1.toNatClampNeg).toNatClampNeg (0 : Int32)))) H := reP (zcM_per cI cJ cZ bd (m_bk_w u (upd (m_bk u) x1.toNatClampNeg ((m_per u) ((m_as u) x1.toNatClampNeg).toNatClampNeg))) (upd (m_per (m_bk_w u (upd (m_bk u) x1.toNatClampNeg ((m_per u) ((m_as u) x1.toNatClampNeg).toNatClampNeg)))) ((m_as u) x1.toNatClampNeg).toNatClampNeg (0 : Int32))) hP
    have hD : va_D A ((cM cI cJ cZ bd) (m_per_w (m_bk_w u (upd (m_bk u) x1.toNatClampNeg ((m_per u) ((m_as u) x1.toNatClampNeg).toNatClampNeg))) (upd (m_per (m_bk_w u (upd (m_bk u) x1.toNatClampNeg ((m_per u) ((m_as u) x1.toNatClampNeg).toNatClampNeg)))) ((m_as u) x1.toNatClampNeg).toNatClampNeg (0 : Int32)))) := reD (zcM_per cI cJ cZ bd (m_bk_w u (upd (m_bk u) x1.toNatClampNeg ((m_per u) ((m_as u) x1.toNatClampNeg).toNatClampNeg))) (upd (m_per (m_bk_w u (upd (m_bk u) x1.toNatClampNeg ((m_per u) ((m_as u) x1.toNatClampNeg).toNatClampNeg)))) ((m_as u) x1.toNatClampNeg).toNatClampNeg (0 : Int32))) hD
    obtain ⟨u22, hu22, hM⟩ := bd_some hM
    rw [Option.some.inj hu22] at hP hD
    refine lv_aload_n hx hb d_M_does_152 rfl (lv_at hl 2 rfl) ?_
    refine va_get (D := D) (ci := 3) (v := .ref (bd 15)) (C := R_M) (T := T_M) (N := 21) hx hb hts in_M hown hK hP 0 rfl rfl 16 (by decide) (hts _ mm_365) (fun _ h9 => h9) rfl d_M_does_153 ?_
    refine lv_iload_n hx hb d_M_does_156 rfl (lv_at hl 3 rfl) ?_
    obtain ⟨h23, hM⟩ := gd_some hM
    refine va_iald hx hb hK hP 15 0 rfl rfl (vp_in_iff.mpr h23) d_M_does_157 ?_
    refine lv_if_eq (tgt := 165) hx hb d_M_does_158 (by decide) (fun c24 => ?_) (fun c24 => ?_)
    · replace hM := it_t c24 hM
      refine lv_iconst (v := (0 : Int32)) hx hb d_M_does_165 (by decide) ?_
      obtain rfl := Option.some.inj hM
      exact W.zret (v := (0 : Int32)) hx hb hr rfl (fun t ht hW => ⟨⟨(0 : Int32), u22, rfl, rfl, by rw [ht]; exact hP, va_K.moved hW.alike hK, hD⟩, hS.F ht⟩) hS.2.2 d_M_does_166
    · replace hM := it_f c24 hM
      refine lv_iconst (v := (1 : Int32)) hx hb d_M_does_161 (by decide) ?_
      refine lv_goto (tgt := 166) hx hb d_M_does_162 (by decide) ?_
      obtain rfl := Option.some.inj hM
      exact W.zret (v := (1 : Int32)) hx hb hr rfl (fun t ht hW => ⟨⟨(1 : Int32), u22, rfl, rfl, by rw [ht]; exact hP, va_K.moved hW.alike hK, hD⟩, hS.F ht⟩) hS.2.2 d_M_does_166
  replace hM := it_f c18 hM
  by_cases c25 : ((m_srt u) x1.toNatClampNeg) = (5 : Int32)
  · replace hM := it_t c25 hM
    refine lv_tableIn (off := 146) (tgt := 167) hx hb d_M_does_21 (by rw [c25]; decide) (by rw [c25]; decide) (by rw [c25]; rfl) (by decide) ?_
    refine lv_aload_n hx hb d_M_does_167 rfl (lv_at hl 2 rfl) ?_
    refine lv_iload_n hx hb d_M_does_168 rfl (lv_at hl 1 rfl) ?_
    refine lv_iload_n hx hb d_M_does_169 rfl (lv_at hl 0 rfl) ?_
    obtain ⟨v26, hq26, hM⟩ := bd_some hM
    refine fw_i (F := (cM cI cJ cZ bd)) (u := u) (res := v26) (va_runV (As := [.int ((m_as u) x1.toNatClampNeg), .int (((m_bs u) x1.toNatClampNeg).toInt32)]) (rest := []) ⟨hx, hb, hml, hown, hts⟩ (c_M_stand l D cI cJ cZ bd H.size ((m_as u) x1.toNatClampNeg) (((m_bs u) x1.toNatClampNeg).toInt32) u v26 hq26) (cwV 2 hts (gV mm_466 mm_468 (ms_ 24 rfl rfl) mm_30 mm_469) rfl rfl rfl hd_M_stand ⟨Nat.le_of_ble_eq_true rfl, Nat.le_of_ble_eq_true rfl⟩) (pv_ (F := (cM cI cJ cZ bd)) (u := u) hK hP hD (va_recv hK hP (ci := 3) (q0 := 0) rfl rfl)) rfl rfl hl.1 rfl (lv_room (Nat.le_of_ble_eq_true rfl)) d_M_does_170 ⟨Nat.le_of_ble_eq_true rfl, Nat.le_of_ble_eq_true rfl⟩) hS (fa_ hD hS hA) (fun H locs hP hD hS => ?_)
    obtain ⟨h27, hM⟩ := gd_some hM
    obtain rfl := Option.some.inj hM
    exact W.zret (v := v26.1) hx hb hr (nz_b h27) (fun t ht hW => ⟨⟨v26.1, v26.2, rfl, rfl, by rw [ht]; exact hP, va_K.moved hW.alike hK, hD⟩, hS.F ht⟩) hS.2.2 d_M_does_173
  replace hM := it_f c25 hM
  by_cases c28 : ((m_srt u) x1.toNatClampNeg) = (6 : Int32)
  · replace hM := it_t c28 hM
    refine lv_tableIn (off := 153) (tgt := 174) hx hb d_M_does_21 (by rw [c28]; decide) (by rw [c28]; decide) (by rw [c28]; rfl) (by decide) ?_
    refine lv_aload_n hx hb d_M_does_174 rfl (lv_at hl 2 rfl) ?_
    refine lv_iload_n hx hb d_M_does_175 rfl (lv_at hl 1 rfl) ?_
    refine lv_iload_n hx hb d_M_does_176 rfl (lv_at hl 0 rfl) ?_
    obtain ⟨v29, hq29, hM⟩ := bd_some hM
    refine fw_i (F := (cM cI cJ cZ bd)) (u := u) (res := v29) (va_runV (As := [.int ((m_as u) x1.toNatClampNeg), .int (((m_bs u) x1.toNatClampNeg).toInt32)]) (rest := []) ⟨hx, hb, hml, hown, hts⟩ (c_M_leave l D cI cJ cZ bd H.size ((m_as u) x1.toNatClampNeg) (((m_bs u) x1.toNatClampNeg).toInt32) u v29 hq29) (cwV 2 hts (gV mm_458 mm_460 (ms_ 22 rfl rfl) mm_30 mm_461) rfl rfl rfl hd_M_leave ⟨Nat.le_of_ble_eq_true rfl, Nat.le_of_ble_eq_true rfl⟩) (pv_ (F := (cM cI cJ cZ bd)) (u := u) hK hP hD (va_recv hK hP (ci := 3) (q0 := 0) rfl rfl)) rfl rfl hl.1 rfl (lv_room (Nat.le_of_ble_eq_true rfl)) d_M_does_177 ⟨Nat.le_of_ble_eq_true rfl, Nat.le_of_ble_eq_true rfl⟩) hS (fa_ hD hS hA) (fun H locs hP hD hS => ?_)
    obtain ⟨h30, hM⟩ := gd_some hM
    obtain rfl := Option.some.inj hM
    exact W.zret (v := v29.1) hx hb hr (nz_b h30) (fun t ht hW => ⟨⟨v29.1, v29.2, rfl, rfl, by rw [ht]; exact hP, va_K.moved hW.alike hK, hD⟩, hS.F ht⟩) hS.2.2 d_M_does_180
  replace hM := it_f c28 hM
  by_cases c31 : ((m_srt u) x1.toNatClampNeg) = (7 : Int32)
  · replace hM := it_t c31 hM
    refine lv_tableIn (off := 160) (tgt := 181) hx hb d_M_does_21 (by rw [c31]; decide) (by rw [c31]; decide) (by rw [c31]; rfl) (by decide) ?_
    refine lv_aload_n hx hb d_M_does_181 rfl (lv_at hl 2 rfl) ?_
    refine lv_bipush (v := (6 : Int32)) hx hb d_M_does_182 (by decide) ?_
    refine lv_iload_n hx hb d_M_does_184 rfl (lv_at hl 1 rfl) ?_
    refine lv_imul hx hb d_M_does_185 ?_
    refine lv_iload_n hx hb d_M_does_186 rfl (lv_at hl 0 rfl) ?_
    refine lv_iadd hx hb d_M_does_187 ?_
    refine lv_aload_n hx hb d_M_does_188 rfl (lv_at hl 2 rfl) ?_
    refine va_get (D := D) (ci := 3) (v := .ref (bd 4)) (C := R_M) (T := T_M) (N := 21) hx hb hts in_M hown hK hP 0 rfl rfl 4 (by decide) (hts _ mm_353) (fun _ h9 => h9) rfl d_M_does_189 ?_
    refine lv_iload_n hx hb d_M_does_192 rfl (lv_at hl 3 rfl) ?_
    obtain ⟨h32, hM⟩ := gd_some hM
    refine va_lald hx hb hK hP 4 1 rfl rfl (vp_in_iff.mpr h32) d_M_does_193 ?_
    refine lv_ldc2 (v := (7 : Int64)) hx hb hown (hts _ mm_470) d_M_does_194 ?_
    refine lv_lrem hx hb d_M_does_197 (by decide) ?_
    refine lv_l2i (v := (((m_dys u) x1.toNatClampNeg) - ((m_dys u) x1.toNatClampNeg) / (7 : Int64) * (7 : Int64)).toInt32) hx hb d_M_does_198 rfl ?_
    obtain ⟨v33, hq33, hM⟩ := bd_some hM
    refine fw_i (F := (cM cI cJ cZ bd)) (u := u) (res := v33) (va_runV (As := [.int (((6 : Int32) * ((m_as u) x1.toNatClampNeg)) + (((m_bs u) x1.toNatClampNeg).toInt32)), .int ((((m_dys u) x1.toNatClampNeg) - ((m_dys u) x1.toNatClampNeg) / (7 : Int64) * (7 : Int64)).toInt32)]) (rest := []) ⟨hx, hb, hml, hown, hts⟩ (c_M_stores l D cI cJ cZ bd H.size (((6 : Int32) * ((m_as u) x1.toNatClampNeg)) + (((m_bs u) x1.toNatClampNeg).toInt32)) ((((m_dys u) x1.toNatClampNeg) - ((m_dys u) x1.toNatClampNeg) / (7 : Int64) * (7 : Int64)).toInt32) u v33 hq33) (cwV 2 hts (gV mm_471 mm_473 (ms_ 25 rfl rfl) mm_30 mm_474) rfl rfl rfl hd_M_stores ⟨Nat.le_of_ble_eq_true rfl, Nat.le_of_ble_eq_true rfl⟩) (pv_ (F := (cM cI cJ cZ bd)) (u := u) hK hP hD (va_recv hK hP (ci := 3) (q0 := 0) rfl rfl)) rfl rfl hl.1 rfl (lv_room (Nat.le_of_ble_eq_true rfl)) d_M_does_199 ⟨Nat.le_of_ble_eq_true rfl, Nat.le_of_ble_eq_true rfl⟩) hS (fa_ hD hS hA) (fun H locs hP hD hS => ?_)
    obtain ⟨h34, hM⟩ := gd_some hM
    obtain rfl := Option.some.inj hM
    exact W.zret (v := v33.1) hx hb hr (nz_b h34) (fun t ht hW => ⟨⟨v33.1, v33.2, rfl, rfl, by rw [ht]; exact hP, va_K.moved hW.alike hK, hD⟩, hS.F ht⟩) hS.2.2 d_M_does_202
  replace hM := it_f c31 hM
  by_cases c35 : ((m_srt u) x1.toNatClampNeg) = (8 : Int32)
  · replace hM := it_t c35 hM
    refine lv_tableIn (off := 182) (tgt := 203) hx hb d_M_does_21 (by rw [c35]; decide) (by rw [c35]; decide) (by rw [c35]; rfl) (by decide) ?_
    refine lv_aload_n hx hb d_M_does_203 rfl (lv_at hl 2 rfl) ?_
    refine lv_bipush (v := (6 : Int32)) hx hb d_M_does_204 (by decide) ?_
    refine lv_iload_n hx hb d_M_does_206 rfl (lv_at hl 1 rfl) ?_
    refine lv_imul hx hb d_M_does_207 ?_
    refine lv_iload_n hx hb d_M_does_208 rfl (lv_at hl 0 rfl) ?_
    refine lv_iadd hx hb d_M_does_209 ?_
    refine lv_iconst (v := (-1 : Int32)) hx hb d_M_does_210 (by decide) ?_
    obtain ⟨v36, hq36, hM⟩ := bd_some hM
    refine fw_i (F := (cM cI cJ cZ bd)) (u := u) (res := v36) (va_runV (As := [.int (((6 : Int32) * ((m_as u) x1.toNatClampNeg)) + (((m_bs u) x1.toNatClampNeg).toInt32)), .int (-1 : Int32)]) (rest := []) ⟨hx, hb, hml, hown, hts⟩ (c_M_stores l D cI cJ cZ bd H.size (((6 : Int32) * ((m_as u) x1.toNatClampNeg)) + (((m_bs u) x1.toNatClampNeg).toInt32)) (-1 : Int32) u v36 hq36) (cwV 2 hts (gV mm_471 mm_473 (ms_ 25 rfl rfl) mm_30 mm_474) rfl rfl rfl hd_M_stores ⟨Nat.le_of_ble_eq_true rfl, Nat.le_of_ble_eq_true rfl⟩) (pv_ (F := (cM cI cJ cZ bd)) (u := u) hK hP hD (va_recv hK hP (ci := 3) (q0 := 0) rfl rfl)) rfl rfl hl.1 rfl (lv_room (Nat.le_of_ble_eq_true rfl)) d_M_does_211 ⟨Nat.le_of_ble_eq_true rfl, Nat.le_of_ble_eq_true rfl⟩) hS (fa_ hD hS hA) (fun H locs hP hD hS => ?_)
    obtain ⟨h37, hM⟩ := gd_some hM
    obtain rfl := Option.some.inj hM
    exact W.zret (v := v36.1) hx hb hr (nz_b h37) (fun t ht hW => ⟨⟨v36.1, v36.2, rfl, rfl, by rw [ht]; exact hP, va_K.moved hW.alike hK, hD⟩, hS.F ht⟩) hS.2.2 d_M_does_214
  replace hM := it_f c35 hM
  by_cases c38 : ((m_srt u) x1.toNatClampNeg) = (9 : Int32)
  · replace hM := it_t c38 hM
    refine lv_tableIn (off := 194) (tgt := 215) hx hb d_M_does_21 (by rw [c38]; decide) (by rw [c38]; decide) (by rw [c38]; rfl) (by decide) ?_
    refine lv_aload_n hx hb d_M_does_215 rfl (lv_at hl 2 rfl) ?_
    refine va_get (D := D) (ci := 3) (v := .ref (bd 12)) (C := R_M) (T := T_M) (N := 21) hx hb hts in_M hown hK hP 0 rfl rfl 13 (by decide) (hts _ mm_362) (fun _ h9 => h9) rfl d_M_does_216 ?_
    refine lv_iload_n hx hb d_M_does_219 rfl (lv_at hl 1 rfl) ?_
    refine lv_iload_n hx hb d_M_does_220 rfl (lv_at hl 0 rfl) ?_
    obtain ⟨h39, hM⟩ := gd_some hM
    refine va_iast hx hb hK hP hD hS 12 0 rfl rfl (vp_in_iff.mpr h39) d_M_does_221 (fun H locs hP hD hS => ?_)
    have hP : va_P D cl9 ((cM cI cJ cZ bd) (m_cls_w u (upd (m_cls u) ((m_as u) x1.toNatClampNeg).toNatClampNeg (((m_bs u) x1.toNatClampNeg).toInt32)))) H := reP (zcM_cls cI cJ cZ bd u (upd (m_cls u) ((m_as u) x1.toNatClampNeg).toNatClampNeg (((m_bs u) x1.toNatClampNeg).toInt32))) hP
    have hD : va_D A ((cM cI cJ cZ bd) (m_cls_w u (upd (m_cls u) ((m_as u) x1.toNatClampNeg).toNatClampNeg (((m_bs u) x1.toNatClampNeg).toInt32)))) := reD (zcM_cls cI cJ cZ bd u (upd (m_cls u) ((m_as u) x1.toNatClampNeg).toNatClampNeg (((m_bs u) x1.toNatClampNeg).toInt32))) hD
    refine lv_iconst (v := (1 : Int32)) hx hb d_M_does_222 (by decide) ?_
    obtain rfl := Option.some.inj hM
    exact W.zret (v := (1 : Int32)) hx hb hr rfl (fun t ht hW => ⟨⟨(1 : Int32), (m_cls_w u (upd (m_cls u) ((m_as u) x1.toNatClampNeg).toNatClampNeg (((m_bs u) x1.toNatClampNeg).toInt32))), rfl, rfl, by rw [ht]; exact hP, va_K.moved hW.alike hK, hD⟩, hS.F ht⟩) hS.2.2 d_M_does_223
  replace hM := it_f c38 hM
  have nc4 := lv_neT c4 (a := 0) (by decide)
  have nc7 := lv_neT c7 (a := 1) (by decide)
  have nc10 := lv_neT c10 (a := 2) (by decide)
  have nc14 := lv_neT c14 (a := 3) (by decide)
  have nc18 := lv_neT c18 (a := 4) (by decide)
  have nc25 := lv_neT c25 (a := 5) (by decide)
  have nc28 := lv_neT c28 (a := 6) (by decide)
  have nc31 := lv_neT c31 (a := 7) (by decide)
  have nc35 := lv_neT c35 (a := 8) (by decide)
  have nc38 := lv_neT c38 (a := 9) (by decide)
  refine lv_tableOut (tgt := 224) hx hb d_M_does_21 (by omega) (by decide) ?_
  refine lv_aload_n hx hb d_M_does_224 rfl (lv_at hl 2 rfl) ?_
  refine va_get (D := D) (ci := 3) (v := .ref (bd 13)) (C := R_M) (T := T_M) (N := 21) hx hb hts in_M hown hK hP 0 rfl rfl 14 (by decide) (hts _ mm_363) (fun _ h9 => h9) rfl d_M_does_225 ?_
  refine lv_iload_n hx hb d_M_does_228 rfl (lv_at hl 1 rfl) ?_
  refine lv_iload_n hx hb d_M_does_229 rfl (lv_at hl 0 rfl) ?_
  obtain ⟨h40, hM⟩ := gd_some hM
  refine va_iast hx hb hK hP hD hS 13 0 rfl rfl (vp_in_iff.mpr h40) d_M_does_230 (fun H locs hP hD hS => ?_)
  have hP : va_P D cl9 ((cM cI cJ cZ bd) (m_ln_w u (upd (m_ln u) ((m_as u) x1.toNatClampNeg).toNatClampNeg (((m_bs u) x1.toNatClampNeg).toInt32)))) H := reP (zcM_ln cI cJ cZ bd u (upd (m_ln u) ((m_as u) x1.toNatClampNeg).toNatClampNeg (((m_bs u) x1.toNatClampNeg).toInt32))) hP
  have hD : va_D A ((cM cI cJ cZ bd) (m_ln_w u (upd (m_ln u) ((m_as u) x1.toNatClampNeg).toNatClampNeg (((m_bs u) x1.toNatClampNeg).toInt32)))) := reD (zcM_ln cI cJ cZ bd u (upd (m_ln u) ((m_as u) x1.toNatClampNeg).toNatClampNeg (((m_bs u) x1.toNatClampNeg).toInt32))) hD
  refine lv_iconst (v := (1 : Int32)) hx hb d_M_does_231 (by decide) ?_
  obtain rfl := Option.some.inj hM
  exact W.zret (v := (1 : Int32)) hx hb hr rfl (fun t ht hW => ⟨⟨(1 : Int32), (m_ln_w u (upd (m_ln u) ((m_as u) x1.toNatClampNeg).toNatClampNeg (((m_bs u) x1.toNatClampNeg).toInt32))), rfl, rfl, by rw [ht]; exact hP, va_K.moved hW.alike hK, hD⟩, hS.F ht⟩) hS.2.2 d_M_does_232
end
set_option maxRecDepth 100000 in
theorem c_M_does (l : Launch) (D : va_G) (cI cJ cZ : ClassId) (bd : Nat → Nat) (sz : Nat) (x1 : Int32) (u : Mod) (res : (Int32 × Mod)) (hM : B_M_does_0 x1 u = some res) : Met l y_M_does ws_M_does rm_M_does (va_Pc [.ref (bd 0), .int x1] (pr_ D cl9 (tyy cI cJ cZ) (cM cI cJ cZ bd) u sz)) (Qwi D cl9 (tyy cI cJ cZ) (cM cI cJ cZ bd) (va_A ((cM cI cJ cZ bd) u) sz) res) 0 0 (va_A ((cM cI cJ cZ bd) u) sz) := by
  refine Met.ofW (cc := prog_5_method_13_code) (maxL := 4) (ret := (Option.some FieldType.boolean)) (by decide) rfl ?_
  intro p e s m args below meth c s₁ B hml hv
  obtain ⟨rfl, hsz, hP, hK, hD0⟩ := hv
  subst hsz
  have hts0 := atoms_spec (ws := ws_M_does) B.pre
  have hl := lv_entry ([.ref (bd 0), .int x1]) (n := 4) (Nat.le_of_ble_eq_true rfl)
  rw [lg_entry_eq]
  generalize (lg_sl ([.ref (bd 0), .int x1]) ++ List.replicate (4 - (lg_sl ([.ref (bd 0), .int x1])).length) Slot.unset).toArray = ls at hl ⊢
  exact w_M_does_0 ⟨B.exec, B.bytes, B.returns, hml, findClass_of_methodNamed B.named, fun w h => hts0 w (List.mem_cons_of_mem _ h), B.notSynchronized, hK, fun q h => Or.inr h⟩ x1 u s.heap [] ls hP hD0.self va_S.rf hl hM
section
variable {p : Program} {l : Launch} {e : Env} {s : State} {m : MethodId} {args : Array Value} {below : List Frame} {meth : Method} {c : Code} {D : va_G} {cI cJ cZ : ClassId} {A : Nat → Prop} {bd : Nat → Nat}
set_option maxHeartbeats 4000000 in
set_option maxRecDepth 100000 in
theorem w_M_go_118 {k7 : Int64 → Int32 → Int32 → Int32 → Int32 → Mod → Option Mod} {k92 : Int64 → Int32 → Int32 → Int32 → Int32 → Int32 → Int32 → Mod → Option Mod} {res : Mod} (C : Cx p s m args meth c prog_5_method_14_code 9 (Option.none : Option FieldType) "PlainLibraryModel" tb D cl9 (tyy cI cJ cZ) A) (hk7 : ∀ (y1 : Int64) (x3 : Int32) (x4 : Int32) (x5 : Int32) (x6 : Int32) (u : Mod) (H : Heap) (locs : List Loc) (ls : Array Slot), va_P D cl9 ((cM cI cJ cZ bd) u) H → va_D A ((cM cI cJ cZ bd) u) → va_S A s.heap H locs → lv_has ls 9 [(0, .ref (bd 0)), (1, .long y1), (3, .int x3), (4, .int x4), (5, .int x5), (6, .int x6)] → k7 y1 x3 x4 x5 x6 u = some res → W p l e rm_M_go s m args below meth c H locs 0 0 (MQ below (Qwv D cl9 (tyy cI cJ cZ) (cM cI cJ cZ bd) A res) args s 0 0 A) (F0 m 7 ls [])) (hk92 : ∀ (y1 : Int64) (x3 : Int32) (x4 : Int32) (x5 : Int32) (x6 : Int32) (x7 : Int32) (x8 : Int32) (u : Mod) (H : Heap) (locs : List Loc) (ls : Array Slot), va_P D cl9 ((cM cI cJ cZ bd) u) H → va_D A ((cM cI cJ cZ bd) u) → va_S A s.heap H locs → lv_has ls 9 [(0, .ref (bd 0)), (1, .long y1), (3, .int x3), (4, .int x4), (5, .int x5), (6, .int x6), (7, .int x7), (8, .int x8)] → k92 y1 x3 x4 x5 x6 x7 x8 u = some res → W p l e rm_M_go s m args below meth c H locs 0 0 (MQ below (Qwv D cl9 (tyy cI cJ cZ) (cM cI cJ cZ bd) A res) args s 0 0 A) (F0 m 92 ls [])) (y1 : Int64) (x3 : Int32) (x4 : Int32) (x5 : Int32) (x6 : Int32) (x8 : Int32) (t0 : Int32) (t1 : Int32) (u : Mod) (H : Heap) (locs : List Loc) (ls : Array Slot) (hP : va_P D cl9 ((cM cI cJ cZ bd) u) H) (hD : va_D A ((cM cI cJ cZ bd) u)) (hS : va_S A s.heap H locs) (hl : lv_has ls 9 [(0, .ref (bd 0)), (1, .long y1), (3, .int x3), (4, .int x4), (5, .int x5), (6, .int x6), (8, .int x8)]) (hM : B_M_go_118 k7 k92 y1 x3 x4 x5 x6 x8 t0 t1 u = some res) : W p l e rm_M_go s m args below meth c H locs 0 0 (MQ below (Qwv D cl9 (tyy cI cJ cZ) (cM cI cJ cZ bd) A res) args s 0 0 A) (F0 m 118 ls [.int t0, .int t1]) := by
  have C0 := C
  obtain ⟨hx, hb, hr, hml, hown, hts, hlocks, hK, hA⟩ := C
  replace C := C0
  unfold B_M_go_118 at hM
  refine lv_iadd hx hb d_M_go_118 ?_
  refine lv_istore (lv' := [(7, .int (t1 + t0)), (0, .ref (bd 0)), (1, .long y1), (3, .int x3), (4, .int x4), (5, .int x5), (6, .int x6), (8, .int x8)]) hx hb d_M_go_119 hl (by decide) rfl (fun ls hl => ?_)
  refine lv_iinc (v := (x8 + (1 : Int32))) (lv' := [(8, .int (x8 + (1 : Int32))), (7, .int (t1 + t0)), (0, .ref (bd 0)), (1, .long y1), (3, .int x3), (4, .int x4), (5, .int x5), (6, .int x6)]) hx hb d_M_go_121 hl (k := 7) rfl rfl (by decide) rfl (fun ls hl => ?_)
  refine lv_goto (tgt := 92) hx hb d_M_go_124 (by decide) ?_
  exact hk92 y1 x3 x4 x5 x6 (t1 + t0) (x8 + (1 : Int32)) u H locs ls hP hD hS (lv_sub hl [2, 3, 4, 5, 6, 7, 1, 0] rfl) hM
set_option maxHeartbeats 4000000 in
set_option maxRecDepth 100000 in
theorem w_M_go_149 {k7 : Int64 → Int32 → Int32 → Int32 → Int32 → Mod → Option Mod} {res : Mod} (C : Cx p s m args meth c prog_5_method_14_code 9 (Option.none : Option FieldType) "PlainLibraryModel" tb D cl9 (tyy cI cJ cZ) A) (hk7 : ∀ (y1 : Int64) (x3 : Int32) (x4 : Int32) (x5 : Int32) (x6 : Int32) (u : Mod) (H : Heap) (locs : List Loc) (ls : Array Slot), va_P D cl9 ((cM cI cJ cZ bd) u) H → va_D A ((cM cI cJ cZ bd) u) → va_S A s.heap H locs → lv_has ls 9 [(0, .ref (bd 0)), (1, .long y1), (3, .int x3), (4, .int x4), (5, .int x5), (6, .int x6)] → k7 y1 x3 x4 x5 x6 u = some res → W p l e rm_M_go s m args below meth c H locs 0 0 (MQ below (Qwv D cl9 (tyy cI cJ cZ) (cM cI cJ cZ bd) A res) args s 0 0 A) (F0 m 7 ls [])) (y1 : Int64) (x3 : Int32) (x4 : Int32) (x5 : Int32) (x6 : Int32) (u : Mod) (H : Heap) (locs : List Loc) (ls : Array Slot) (hP : va_P D cl9 ((cM cI cJ cZ bd) u) H) (hD : va_D A ((cM cI cJ cZ bd) u)) (hS : va_S A s.heap H locs) (hl : lv_has ls 9 [(0, .ref (bd 0)), (1, .long y1), (3, .int x3), (4, .int x4), (5, .int x5), (6, .int x6)]) (hM : B_M_go_149 k7 y1 x3 x4 x5 x6 u = some res) : W p l e rm_M_go s m args below meth c H locs 0 0 (MQ below (Qwv D cl9 (tyy cI cJ cZ) (cM cI cJ cZ bd) A res) args s 0 0 A) (F0 m 149 ls []) := by
  have C0 := C
  obtain ⟨hx, hb, hr, hml, hown, hts, hlocks, hK, hA⟩ := C
  replace C := C0
  unfold B_M_go_149 at hM
  refine lv_iinc (v := (x6 + (1 : Int32))) (lv' := [(6, .int (x6 + (1 : Int32))), (0, .ref (bd 0)), (1, .long y1), (3, .int x3), (4, .int x4), (5, .int x5)]) hx hb d_M_go_149 hl (k := 5) rfl rfl (by decide) rfl (fun ls hl => ?_)
  refine lv_goto (tgt := 7) hx hb d_M_go_152 (by decide) ?_
  exact hk7 y1 x3 x4 x5 (x6 + (1 : Int32)) u H locs ls hP hD hS (lv_sub hl [1, 2, 3, 4, 5, 0] rfl) hM
set_option maxHeartbeats 4000000 in
set_option maxRecDepth 100000 in
theorem w_M_go_146 {k7 : Int64 → Int32 → Int32 → Int32 → Int32 → Mod → Option Mod} {res : Mod} (C : Cx p s m args meth c prog_5_method_14_code 9 (Option.none : Option FieldType) "PlainLibraryModel" tb D cl9 (tyy cI cJ cZ) A) (hk7 : ∀ (y1 : Int64) (x3 : Int32) (x4 : Int32) (x5 : Int32) (x6 : Int32) (u : Mod) (H : Heap) (locs : List Loc) (ls : Array Slot), va_P D cl9 ((cM cI cJ cZ bd) u) H → va_D A ((cM cI cJ cZ bd) u) → va_S A s.heap H locs → lv_has ls 9 [(0, .ref (bd 0)), (1, .long y1), (3, .int x3), (4, .int x4), (5, .int x5), (6, .int x6)] → k7 y1 x3 x4 x5 x6 u = some res → W p l e rm_M_go s m args below meth c H locs 0 0 (MQ below (Qwv D cl9 (tyy cI cJ cZ) (cM cI cJ cZ bd) A res) args s 0 0 A) (F0 m 7 ls [])) (y1 : Int64) (x3 : Int32) (x4 : Int32) (x5 : Int32) (x6 : Int32) (t0 : Int32) (u : Mod) (H : Heap) (locs : List Loc) (ls : Array Slot) (hP : va_P D cl9 ((cM cI cJ cZ bd) u) H) (hD : va_D A ((cM cI cJ cZ bd) u)) (hS : va_S A s.heap H locs) (hl : lv_has ls 9 [(0, .ref (bd 0)), (1, .long y1), (3, .int x3), (4, .int x4), (5, .int x5), (6, .int x6)]) (hM : B_M_go_146 k7 y1 x3 x4 x5 x6 t0 u = some res) : W p l e rm_M_go s m args below meth c H locs 0 0 (MQ below (Qwv D cl9 (tyy cI cJ cZ) (cM cI cJ cZ bd) A res) args s 0 0 A) (F0 m 146 ls [.int t0, .ref (bd 0)]) := by
  have C0 := C
  obtain ⟨hx, hb, hr, hml, hown, hts, hlocks, hK, hA⟩ := C
  replace C := C0
  unfold B_M_go_146 at hM
  refine va_put (D := D) (ci := 3) (v := .int t0) (ty := .int) (C := R_M) (T := T_M) (N := 21) hx hb hts in_M ty_M tk_M nm_M hown hK hP hD hS 0 rfl rfl 18 (by decide) (hts _ mm_367) (fun _ h9 => h9) rfl (by decide +kernel) rfl rfl (Nat.le_of_ble_eq_true rfl) d_M_go_146 (fun H locs hP hD hS => ?_)
  have hP : va_P D cl9 ((cM cI cJ cZ bd) (m_pk_w u t0)) H := reP (zcM_pk cI cJ cZ bd u t0) hP
  have hD : va_D A ((cM cI cJ cZ bd) (m_pk_w u t0)) := reD (zcM_pk cI cJ cZ bd u t0) hD
  exact w_M_go_149 C hk7 y1 x3 x4 x5 x6 (m_pk_w u t0) H locs ls hP hD hS (lv_sub hl [0, 1, 2, 3, 4, 5] rfl) hM
set_option maxHeartbeats 4000000 in
set_option maxRecDepth 100000 in
theorem w_M_go_92s {k7 : Int64 → Int32 → Int32 → Int32 → Int32 → Mod → Option Mod} {res : Mod} (C : Cx p s m args meth c prog_5_method_14_code 9 (Option.none : Option FieldType) "PlainLibraryModel" tb D cl9 (tyy cI cJ cZ) A) {k92 : Int64 → Int32 → Int32 → Int32 → Int32 → Int32 → Int32 → Mod → Option Mod} (hk7 : ∀ (y1 : Int64) (x3 : Int32) (x4 : Int32) (x5 : Int32) (x6 : Int32) (u : Mod) (H : Heap) (locs : List Loc) (ls : Array Slot), va_P D cl9 ((cM cI cJ cZ bd) u) H → va_D A ((cM cI cJ cZ bd) u) → va_S A s.heap H locs → lv_has ls 9 [(0, .ref (bd 0)), (1, .long y1), (3, .int x3), (4, .int x4), (5, .int x5), (6, .int x6)] → k7 y1 x3 x4 x5 x6 u = some res → W p l e rm_M_go s m args below meth c H locs 0 0 (MQ below (Qwv D cl9 (tyy cI cJ cZ) (cM cI cJ cZ bd) A res) args s 0 0 A) (F0 m 7 ls [])) (hk92 : ∀ (y1 : Int64) (x3 : Int32) (x4 : Int32) (x5 : Int32) (x6 : Int32) (x7 : Int32) (x8 : Int32) (u : Mod) (H : Heap) (locs : List Loc) (ls : Array Slot), va_P D cl9 ((cM cI cJ cZ bd) u) H → va_D A ((cM cI cJ cZ bd) u) → va_S A s.heap H locs → lv_has ls 9 [(0, .ref (bd 0)), (1, .long y1), (3, .int x3), (4, .int x4), (5, .int x5), (6, .int x6), (7, .int x7), (8, .int x8)] → k92 y1 x3 x4 x5 x6 x7 x8 u = some res → W p l e rm_M_go s m args below meth c H locs 0 0 (MQ below (Qwv D cl9 (tyy cI cJ cZ) (cM cI cJ cZ bd) A res) args s 0 0 A) (F0 m 92 ls [])) (y1 : Int64) (x3 : Int32) (x4 : Int32) (x5 : Int32) (x6 : Int32) (x7 : Int32) (x8 : Int32) (u : Mod) (H : Heap) (locs : List Loc) (ls : Array Slot) (hP : va_P D cl9 ((cM cI cJ cZ bd) u) H) (hD : va_D A ((cM cI cJ cZ bd) u)) (hS : va_S A s.heap H locs) (hl : lv_has ls 9 [(0, .ref (bd 0)), (1, .long y1), (3, .int x3), (4, .int x4), (5, .int x5), (6, .int x6), (7, .int x7), (8, .int x8)]) (hM : B_M_go_92s k7 k92 y1 x3 x4 x5 x6 x7 x8 u = some res) : W p l e rm_M_go s m args below meth c H locs 0 0 (MQ below (Qwv D cl9 (tyy cI cJ cZ) (cM cI cJ cZ bd) A res) args s 0 0 A) (F0 m 92 ls []) := by
  have C0 := C
  obtain ⟨hx, hb, hr, hml, hown, hts, hlocks, hK, hA⟩ := C
  replace C := C0
  unfold B_M_go_92s at hM
  refine lv_iload hx hb d_M_go_92 (lv_at hl 7 rfl) ?_
  refine lv_bipush (v := (21 : Int32)) hx hb d_M_go_94 (by decide) ?_
  refine lv_icmp_ge (tgt := 127) hx hb d_M_go_96 (by decide) (fun c1 => ?_) (fun c1 => ?_)
  · replace hM := it_t c1 hM
    refine lv_aload_n hx hb d_M_go_127 rfl (lv_at hl 0 rfl) ?_
    refine lv_iload hx hb d_M_go_128 (lv_at hl 6 rfl) ?_
    refine lv_aload_n hx hb d_M_go_130 rfl (lv_at hl 0 rfl) ?_
    refine va_get (D := D) (ci := 3) (v := .int (m_pk u)) (C := R_M) (T := T_M) (N := 21) hx hb hts in_M hown hK hP 0 rfl rfl 18 (by decide) (hts _ mm_367) (fun _ h9 => h9) rfl d_M_go_131 ?_
    refine lv_icmp_le (tgt := 142) hx hb d_M_go_134 (by decide) (fun c2 => ?_) (fun c2 => ?_)
    · replace hM := it_t c2 hM
      refine lv_aload_n hx hb d_M_go_142 rfl (lv_at hl 0 rfl) ?_
      refine va_get (D := D) (ci := 3) (v := .int (m_pk u)) (C := R_M) (T := T_M) (N := 21) hx hb hts in_M hown hK hP 0 rfl rfl 18 (by decide) (hts _ mm_367) (fun _ h9 => h9) rfl d_M_go_143 ?_
      exact w_M_go_146 C hk7 y1 x3 x4 x5 x6 (m_pk u) u H locs ls hP hD hS (lv_sub hl [0, 1, 2, 3, 4, 5] rfl) hM
    · replace hM := it_f c2 hM
      refine lv_iload hx hb d_M_go_137 (lv_at hl 6 rfl) ?_
      refine lv_goto (tgt := 146) hx hb d_M_go_139 (by decide) ?_
      exact w_M_go_146 C hk7 y1 x3 x4 x5 x6 x7 u H locs ls hP hD hS (lv_sub hl [0, 1, 2, 3, 4, 5] rfl) hM
  · replace hM := it_f c1 hM
    refine lv_iload hx hb d_M_go_99 (lv_at hl 6 rfl) ?_
    refine lv_aload_n hx hb d_M_go_101 rfl (lv_at hl 0 rfl) ?_
    refine va_get (D := D) (ci := 3) (v := .ref (bd 7)) (C := R_M) (T := T_M) (N := 21) hx hb hts in_M hown hK hP 0 rfl rfl 8 (by decide) (hts _ mm_357) (fun _ h9 => h9) rfl d_M_go_102 ?_
    refine lv_iload hx hb d_M_go_105 (lv_at hl 7 rfl) ?_
    obtain ⟨h3, hM⟩ := gd_some hM
    refine va_iald hx hb hK hP 7 0 rfl rfl (vp_in_iff.mpr h3) d_M_go_107 ?_
    refine lv_iload hx hb d_M_go_108 (lv_at hl 4 rfl) ?_
    refine lv_icmp_ne (tgt := 117) hx hb d_M_go_110 (by decide) (fun c4 => ?_) (fun c4 => ?_)
    · replace hM := it_f c4 hM
      refine lv_iconst (v := (0 : Int32)) hx hb d_M_go_117 (by decide) ?_
      exact w_M_go_118 C hk7 hk92 y1 x3 x4 x5 x6 x8 (0 : Int32) x7 u H locs ls hP hD hS (lv_sub hl [0, 1, 2, 3, 4, 5, 7] rfl) hM
    · replace hM := it_t c4 hM
      refine lv_iconst (v := (1 : Int32)) hx hb d_M_go_113 (by decide) ?_
      refine lv_goto (tgt := 118) hx hb d_M_go_114 (by decide) ?_
      exact w_M_go_118 C hk7 hk92 y1 x3 x4 x5 x6 x8 (1 : Int32) x7 u H locs ls hP hD hS (lv_sub hl [0, 1, 2, 3, 4, 5, 7] rfl) hM
theorem w_M_go_92 {k7 : Int64 → Int32 → Int32 → Int32 → Int32 → Mod → Option Mod} {res : Mod} (C : Cx p s m args meth c prog_5_method_14_code 9 (Option.none : Option FieldType) "PlainLibraryModel" tb D cl9 (tyy cI cJ cZ) A) (hk7 : ∀ (y1 : Int64) (x3 : Int32) (x4 : Int32) (x5 : Int32) (x6 : Int32) (u : Mod) (H : Heap) (locs : List Loc) (ls : Array Slot), va_P D cl9 ((cM cI cJ cZ bd) u) H → va_D A ((cM cI cJ cZ bd) u) → va_S A s.heap H locs → lv_has ls 9 [(0, .ref (bd 0)), (1, .long y1), (3, .int x3), (4, .int x4), (5, .int x5), (6, .int x6)] → k7 y1 x3 x4 x5 x6 u = some res → W p l e rm_M_go s m args below meth c H locs 0 0 (MQ below (Qwv D cl9 (tyy cI cJ cZ) (cM cI cJ cZ bd) A res) args s 0 0 A) (F0 m 7 ls [])) : ∀ (fu : Nat) (y1 : Int64) (x3 : Int32) (x4 : Int32) (x5 : Int32) (x6 : Int32) (x7 : Int32) (x8 : Int32) (u : Mod) (H : Heap) (locs : List Loc) (ls : Array Slot), va_P D cl9 ((cM cI cJ cZ bd) u) H → va_D A ((cM cI cJ cZ bd) u) → va_S A s.heap H locs → lv_has ls 9 [(0, .ref (bd 0)), (1, .long y1), (3, .int x3), (4, .int x4), (5, .int x5), (6, .int x6), (7, .int x7), (8, .int x8)] → B_M_go_92 k7 fu y1 x3 x4 x5 x6 x7 x8 u = some res → W p l e rm_M_go s m args below meth c H locs 0 0 (MQ below (Qwv D cl9 (tyy cI cJ cZ) (cM cI cJ cZ bd) A res) args s 0 0 A) (F0 m 92 ls []) := by
  intro fu
  induction fu with
  | zero =>
    intro y1 x3 x4 x5 x6 x7 x8 u H locs ls hP hD hS hl hM
    have hM : (none : Option Mod) = some res := hM
    cases hM
  | succ fu ih =>
    intro y1 x3 x4 x5 x6 x7 x8 u H locs ls hP hD hS hl hM
    exact w_M_go_92s C hk7 ih y1 x3 x4 x5 x6 x7 x8 u H locs ls hP hD hS hl hM
set_option maxHeartbeats 4000000 in
set_option maxRecDepth 100000 in
theorem w_M_go_82 {k7 : Int64 → Int32 → Int32 → Int32 → Int32 → Mod → Option Mod} {res : Mod} (C : Cx p s m args meth c prog_5_method_14_code 9 (Option.none : Option FieldType) "PlainLibraryModel" tb D cl9 (tyy cI cJ cZ) A) (hk7 : ∀ (y1 : Int64) (x3 : Int32) (x4 : Int32) (x5 : Int32) (x6 : Int32) (u : Mod) (H : Heap) (locs : List Loc) (ls : Array Slot), va_P D cl9 ((cM cI cJ cZ bd) u) H → va_D A ((cM cI cJ cZ bd) u) → va_S A s.heap H locs → lv_has ls 9 [(0, .ref (bd 0)), (1, .long y1), (3, .int x3), (4, .int x4), (5, .int x5), (6, .int x6)] → k7 y1 x3 x4 x5 x6 u = some res → W p l e rm_M_go s m args below meth c H locs 0 0 (MQ below (Qwv D cl9 (tyy cI cJ cZ) (cM cI cJ cZ bd) A res) args s 0 0 A) (F0 m 7 ls [])) (y1 : Int64) (x3 : Int32) (x4 : Int32) (x5 : Int32) (x6 : Int32) (t0 : Int32) (t1 : Int32) (u : Mod) (H : Heap) (locs : List Loc) (ls : Array Slot) (hP : va_P D cl9 ((cM cI cJ cZ bd) u) H) (hD : va_D A ((cM cI cJ cZ bd) u)) (hS : va_S A s.heap H locs) (hl : lv_has ls 9 [(0, .ref (bd 0)), (1, .long y1), (3, .int x3), (4, .int x4), (5, .int x5), (6, .int x6)]) (hM : B_M_go_82 k7 y1 x3 x4 x5 x6 t0 t1 u = some res) : W p l e rm_M_go s m args below meth c H locs 0 0 (MQ below (Qwv D cl9 (tyy cI cJ cZ) (cM cI cJ cZ bd) A res) args s 0 0 A) (F0 m 82 ls [.int t0, .int t1, .ref (bd 0)]) := by
  have C0 := C
  obtain ⟨hx, hb, hr, hml, hown, hts, hlocks, hK, hA⟩ := C
  replace C := C0
  unfold B_M_go_82 at hM
  refine lv_iadd hx hb d_M_go_82 ?_
  refine va_put (D := D) (ci := 3) (v := .int (t1 + t0)) (ty := .int) (C := R_M) (T := T_M) (N := 21) hx hb hts in_M ty_M tk_M nm_M hown hK hP hD hS 0 rfl rfl 17 (by decide) (hts _ mm_366) (fun _ h9 => h9) rfl (by decide +kernel) rfl rfl (Nat.le_of_ble_eq_true rfl) d_M_go_83 (fun H locs hP hD hS => ?_)
  have hP : va_P D cl9 ((cM cI cJ cZ bd) (m_vd_w u (t1 + t0))) H := reP (zcM_vd cI cJ cZ bd u (t1 + t0)) hP
  have hD : va_D A ((cM cI cJ cZ bd) (m_vd_w u (t1 + t0))) := reD (zcM_vd cI cJ cZ bd u (t1 + t0)) hD
  refine lv_iconst (v := (0 : Int32)) hx hb d_M_go_86 (by decide) ?_
  refine lv_istore (lv' := [(7, .int (0 : Int32)), (0, .ref (bd 0)), (1, .long y1), (3, .int x3), (4, .int x4), (5, .int x5), (6, .int x6)]) hx hb d_M_go_87 hl (by decide) rfl (fun ls hl => ?_)
  refine lv_iconst (v := (1 : Int32)) hx hb d_M_go_89 (by decide) ?_
  refine lv_istore (lv' := [(8, .int (1 : Int32)), (7, .int (0 : Int32)), (0, .ref (bd 0)), (1, .long y1), (3, .int x3), (4, .int x4), (5, .int x5), (6, .int x6)]) hx hb d_M_go_90 hl (by decide) rfl (fun ls hl => ?_)
  exact w_M_go_92 C hk7 FU y1 x3 x4 x5 x6 (0 : Int32) (1 : Int32) (m_vd_w u (t1 + t0)) H locs ls hP hD hS (lv_sub hl [2, 3, 4, 5, 6, 7, 1, 0] rfl) hM
set_option maxHeartbeats 4000000 in
set_option maxRecDepth 100000 in
theorem w_M_go_61 {k7 : Int64 → Int32 → Int32 → Int32 → Int32 → Mod → Option Mod} {res : Mod} (C : Cx p s m args meth c prog_5_method_14_code 9 (Option.none : Option FieldType) "PlainLibraryModel" tb D cl9 (tyy cI cJ cZ) A) (hk7 : ∀ (y1 : Int64) (x3 : Int32) (x4 : Int32) (x5 : Int32) (x6 : Int32) (u : Mod) (H : Heap) (locs : List Loc) (ls : Array Slot), va_P D cl9 ((cM cI cJ cZ bd) u) H → va_D A ((cM cI cJ cZ bd) u) → va_S A s.heap H locs → lv_has ls 9 [(0, .ref (bd 0)), (1, .long y1), (3, .int x3), (4, .int x4), (5, .int x5), (6, .int x6)] → k7 y1 x3 x4 x5 x6 u = some res → W p l e rm_M_go s m args below meth c H locs 0 0 (MQ below (Qwv D cl9 (tyy cI cJ cZ) (cM cI cJ cZ bd) A res) args s 0 0 A) (F0 m 7 ls [])) (y1 : Int64) (x3 : Int32) (x4 : Int32) (x5 : Int32) (x6 : Int32) (t0 : Int32) (t1 : Int32) (u : Mod) (H : Heap) (locs : List Loc) (ls : Array Slot) (hP : va_P D cl9 ((cM cI cJ cZ bd) u) H) (hD : va_D A ((cM cI cJ cZ bd) u)) (hS : va_S A s.heap H locs) (hl : lv_has ls 9 [(0, .ref (bd 0)), (1, .long y1), (3, .int x3), (4, .int x4), (5, .int x5), (6, .int x6)]) (hM : B_M_go_61 k7 y1 x3 x4 x5 x6 t0 t1 u = some res) : W p l e rm_M_go s m args below meth c H locs 0 0 (MQ below (Qwv D cl9 (tyy cI cJ cZ) (cM cI cJ cZ bd) A res) args s 0 0 A) (F0 m 61 ls [.int t0, .int t1, .ref (bd 14)]) := by
  have C0 := C
  obtain ⟨hx, hb, hr, hml, hown, hts, hlocks, hK, hA⟩ := C
  replace C := C0
  unfold B_M_go_61 at hM
  obtain ⟨h1, hM⟩ := gd_some hM
  refine va_zast hx hb hK hP hD hS 14 2 rfl rfl (vp_in_iff.mpr h1) d_M_go_61 (fun H locs hP hD hS => ?_)
  have hP : va_P D cl9 ((cM cI cJ cZ bd) (m_vo_w u (upd (m_vo u) t1.toNatClampNeg (vp_nar .boolean t0)))) H := reP (zcM_vo cI cJ cZ bd u (upd (m_vo u) t1.toNatClampNeg (vp_nar .boolean t0))) hP
  have hD : va_D A ((cM cI cJ cZ bd) (m_vo_w u (upd (m_vo u) t1.toNatClampNeg (vp_nar .boolean t0)))) := reD (zcM_vo cI cJ cZ bd u (upd (m_vo u) t1.toNatClampNeg (vp_nar .boolean t0))) hD
  refine lv_aload_n hx hb d_M_go_62 rfl (lv_at hl 0 rfl) ?_
  refine lv_dup hx hb d_M_go_63 rfl ?_
  refine va_get (D := D) (ci := 3) (v := .int (m_vd (m_vo_w u (upd (m_vo u) t1.toNatClampNeg (vp_nar .boolean t0))))) (C := R_M) (T := T_M) (N := 21) hx hb hts in_M hown hK hP 0 rfl rfl 17 (by decide) (hts _ mm_366) (fun _ h9 => h9) rfl d_M_go_64 ?_
  refine lv_aload_n hx hb d_M_go_67 rfl (lv_at hl 0 rfl) ?_
  refine va_get (D := D) (ci := 3) (v := .ref (bd 14)) (C := R_M) (T := T_M) (N := 21) hx hb hts in_M hown hK hP 0 rfl rfl 15 (by decide) (hts _ mm_364) (fun _ h9 => h9) rfl d_M_go_68 ?_
  refine lv_iload hx hb d_M_go_71 (lv_at hl 5 rfl) ?_
  obtain ⟨h2, hM⟩ := gd_some hM
  refine va_zald hx hb hK hP 14 2 rfl rfl (vp_in_iff.mpr h2) d_M_go_73 ?_
  refine lv_if_eq (tgt := 81) hx hb d_M_go_74 (by decide) (fun c3 => ?_) (fun c3 => ?_)
  · replace hM := it_t c3 hM
    refine lv_iconst (v := (0 : Int32)) hx hb d_M_go_81 (by decide) ?_
    exact w_M_go_82 C hk7 y1 x3 x4 x5 x6 (0 : Int32) (m_vd (m_vo_w u (upd (m_vo u) t1.toNatClampNeg (vp_nar .boolean t0)))) (m_vo_w u (upd (m_vo u) t1.toNatClampNeg (vp_nar .boolean t0))) H locs ls hP hD hS (lv_sub hl [0, 1, 2, 3, 4, 5] rfl) hM
  · replace hM := it_f c3 hM
    refine lv_iconst (v := (1 : Int32)) hx hb d_M_go_77 (by decide) ?_
    refine lv_goto (tgt := 82) hx hb d_M_go_78 (by decide) ?_
    exact w_M_go_82 C hk7 y1 x3 x4 x5 x6 (1 : Int32) (m_vd (m_vo_w u (upd (m_vo u) t1.toNatClampNeg (vp_nar .boolean t0)))) (m_vo_w u (upd (m_vo u) t1.toNatClampNeg (vp_nar .boolean t0))) H locs ls hP hD hS (lv_sub hl [0, 1, 2, 3, 4, 5] rfl) hM
set_option maxHeartbeats 4000000 in
set_option maxRecDepth 100000 in
theorem w_M_go_7s {res : Mod} (C : Cx p s m args meth c prog_5_method_14_code 9 (Option.none : Option FieldType) "PlainLibraryModel" tb D cl9 (tyy cI cJ cZ) A) {k7 : Int64 → Int32 → Int32 → Int32 → Int32 → Mod → Option Mod} (hk7 : ∀ (y1 : Int64) (x3 : Int32) (x4 : Int32) (x5 : Int32) (x6 : Int32) (u : Mod) (H : Heap) (locs : List Loc) (ls : Array Slot), va_P D cl9 ((cM cI cJ cZ bd) u) H → va_D A ((cM cI cJ cZ bd) u) → va_S A s.heap H locs → lv_has ls 9 [(0, .ref (bd 0)), (1, .long y1), (3, .int x3), (4, .int x4), (5, .int x5), (6, .int x6)] → k7 y1 x3 x4 x5 x6 u = some res → W p l e rm_M_go s m args below meth c H locs 0 0 (MQ below (Qwv D cl9 (tyy cI cJ cZ) (cM cI cJ cZ bd) A res) args s 0 0 A) (F0 m 7 ls [])) (y1 : Int64) (x3 : Int32) (x4 : Int32) (x5 : Int32) (x6 : Int32) (u : Mod) (H : Heap) (locs : List Loc) (ls : Array Slot) (hP : va_P D cl9 ((cM cI cJ cZ bd) u) H) (hD : va_D A ((cM cI cJ cZ bd) u)) (hS : va_S A s.heap H locs) (hl : lv_has ls 9 [(0, .ref (bd 0)), (1, .long y1), (3, .int x3), (4, .int x4), (5, .int x5), (6, .int x6)]) (hM : B_M_go_7s k7 y1 x3 x4 x5 x6 u = some res) : W p l e rm_M_go s m args below meth c H locs 0 0 (MQ below (Qwv D cl9 (tyy cI cJ cZ) (cM cI cJ cZ bd) A res) args s 0 0 A) (F0 m 7 ls []) := by
  have C0 := C
  obtain ⟨hx, hb, hr, hml, hown, hts, hlocks, hK, hA⟩ := C
  replace C := C0
  unfold B_M_go_7s at hM
  refine lv_iload hx hb d_M_go_7 (lv_at hl 5 rfl) ?_
  refine lv_aload_n hx hb d_M_go_9 rfl (lv_at hl 0 rfl) ?_
  refine va_get (D := D) (ci := 3) (v := .int (m_ct u)) (C := R_M) (T := T_M) (N := 21) hx hb hts in_M hown hK hP 0 rfl rfl 5 (by decide) (hts _ mm_354) (fun _ h9 => h9) rfl d_M_go_10 ?_
  refine lv_icmp_ge (tgt := 155) hx hb d_M_go_13 (by decide) (fun c1 => ?_) (fun c1 => ?_)
  · replace hM := it_t c1 hM
    obtain rfl := Option.some.inj hM
    exact W.vret hx hb hr (fun t ht hW => ⟨⟨u, rfl, rfl, by rw [ht]; exact hP, va_K.moved hW.alike hK, hD⟩, hS.F ht⟩) hS.2.2 d_M_go_155
  · replace hM := it_f c1 hM
    refine lv_aload_n hx hb d_M_go_16 rfl (lv_at hl 0 rfl) ?_
    refine va_get (D := D) (ci := 3) (v := .ref (bd 4)) (C := R_M) (T := T_M) (N := 21) hx hb hts in_M hown hK hP 0 rfl rfl 4 (by decide) (hts _ mm_353) (fun _ h9 => h9) rfl d_M_go_17 ?_
    refine lv_iload hx hb d_M_go_20 (lv_at hl 5 rfl) ?_
    obtain ⟨h2, hM⟩ := gd_some hM
    refine va_lald hx hb hK hP 4 1 rfl rfl (vp_in_iff.mpr h2) d_M_go_22 ?_
    refine lv_lload_n hx hb d_M_go_23 rfl (lv_at hl 1 rfl) ?_
    refine W.lcmp hx hb d_M_go_24 ?_
    refine lv_if_gt (tgt := 149) hx hb d_M_go_25 (by decide) (fun c3 => ?_) (fun c3 => ?_)
    · replace hM := it_t c3 hM
      exact w_M_go_149 C hk7 y1 x3 x4 x5 x6 u H locs ls hP hD hS (lv_sub hl [0, 1, 2, 3, 4, 5] rfl) hM
    · replace hM := it_f c3 hM
      refine lv_iload hx hb d_M_go_28 (lv_at hl 5 rfl) ?_
      refine lv_iload_n hx hb d_M_go_30 rfl (lv_at hl 2 rfl) ?_
      refine lv_icmp_eq (tgt := 149) hx hb d_M_go_31 (by decide) (fun c4 => ?_) (fun c4 => ?_)
      · replace hM := it_t c4 hM
        exact w_M_go_149 C hk7 y1 x3 x4 x5 x6 u H locs ls hP hD hS (lv_sub hl [0, 1, 2, 3, 4, 5] rfl) hM
      · replace hM := it_f c4 hM
        refine lv_iload hx hb d_M_go_34 (lv_at hl 5 rfl) ?_
        refine lv_iload hx hb d_M_go_36 (lv_at hl 3 rfl) ?_
        refine lv_icmp_eq (tgt := 149) hx hb d_M_go_38 (by decide) (fun c5 => ?_) (fun c5 => ?_)
        · replace hM := it_t c5 hM
          exact w_M_go_149 C hk7 y1 x3 x4 x5 x6 u H locs ls hP hD hS (lv_sub hl [0, 1, 2, 3, 4, 5] rfl) hM
        · replace hM := it_f c5 hM
          refine lv_aload_n hx hb d_M_go_41 rfl (lv_at hl 0 rfl) ?_
          refine va_get (D := D) (ci := 3) (v := .ref (bd 14)) (C := R_M) (T := T_M) (N := 21) hx hb hts in_M hown hK hP 0 rfl rfl 15 (by decide) (hts _ mm_364) (fun _ h9 => h9) rfl d_M_go_42 ?_
          refine lv_iload hx hb d_M_go_45 (lv_at hl 5 rfl) ?_
          refine lv_aload_n hx hb d_M_go_47 rfl (lv_at hl 0 rfl) ?_
          refine lv_iload hx hb d_M_go_48 (lv_at hl 5 rfl) ?_
          obtain ⟨v6, hq6, hM⟩ := bd_some hM
          refine fw_i (F := (cM cI cJ cZ bd)) (u := u) (res := v6) (va_runV (As := [.int x6]) (rest := [.int x6, .ref (bd 14)]) ⟨hx, hb, hml, hown, hts⟩ (c_M_does l D cI cJ cZ bd H.size x6 u v6 hq6) (cwV 1 hts (gV mm_446 mm_448 (ms_ 19 rfl rfl) mm_30 mm_449) rfl rfl rfl hd_M_does ⟨Nat.le_of_ble_eq_true rfl, Nat.le_of_ble_eq_true rfl⟩) (pv_ (F := (cM cI cJ cZ bd)) (u := u) hK hP hD (va_recv hK hP (ci := 3) (q0 := 0) rfl rfl)) rfl rfl hl.1 rfl (lv_room (Nat.le_of_ble_eq_true rfl)) d_M_go_50 ⟨Nat.le_of_ble_eq_true rfl, Nat.le_of_ble_eq_true rfl⟩) hS (fa_ hD hS hA) (fun H locs hP hD hS => ?_)
          refine lv_if_ne (tgt := 60) hx hb d_M_go_53 (by decide) (fun c7 => ?_) (fun c7 => ?_)
          · replace hM := it_f c7 hM
            refine lv_iconst (v := (0 : Int32)) hx hb d_M_go_60 (by decide) ?_
            exact w_M_go_61 C hk7 y1 x3 x4 x5 x6 (0 : Int32) x6 v6.2 H locs ls hP hD hS (lv_sub hl [0, 1, 2, 3, 4, 5] rfl) hM
          · replace hM := it_t c7 hM
            refine lv_iconst (v := (1 : Int32)) hx hb d_M_go_56 (by decide) ?_
            refine lv_goto (tgt := 61) hx hb d_M_go_57 (by decide) ?_
            exact w_M_go_61 C hk7 y1 x3 x4 x5 x6 (1 : Int32) x6 v6.2 H locs ls hP hD hS (lv_sub hl [0, 1, 2, 3, 4, 5] rfl) hM
theorem w_M_go_7 {res : Mod} (C : Cx p s m args meth c prog_5_method_14_code 9 (Option.none : Option FieldType) "PlainLibraryModel" tb D cl9 (tyy cI cJ cZ) A) : ∀ (fu : Nat) (y1 : Int64) (x3 : Int32) (x4 : Int32) (x5 : Int32) (x6 : Int32) (u : Mod) (H : Heap) (locs : List Loc) (ls : Array Slot), va_P D cl9 ((cM cI cJ cZ bd) u) H → va_D A ((cM cI cJ cZ bd) u) → va_S A s.heap H locs → lv_has ls 9 [(0, .ref (bd 0)), (1, .long y1), (3, .int x3), (4, .int x4), (5, .int x5), (6, .int x6)] → B_M_go_7 fu y1 x3 x4 x5 x6 u = some res → W p l e rm_M_go s m args below meth c H locs 0 0 (MQ below (Qwv D cl9 (tyy cI cJ cZ) (cM cI cJ cZ bd) A res) args s 0 0 A) (F0 m 7 ls []) := by
  intro fu
  induction fu with
  | zero =>
    intro y1 x3 x4 x5 x6 u H locs ls hP hD hS hl hM
    have hM : (none : Option Mod) = some res := hM
    cases hM
  | succ fu ih =>
    intro y1 x3 x4 x5 x6 u H locs ls hP hD hS hl hM
    exact w_M_go_7s C ih y1 x3 x4 x5 x6 u H locs ls hP hD hS hl hM
set_option maxHeartbeats 4000000 in
set_option maxRecDepth 100000 in
theorem w_M_go_0 {res : Mod} (C : Cx p s m args meth c prog_5_method_14_code 9 (Option.none : Option FieldType) "PlainLibraryModel" tb D cl9 (tyy cI cJ cZ) A) (y1 : Int64) (x3 : Int32) (x4 : Int32) (x5 : Int32) (u : Mod) (H : Heap) (locs : List Loc) (ls : Array Slot) (hP : va_P D cl9 ((cM cI cJ cZ bd) u) H) (hD : va_D A ((cM cI cJ cZ bd) u)) (hS : va_S A s.heap H locs) (hl : lv_has ls 9 [(0, .ref (bd 0)), (1, .long y1), (3, .int x3), (4, .int x4), (5, .int x5)]) (hM : B_M_go_0 y1 x3 x4 x5 u = some res) : W p l e rm_M_go s m args below meth c H locs 0 0 (MQ below (Qwv D cl9 (tyy cI cJ cZ) (cM cI cJ cZ bd) A res) args s 0 0 A) (F0 m 0 ls []) := by
  have C0 := C
  obtain ⟨hx, hb, hr, hml, hown, hts, hlocks, hK, hA⟩ := C
  replace C := C0
  unfold B_M_go_0 at hM
  refine lv_aload_n hx hb d_M_go_0 rfl (lv_at hl 0 rfl) ?_
  obtain ⟨v1, hq1, hM⟩ := bd_some hM
  refine fw_v (F := (cM cI cJ cZ bd)) (u := u) (res := v1) (va_runV (As := []) (rest := []) ⟨hx, hb, hml, hown, hts⟩ (c_M_clear l D cI cJ cZ bd H.size u v1 hq1) (cwV 0 hts (gV mm_442 mm_444 (ms_ 18 rfl rfl) mm_30 mm_445) rfl rfl rfl hd_M_clear ⟨Nat.le_of_ble_eq_true rfl, Nat.le_of_ble_eq_true rfl⟩) (pv_ (F := (cM cI cJ cZ bd)) (u := u) hK hP hD (va_recv hK hP (ci := 3) (q0 := 0) rfl rfl)) rfl rfl hl.1 rfl (lv_room (Nat.le_of_ble_eq_true rfl)) d_M_go_1 ⟨Nat.le_of_ble_eq_true rfl, Nat.le_of_ble_eq_true rfl⟩) hS (fa_ hD hS hA) (fun H locs hP hD hS => ?_)
  refine lv_iconst (v := (0 : Int32)) hx hb d_M_go_4 (by decide) ?_
  refine lv_istore (lv' := [(6, .int (0 : Int32)), (0, .ref (bd 0)), (1, .long y1), (3, .int x3), (4, .int x4), (5, .int x5)]) hx hb d_M_go_5 hl (by decide) rfl (fun ls hl => ?_)
  exact w_M_go_7 C FU y1 x3 x4 x5 (0 : Int32) v1 H locs ls hP hD hS (lv_sub hl [1, 2, 3, 4, 5, 0] rfl) hM
end
set_option maxRecDepth 100000 in
theorem c_M_go (l : Launch) (D : va_G) (cI cJ cZ : ClassId) (bd : Nat → Nat) (sz : Nat) (y1 : Int64) (x3 : Int32) (x4 : Int32) (x5 : Int32) (u : Mod) (res : Mod) (hM : B_M_go_0 y1 x3 x4 x5 u = some res) : Met l y_M_go ws_M_go rm_M_go (va_Pc [.ref (bd 0), .long y1, .int x3, .int x4, .int x5] (pr_ D cl9 (tyy cI cJ cZ) (cM cI cJ cZ bd) u sz)) (Qwv D cl9 (tyy cI cJ cZ) (cM cI cJ cZ bd) (va_A ((cM cI cJ cZ bd) u) sz) res) 0 0 (va_A ((cM cI cJ cZ bd) u) sz) := by
  refine Met.ofW (cc := prog_5_method_14_code) (maxL := 9) (ret := (Option.none : Option FieldType)) (by decide) rfl ?_
  intro p e s m args below meth c s₁ B hml hv
  obtain ⟨rfl, hsz, hP, hK, hD0⟩ := hv
  subst hsz
  have hts0 := atoms_spec (ws := ws_M_go) B.pre
  have hl := lv_entry ([.ref (bd 0), .long y1, .int x3, .int x4, .int x5]) (n := 9) (Nat.le_of_ble_eq_true rfl)
  rw [lg_entry_eq]
  generalize (lg_sl ([.ref (bd 0), .long y1, .int x3, .int x4, .int x5]) ++ List.replicate (9 - (lg_sl ([.ref (bd 0), .long y1, .int x3, .int x4, .int x5])).length) Slot.unset).toArray = ls at hl ⊢
  exact w_M_go_0 ⟨B.exec, B.bytes, B.returns, hml, findClass_of_methodNamed B.named, fun w h => hts0 w (List.mem_cons_of_mem _ h), B.notSynchronized, hK, fun q h => Or.inr h⟩ y1 x3 x4 x5 u s.heap [] ls hP hD0.self va_S.rf hl hM
section
variable {p : Program} {l : Launch} {e : Env} {s : State} {m : MethodId} {args : Array Value} {below : List Frame} {meth : Method} {c : Code} {D : va_G} {cI cJ cZ : ClassId} {A : Nat → Prop} {bd : Nat → Nat}
set_option maxHeartbeats 4000000 in
set_option maxRecDepth 100000 in
theorem w_M_all_0 {res : Mod} (C : Cx p s m args meth c prog_5_method_15_code 1 (Option.none : Option FieldType) "PlainLibraryModel" tb D cl9 (tyy cI cJ cZ) A) (u : Mod) (H : Heap) (locs : List Loc) (ls : Array Slot) (hP : va_P D cl9 ((cM cI cJ cZ bd) u) H) (hD : va_D A ((cM cI cJ cZ bd) u)) (hS : va_S A s.heap H locs) (hl : lv_has ls 1 [(0, .ref (bd 0))]) (hM : B_M_all_0 u = some res) : W p l e rm_M_all s m args below meth c H locs 0 0 (MQ below (Qwv D cl9 (tyy cI cJ cZ) (cM cI cJ cZ bd) A res) args s 0 0 A) (F0 m 0 ls []) := by
  have C0 := C
  obtain ⟨hx, hb, hr, hml, hown, hts, hlocks, hK, hA⟩ := C
  replace C := C0
  unfold B_M_all_0 at hM
  refine lv_aload_n hx hb d_M_all_0 rfl (lv_at hl 0 rfl) ?_
  refine lv_ldc2 (v := (1000000 : Int64)) hx hb hown (hts _ mm_429) d_M_all_1 ?_
  refine lv_iconst (v := (-1 : Int32)) hx hb d_M_all_4 (by decide) ?_
  refine lv_iconst (v := (-1 : Int32)) hx hb d_M_all_5 (by decide) ?_
  refine lv_iconst (v := (-1 : Int32)) hx hb d_M_all_6 (by decide) ?_
  obtain ⟨v1, hq1, hM⟩ := bd_some hM
  refine fw_v (F := (cM cI cJ cZ bd)) (u := u) (res := v1) (va_runV (As := [.long (1000000 : Int64), .int (-1 : Int32), .int (-1 : Int32), .int (-1 : Int32)]) (rest := []) ⟨hx, hb, hml, hown, hts⟩ (c_M_go l D cI cJ cZ bd H.size (1000000 : Int64) (-1 : Int32) (-1 : Int32) (-1 : Int32) u v1 hq1) (cwV 4 hts (gV mm_438 mm_440 (ms_ 17 rfl rfl) mm_30 mm_441) rfl rfl rfl hd_M_go ⟨Nat.le_of_ble_eq_true rfl, Nat.le_of_ble_eq_true rfl⟩) (pv_ (F := (cM cI cJ cZ bd)) (u := u) hK hP hD (va_recv hK hP (ci := 3) (q0 := 0) rfl rfl)) rfl rfl hl.1 rfl (lv_room (Nat.le_of_ble_eq_true rfl)) d_M_all_7 ⟨Nat.le_of_ble_eq_true rfl, Nat.le_of_ble_eq_true rfl⟩) hS (fa_ hD hS hA) (fun H locs hP hD hS => ?_)
  obtain rfl := Option.some.inj hM
  exact W.vret hx hb hr (fun t ht hW => ⟨⟨v1, rfl, rfl, by rw [ht]; exact hP, va_K.moved hW.alike hK, hD⟩, hS.F ht⟩) hS.2.2 d_M_all_10
end
set_option maxRecDepth 100000 in
theorem c_M_all (l : Launch) (D : va_G) (cI cJ cZ : ClassId) (bd : Nat → Nat) (sz : Nat) (u : Mod) (res : Mod) (hM : B_M_all_0 u = some res) : Met l y_M_all ws_M_all rm_M_all (va_Pc [.ref (bd 0)] (pr_ D cl9 (tyy cI cJ cZ) (cM cI cJ cZ bd) u sz)) (Qwv D cl9 (tyy cI cJ cZ) (cM cI cJ cZ bd) (va_A ((cM cI cJ cZ bd) u) sz) res) 0 0 (va_A ((cM cI cJ cZ bd) u) sz) := by
  refine Met.ofW (cc := prog_5_method_15_code) (maxL := 1) (ret := (Option.none : Option FieldType)) (by decide) rfl ?_
  intro p e s m args below meth c s₁ B hml hv
  obtain ⟨rfl, hsz, hP, hK, hD0⟩ := hv
  subst hsz
  have hts0 := atoms_spec (ws := ws_M_all) B.pre
  have hl := lv_entry ([.ref (bd 0)]) (n := 1) (Nat.le_of_ble_eq_true rfl)
  rw [lg_entry_eq]
  generalize (lg_sl ([.ref (bd 0)]) ++ List.replicate (1 - (lg_sl ([.ref (bd 0)])).length) Slot.unset).toArray = ls at hl ⊢
  exact w_M_all_0 ⟨B.exec, B.bytes, B.returns, hml, findClass_of_methodNamed B.named, fun w h => hts0 w (List.mem_cons_of_mem _ h), B.notSynchronized, hK, fun q h => Or.inr h⟩ u s.heap [] ls hP hD0.self va_S.rf hl hM
