section
variable {p : Program} {l : Launch} {e : Env} {s : State} {m : MethodId} {args : Array Value} {below : List Frame} {meth : Method} {c : Code} {D : va_G} {cI cJ cZ : ClassId} {A : Nat → Prop} {ad : Nat → Nat}
set_option maxHeartbeats 4000000 in
set_option maxRecDepth 100000 in
theorem w_S_lend_47 {res : (Int32 × Lib)} (C : Cx p s m args meth c prog_3_method_21_code 7 (Option.some FieldType.boolean) "PlainLibrary$Shelves" tb D cl9 (tyy cI cJ cZ) A) (x1 : Int32) (x2 : Int32) (y3 : Int64) (x5 : Int32) (u : Lib) (H : Heap) (locs : List Loc) (ls : Array Slot) (hP : va_P D cl9 ((cL cI cJ cZ ad) u) H) (hD : va_D A ((cL cI cJ cZ ad) u)) (hS : va_S A s.heap H locs) (hl : lv_has ls 7 [(0, .ref (ad 6)), (1, .int x1), (2, .int x2), (3, .long y3), (5, .int x5)]) (hM : B_S_lend_47 x1 x2 y3 x5 u = some res) : W p l e rm_S_lend s m args below meth c H locs 0 0 (MQ below (Qwi D cl9 (tyy cI cJ cZ) (cL cI cJ cZ ad) A res) args s 0 0 A) (F0 m 47 ls []) := by
  have C0 := C
  obtain ⟨hx, hb, hr, hml, hown, hts, hlocks, hK, hA⟩ := C
  replace C := C0
  unfold B_S_lend_47 at hM
  refine lv_aload_n hx hb d_S_lend_47 rfl (lv_at hl 0 rfl) ?_
  refine lv_iload hx hb d_S_lend_48 (lv_at hl 4 rfl) ?_
  refine lv_iload_n hx hb d_S_lend_50 rfl (lv_at hl 2 rfl) ?_
  obtain ⟨v1, hq1, hM⟩ := bd_some hM
  refine fw_i (F := (cL cI cJ cZ ad)) (u := u) (res := v1) (va_runV (As := [.int x5, .int x2]) (rest := []) ⟨hx, hb, hml, hown, hts⟩ (c_S_leaveQueue l D cI cJ cZ ad H.size x5 x2 u v1 hq1) (cwV 2 hts (gV mm_200 mm_202 (ms_ 5 rfl rfl) mm_29 mm_203) rfl rfl rfl hd_S_leaveQueue ⟨Nat.le_of_ble_eq_true rfl, Nat.le_of_ble_eq_true rfl⟩) (pv_ (F := (cL cI cJ cZ ad)) (u := u) hK hP hD (va_recv hK hP (ci := 1) (q0 := 6) rfl rfl)) rfl rfl hl.1 rfl (lv_room (Nat.le_of_ble_eq_true rfl)) d_S_lend_51 ⟨Nat.le_of_ble_eq_true rfl, Nat.le_of_ble_eq_true rfl⟩) hS (fa_ hD hS hA) (fun H locs hP hD hS => ?_)
  refine lv_pop hx hb d_S_lend_54 rfl ?_
  refine lv_aload_n hx hb d_S_lend_55 rfl (lv_at hl 0 rfl) ?_
  refine va_get (D := D) (ci := 1) (v := .ref (ad 9)) (C := R_S) (T := T_S) (N := 9) hx hb hts in_S hown hK hP 6 rfl rfl 2 (by decide) (hts _ mm_74) (fun _ h9 => h9) rfl d_S_lend_56 ?_
  refine lv_iload_n hx hb d_S_lend_59 rfl (lv_at hl 1 rfl) ?_
  refine lv_iload_n hx hb d_S_lend_60 rfl (lv_at hl 2 rfl) ?_
  obtain ⟨h2, hM⟩ := gd_some hM
  refine va_iast hx hb hK hP hD hS 9 0 rfl rfl (vp_in_iff.mpr h2) d_S_lend_61 (fun H locs hP hD hS => ?_)
  have hP : va_P D cl9 ((cL cI cJ cZ ad) (l_per_w v1.2 (upd (l_per v1.2) x1.toNatClampNeg x2))) H := hP
  have hD : va_D A ((cL cI cJ cZ ad) (l_per_w v1.2 (upd (l_per v1.2) x1.toNatClampNeg x2))) := hD
  refine lv_aload_n hx hb d_S_lend_62 rfl (lv_at hl 0 rfl) ?_
  refine va_get (D := D) (ci := 1) (v := .ref (ad 10)) (C := R_S) (T := T_S) (N := 9) hx hb hts in_S hown hK hP 6 rfl rfl 3 (by decide) (hts _ mm_75) (fun _ h9 => h9) rfl d_S_lend_63 ?_
  refine lv_iload_n hx hb d_S_lend_66 rfl (lv_at hl 1 rfl) ?_
  refine lv_lload_n hx hb d_S_lend_67 rfl (lv_at hl 3 rfl) ?_
  refine lv_aload_n hx hb d_S_lend_68 rfl (lv_at hl 0 rfl) ?_
  refine va_get (D := D) (ci := 1) (v := .ref (ad 14)) (C := R_S) (T := T_S) (N := 9) hx hb hts in_S hown hK hP 6 rfl rfl 7 (by decide) (hts _ mm_79) (fun _ h9 => h9) rfl d_S_lend_69 ?_
  refine lv_aload_n hx hb d_S_lend_72 rfl (lv_at hl 0 rfl) ?_
  refine va_get (D := D) (ci := 1) (v := .ref (ad 13)) (C := R_S) (T := T_S) (N := 9) hx hb hts in_S hown hK hP 6 rfl rfl 6 (by decide) (hts _ mm_78) (fun _ h9 => h9) rfl d_S_lend_73 ?_
  refine lv_iload hx hb d_S_lend_76 (lv_at hl 4 rfl) ?_
  obtain ⟨h3, hM⟩ := gd_some hM
  refine va_iald hx hb hK hP 13 0 rfl rfl (vp_in_iff.mpr h3) d_S_lend_78 ?_
  obtain ⟨h4, hM⟩ := gd_some hM
  refine va_iald hx hb hK hP 14 0 rfl rfl (vp_in_iff.mpr h4) d_S_lend_79 ?_
  refine lv_i2l (v := ((l_ln (l_per_w v1.2 (upd (l_per v1.2) x1.toNatClampNeg x2))) ((l_cls (l_per_w v1.2 (upd (l_per v1.2) x1.toNatClampNeg x2))) x5.toNatClampNeg).toNatClampNeg).toInt64) hx hb d_S_lend_80 rfl ?_
  refine lv_ladd hx hb d_S_lend_81 ?_
  obtain ⟨h5, hM⟩ := gd_some hM
  refine va_last hx hb hK hP hD hS 10 1 rfl rfl (vp_in_iff.mpr h5) d_S_lend_82 (fun H locs hP hD hS => ?_)
  have hP : va_P D cl9 ((cL cI cJ cZ ad) (l_due_w (l_per_w v1.2 (upd (l_per v1.2) x1.toNatClampNeg x2)) (vp_updL (l_due (l_per_w v1.2 (upd (l_per v1.2) x1.toNatClampNeg x2))) x1.toNatClampNeg (y3 + (((l_ln (l_per_w v1.2 (upd (l_per v1.2) x1.toNatClampNeg x2))) ((l_cls (l_per_w v1.2 (upd (l_per v1.2) x1.toNatClampNeg x2))) x5.toNatClampNeg).toNatClampNeg).toInt64))))) H := hP
  have hD : va_D A ((cL cI cJ cZ ad) (l_due_w (l_per_w v1.2 (upd (l_per v1.2) x1.toNatClampNeg x2)) (vp_updL (l_due (l_per_w v1.2 (upd (l_per v1.2) x1.toNatClampNeg x2))) x1.toNatClampNeg (y3 + (((l_ln (l_per_w v1.2 (upd (l_per v1.2) x1.toNatClampNeg x2))) ((l_cls (l_per_w v1.2 (upd (l_per v1.2) x1.toNatClampNeg x2))) x5.toNatClampNeg).toNatClampNeg).toInt64))))) := hD
  obtain ⟨u6, hu6, hM⟩ := bd_some hM
  rw [Option.some.inj hu6] at hP hD
  refine lv_iconst (v := (1 : Int32)) hx hb d_S_lend_83 (by decide) ?_
  obtain rfl := Option.some.inj hM
  exact W.zret (v := (1 : Int32)) hx hb hr rfl (fun t ht hW => ⟨⟨(1 : Int32), u6, rfl, rfl, by rw [ht]; exact hP, va_K.moved hW.alike hK, hD⟩, hS.F ht⟩) hS.2.2 d_S_lend_84
set_option maxHeartbeats 4000000 in
set_option maxRecDepth 100000 in
theorem w_S_lend_0 {res : (Int32 × Lib)} (C : Cx p s m args meth c prog_3_method_21_code 7 (Option.some FieldType.boolean) "PlainLibrary$Shelves" tb D cl9 (tyy cI cJ cZ) A) (x1 : Int32) (x2 : Int32) (y3 : Int64) (u : Lib) (H : Heap) (locs : List Loc) (ls : Array Slot) (hP : va_P D cl9 ((cL cI cJ cZ ad) u) H) (hD : va_D A ((cL cI cJ cZ ad) u)) (hS : va_S A s.heap H locs) (hl : lv_has ls 7 [(0, .ref (ad 6)), (1, .int x1), (2, .int x2), (3, .long y3)]) (hM : B_S_lend_0 x1 x2 y3 u = some res) : W p l e rm_S_lend s m args below meth c H locs 0 0 (MQ below (Qwi D cl9 (tyy cI cJ cZ) (cL cI cJ cZ ad) A res) args s 0 0 A) (F0 m 0 ls []) := by
  have C0 := C
  obtain ⟨hx, hb, hr, hml, hown, hts, hlocks, hK, hA⟩ := C
  replace C := C0
  unfold B_S_lend_0 at hM
  refine lv_aload_n hx hb d_S_lend_0 rfl (lv_at hl 0 rfl) ?_
  refine va_get (D := D) (ci := 1) (v := .ref (ad 8)) (C := R_S) (T := T_S) (N := 9) hx hb hts in_S hown hK hP 6 rfl rfl 1 (by decide) (hts _ mm_73) (fun _ h9 => h9) rfl d_S_lend_1 ?_
  refine lv_iload_n hx hb d_S_lend_4 rfl (lv_at hl 1 rfl) ?_
  obtain ⟨h1, hM⟩ := gd_some hM
  refine va_iald hx hb hK hP 8 0 rfl rfl (vp_in_iff.mpr h1) d_S_lend_5 ?_
  refine lv_istore (lv' := [(5, .int ((l_rec u) x1.toNatClampNeg)), (0, .ref (ad 6)), (1, .int x1), (2, .int x2), (3, .long y3)]) hx hb d_S_lend_6 hl (by decide) rfl (fun ls hl => ?_)
  refine lv_iload hx hb d_S_lend_8 (lv_at hl 0 rfl) ?_
  refine lv_if_eq (tgt := 22) hx hb d_S_lend_10 (by decide) (fun c2 => ?_) (fun c2 => ?_)
  · replace hM := it_t c2 hM
    refine lv_iconst (v := (0 : Int32)) hx hb d_S_lend_22 (by decide) ?_
    obtain rfl := Option.some.inj hM
    exact W.zret (v := (0 : Int32)) hx hb hr rfl (fun t ht hW => ⟨⟨(0 : Int32), u, rfl, rfl, by rw [ht]; exact hP, va_K.moved hW.alike hK, hD⟩, hS.F ht⟩) hS.2.2 d_S_lend_23
  · replace hM := it_f c2 hM
    refine lv_aload_n hx hb d_S_lend_13 rfl (lv_at hl 1 rfl) ?_
    refine va_get (D := D) (ci := 1) (v := .ref (ad 9)) (C := R_S) (T := T_S) (N := 9) hx hb hts in_S hown hK hP 6 rfl rfl 2 (by decide) (hts _ mm_74) (fun _ h9 => h9) rfl d_S_lend_14 ?_
    refine lv_iload_n hx hb d_S_lend_17 rfl (lv_at hl 2 rfl) ?_
    obtain ⟨h3, hM⟩ := gd_some hM
    refine va_iald hx hb hK hP 9 0 rfl rfl (vp_in_iff.mpr h3) d_S_lend_18 ?_
    refine lv_if_eq (tgt := 24) hx hb d_S_lend_19 (by decide) (fun c4 => ?_) (fun c4 => ?_)
    · replace hM := it_t c4 hM
      refine lv_aload_n hx hb d_S_lend_24 rfl (lv_at hl 1 rfl) ?_
      refine lv_iload hx hb d_S_lend_25 (lv_at hl 0 rfl) ?_
      refine lv_iconst (v := (0 : Int32)) hx hb d_S_lend_27 (by decide) ?_
      obtain ⟨v5, hq5, hM⟩ := bd_some hM
      refine fr_i (res := v5) (va_runV (As := [.int ((l_rec u) x1.toNatClampNeg), .int (0 : Int32)]) (rest := []) ⟨hx, hb, hml, hown, hts⟩ (c_S_personAt l D cI cJ cZ ad H.size ((l_rec u) x1.toNatClampNeg) (0 : Int32) u v5 hq5) (cwV 2 hts (gV mm_196 mm_197 mm_198 mm_29 mm_199) rfl rfl rfl hd_S_personAt ⟨Nat.le_of_ble_eq_true rfl, Nat.le_of_ble_eq_true rfl⟩) (pv_ (F := (cL cI cJ cZ ad)) (u := u) hK hP hD (va_recv hK hP (ci := 1) (q0 := 6) rfl rfl)) rfl rfl hl.1 rfl (lv_room (Nat.le_of_ble_eq_true rfl)) d_S_lend_28 ⟨Nat.le_of_ble_eq_true rfl, Nat.le_of_ble_eq_true rfl⟩) hP hS hA (fun H locs hP hS => ?_)
      refine lv_istore (lv' := [(6, .int v5), (5, .int ((l_rec u) x1.toNatClampNeg)), (0, .ref (ad 6)), (1, .int x1), (2, .int x2), (3, .long y3)]) hx hb d_S_lend_31 hl (by decide) rfl (fun ls hl => ?_)
      refine lv_iload hx hb d_S_lend_33 (lv_at hl 0 rfl) ?_
      refine lv_iconst (v := (-1 : Int32)) hx hb d_S_lend_35 (by decide) ?_
      refine lv_icmp_eq (tgt := 47) hx hb d_S_lend_36 (by decide) (fun c6 => ?_) (fun c6 => ?_)
      · replace hM := it_t c6 hM
        exact w_S_lend_47 C x1 x2 y3 ((l_rec u) x1.toNatClampNeg) u H locs ls hP hD hS (lv_sub hl [2, 3, 4, 5, 1] rfl) hM
      · replace hM := it_f c6 hM
        refine lv_iload hx hb d_S_lend_39 (lv_at hl 0 rfl) ?_
        refine lv_iload_n hx hb d_S_lend_41 rfl (lv_at hl 4 rfl) ?_
        refine lv_icmp_eq (tgt := 47) hx hb d_S_lend_42 (by decide) (fun c7 => ?_) (fun c7 => ?_)
        · replace hM := it_t c7 hM
          exact w_S_lend_47 C x1 x2 y3 ((l_rec u) x1.toNatClampNeg) u H locs ls hP hD hS (lv_sub hl [2, 3, 4, 5, 1] rfl) hM
        · replace hM := it_f c7 hM
          refine lv_iconst (v := (0 : Int32)) hx hb d_S_lend_45 (by decide) ?_
          obtain rfl := Option.some.inj hM
          exact W.zret (v := (0 : Int32)) hx hb hr rfl (fun t ht hW => ⟨⟨(0 : Int32), u, rfl, rfl, by rw [ht]; exact hP, va_K.moved hW.alike hK, hD⟩, hS.F ht⟩) hS.2.2 d_S_lend_46
    · replace hM := it_f c4 hM
      refine lv_iconst (v := (0 : Int32)) hx hb d_S_lend_22 (by decide) ?_
      obtain rfl := Option.some.inj hM
      exact W.zret (v := (0 : Int32)) hx hb hr rfl (fun t ht hW => ⟨⟨(0 : Int32), u, rfl, rfl, by rw [ht]; exact hP, va_K.moved hW.alike hK, hD⟩, hS.F ht⟩) hS.2.2 d_S_lend_23
end
set_option maxRecDepth 100000 in
theorem c_S_lend (l : Launch) (D : va_G) (cI cJ cZ : ClassId) (ad : Nat → Nat) (sz : Nat) (x1 : Int32) (x2 : Int32) (y3 : Int64) (u : Lib) (res : (Int32 × Lib)) (hM : B_S_lend_0 x1 x2 y3 u = some res) : Met l y_S_lend ws_S_lend rm_S_lend (va_Pc [.ref (ad 6), .int x1, .int x2, .long y3] (pr_ D cl9 (tyy cI cJ cZ) (cL cI cJ cZ ad) u sz)) (Qwi D cl9 (tyy cI cJ cZ) (cL cI cJ cZ ad) (va_A ((cL cI cJ cZ ad) u) sz) res) 0 0 (va_A ((cL cI cJ cZ ad) u) sz) := by
  refine Met.ofW (cc := prog_3_method_21_code) (maxL := 7) (ret := (Option.some FieldType.boolean)) (by decide) rfl ?_
  intro p e s m args below meth c s₁ B hml hv
  obtain ⟨rfl, hsz, hP, hK, hD0⟩ := hv
  subst hsz
  have hts0 := atoms_spec (ws := ws_S_lend) B.pre
  have hl := lv_entry ([.ref (ad 6), .int x1, .int x2, .long y3]) (n := 7) (Nat.le_of_ble_eq_true rfl)
  rw [lg_entry_eq]
  generalize (lg_sl ([.ref (ad 6), .int x1, .int x2, .long y3]) ++ List.replicate (7 - (lg_sl ([.ref (ad 6), .int x1, .int x2, .long y3])).length) Slot.unset).toArray = ls at hl ⊢
  exact w_S_lend_0 ⟨B.exec, B.bytes, B.returns, hml, findClass_of_methodNamed B.named, fun w h => hts0 w (List.mem_cons_of_mem _ h), B.notSynchronized, hK, fun q h => Or.inr h⟩ x1 x2 y3 u s.heap [] ls hP hD0.self va_S.rf hl hM
