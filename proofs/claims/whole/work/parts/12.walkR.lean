section
variable {p : Program} {l : Launch} {e : Env} {s : State} {m : MethodId} {args : Array Value} {below : List Frame} {meth : Method} {c : Code} {D : va_G} {cI cJ cZ : ClassId} {A : Nat → Prop} {ad : Nat → Nat}
set_option maxHeartbeats 4000000 in
set_option maxRecDepth 100000 in
theorem w_R_placeFor_5s {res : Int32} (C : Cx p s m args meth c prog_2_method_7_code 4 (Option.some FieldType.int) "PlainLibrary$Row" tb D cl9 (tyy cI cJ cZ) A) {k5 : Int64 → Int32 → Lib → Option Int32} (hk5 : ∀ (y1 : Int64) (x3 : Int32) (u : Lib) (H : Heap) (locs : List Loc) (ls : Array Slot), va_P D cl9 ((cL cI cJ cZ ad) u) H → va_D (fun _ => True) ((cL cI cJ cZ ad) u) → va_S A s.heap H locs → lv_has ls 4 [(0, .ref (ad 1)), (1, .long y1), (3, .int x3)] → k5 y1 x3 u = some res → W p l e rm_R_placeFor s m args below meth c H locs 0 0 (MQ below (Qri A res) args s 0 0 A) (F0 m 5 ls [])) (y1 : Int64) (x3 : Int32) (u : Lib) (H : Heap) (locs : List Loc) (ls : Array Slot) (hP : va_P D cl9 ((cL cI cJ cZ ad) u) H) (hD : va_D (fun _ => True) ((cL cI cJ cZ ad) u)) (hS : va_S A s.heap H locs) (hl : lv_has ls 4 [(0, .ref (ad 1)), (1, .long y1), (3, .int x3)]) (hM : B_R_placeFor_5s k5 y1 x3 u = some res) : W p l e rm_R_placeFor s m args below meth c H locs 0 0 (MQ below (Qri A res) args s 0 0 A) (F0 m 5 ls []) := by
  have C0 := C
  obtain ⟨hx, hb, hr, hml, hown, hts, hlocks, hK, hA⟩ := C
  replace C := C0
  unfold B_R_placeFor_5s at hM
  refine lv_iload_n hx hb d_R_placeFor_5 rfl (lv_at hl 2 rfl) ?_
  refine lv_if_le (tgt := 28) hx hb d_R_placeFor_6 (by decide) (fun c1 => ?_) (fun c1 => ?_)
  · replace hM := it_t c1 hM
    refine lv_iload_n hx hb d_R_placeFor_28 rfl (lv_at hl 2 rfl) ?_
    obtain rfl := Option.some.inj hM
    exact W.iret (v := x3) hx hb hr (fun t ht hW => ⟨⟨x3, (), rfl, rfl, trivial⟩, hS.F ht⟩) hS.2.2 d_R_placeFor_29
  · replace hM := it_f c1 hM
    refine lv_aload_n hx hb d_R_placeFor_9 rfl (lv_at hl 0 rfl) ?_
    refine va_get (D := D) (ci := 0) (v := .ref (ad 5)) (C := R_R) (T := T_R) (N := 5) hx hb hts in_R hown hK hP 1 rfl rfl 3 (by decide) (hts _ mm_51) (fun _ h9 => h9) rfl d_R_placeFor_10 ?_
    refine lv_iload_n hx hb d_R_placeFor_13 rfl (lv_at hl 2 rfl) ?_
    refine lv_iconst (v := (1 : Int32)) hx hb d_R_placeFor_14 (by decide) ?_
    refine lv_isub hx hb d_R_placeFor_15 ?_
    obtain ⟨h2, hM⟩ := gd_some hM
    refine va_lald hx hb hK hP 5 1 rfl rfl (vp_in_iff.mpr h2) d_R_placeFor_16 ?_
    refine lv_lload_n hx hb d_R_placeFor_17 rfl (lv_at hl 1 rfl) ?_
    refine W.lcmp hx hb d_R_placeFor_18 ?_
    refine lv_if_le (tgt := 28) hx hb d_R_placeFor_19 (by decide) (fun c3 => ?_) (fun c3 => ?_)
    · replace hM := it_t c3 hM
      refine lv_iload_n hx hb d_R_placeFor_28 rfl (lv_at hl 2 rfl) ?_
      obtain rfl := Option.some.inj hM
      exact W.iret (v := x3) hx hb hr (fun t ht hW => ⟨⟨x3, (), rfl, rfl, trivial⟩, hS.F ht⟩) hS.2.2 d_R_placeFor_29
    · replace hM := it_f c3 hM
      refine lv_iinc (v := (x3 + (-1 : Int32))) (lv' := [(3, .int (x3 + (-1 : Int32))), (0, .ref (ad 1)), (1, .long y1)]) hx hb d_R_placeFor_22 hl (k := 2) rfl rfl (by decide) rfl (fun ls hl => ?_)
      refine lv_goto (tgt := 5) hx hb d_R_placeFor_25 (by decide) ?_
      exact hk5 y1 (x3 + (-1 : Int32)) u H locs ls hP hD hS (lv_sub hl [1, 2, 0] rfl) hM
theorem w_R_placeFor_5 {res : Int32} (C : Cx p s m args meth c prog_2_method_7_code 4 (Option.some FieldType.int) "PlainLibrary$Row" tb D cl9 (tyy cI cJ cZ) A) : ∀ (fu : Nat) (y1 : Int64) (x3 : Int32) (u : Lib) (H : Heap) (locs : List Loc) (ls : Array Slot), va_P D cl9 ((cL cI cJ cZ ad) u) H → va_D (fun _ => True) ((cL cI cJ cZ ad) u) → va_S A s.heap H locs → lv_has ls 4 [(0, .ref (ad 1)), (1, .long y1), (3, .int x3)] → B_R_placeFor_5 fu y1 x3 u = some res → W p l e rm_R_placeFor s m args below meth c H locs 0 0 (MQ below (Qri A res) args s 0 0 A) (F0 m 5 ls []) := by
  intro fu
  induction fu with
  | zero =>
    intro y1 x3 u H locs ls hP hD hS hl hM
    have hM : (none : Option Int32) = some res := hM
    cases hM
  | succ fu ih =>
    intro y1 x3 u H locs ls hP hD hS hl hM
    exact w_R_placeFor_5s C ih y1 x3 u H locs ls hP hD hS hl hM
set_option maxHeartbeats 4000000 in
set_option maxRecDepth 100000 in
theorem w_R_placeFor_0 {res : Int32} (C : Cx p s m args meth c prog_2_method_7_code 4 (Option.some FieldType.int) "PlainLibrary$Row" tb D cl9 (tyy cI cJ cZ) A) (y1 : Int64) (u : Lib) (H : Heap) (locs : List Loc) (ls : Array Slot) (hP : va_P D cl9 ((cL cI cJ cZ ad) u) H) (hD : va_D (fun _ => True) ((cL cI cJ cZ ad) u)) (hS : va_S A s.heap H locs) (hl : lv_has ls 4 [(0, .ref (ad 1)), (1, .long y1)]) (hM : B_R_placeFor_0 y1 u = some res) : W p l e rm_R_placeFor s m args below meth c H locs 0 0 (MQ below (Qri A res) args s 0 0 A) (F0 m 0 ls []) := by
  have C0 := C
  obtain ⟨hx, hb, hr, hml, hown, hts, hlocks, hK, hA⟩ := C
  replace C := C0
  unfold B_R_placeFor_0 at hM
  refine lv_aload_n hx hb d_R_placeFor_0 rfl (lv_at hl 0 rfl) ?_
  refine va_get (D := D) (ci := 0) (v := .int (l_sz u)) (C := R_R) (T := T_R) (N := 5) hx hb hts in_R hown hK hP 1 rfl rfl 4 (by decide) (hts _ mm_52) (fun _ h9 => h9) rfl d_R_placeFor_1 ?_
  refine lv_istore_n (lv' := [(3, .int (l_sz u)), (0, .ref (ad 1)), (1, .long y1)]) hx hb d_R_placeFor_4 rfl hl (by decide) rfl (fun ls hl => ?_)
  exact w_R_placeFor_5 C FU y1 (l_sz u) u H locs ls hP hD hS (lv_sub hl [1, 2, 0] rfl) hM
end
set_option maxRecDepth 100000 in
theorem c_R_placeFor (l : Launch) (D : va_G) (cI cJ cZ : ClassId) (ad : Nat → Nat) (sz : Nat) (y1 : Int64) (u : Lib) (res : Int32) (hM : B_R_placeFor_0 y1 u = some res) : Met l y_R_placeFor ws_R_placeFor rm_R_placeFor (va_Pc [.ref (ad 1), .long y1] (pr_ D cl9 (tyy cI cJ cZ) (cL cI cJ cZ ad) u sz)) (Qri (va_A [] sz) res) 0 0 (va_A [] sz) := by
  refine Met.ofW (cc := prog_2_method_7_code) (maxL := 4) (ret := (Option.some FieldType.int)) (by decide) rfl ?_
  intro p e s m args below meth c s₁ B hml hv
  obtain ⟨rfl, hsz, hP, hK, hD0⟩ := hv
  subst hsz
  have hts0 := atoms_spec (ws := ws_R_placeFor) B.pre
  have hl := lv_entry ([.ref (ad 1), .long y1]) (n := 4) (Nat.le_of_ble_eq_true rfl)
  rw [lg_entry_eq]
  generalize (lg_sl ([.ref (ad 1), .long y1]) ++ List.replicate (4 - (lg_sl ([.ref (ad 1), .long y1])).length) Slot.unset).toArray = ls at hl ⊢
  exact w_R_placeFor_0 ⟨B.exec, B.bytes, B.returns, hml, findClass_of_methodNamed B.named, fun w h => hts0 w (List.mem_cons_of_mem _ h), B.notSynchronized, hK, fun q h => Or.inr h⟩ y1 u s.heap [] ls hP hD0 va_S.rf hl hM
section
variable {p : Program} {l : Launch} {e : Env} {s : State} {m : MethodId} {args : Array Value} {below : List Frame} {meth : Method} {c : Code} {D : va_G} {cI cJ cZ : ClassId} {A : Nat → Prop} {ad : Nat → Nat}
set_option maxHeartbeats 4000000 in
set_option maxRecDepth 100000 in
theorem w_R_insert_0 {res : (Int32 × Lib)} (C : Cx p s m args meth c prog_2_method_6_code 8 (Option.some FieldType.boolean) "PlainLibrary$Row" tb D cl9 (tyy cI cJ cZ) A) (x1 : Int32) (x2 : Int32) (x3 : Int32) (y4 : Int64) (u : Lib) (H : Heap) (locs : List Loc) (ls : Array Slot) (hP : va_P D cl9 ((cL cI cJ cZ ad) u) H) (hD : va_D A ((cL cI cJ cZ ad) u)) (hS : va_S A s.heap H locs) (hl : lv_has ls 8 [(0, .ref (ad 1)), (1, .int x1), (2, .int x2), (3, .int x3), (4, .long y4)]) (hM : B_R_insert_0 x1 x2 x3 y4 u = some res) : W p l e rm_R_insert s m args below meth c H locs 0 0 (MQ below (Qwi D cl9 (tyy cI cJ cZ) (cL cI cJ cZ ad) A res) args s 0 0 A) (F0 m 0 ls []) := by
  have C0 := C
  obtain ⟨hx, hb, hr, hml, hown, hts, hlocks, hK, hA⟩ := C
  replace C := C0
  unfold B_R_insert_0 at hM
  refine lv_aload_n hx hb d_R_insert_0 rfl (lv_at hl 0 rfl) ?_
  refine va_get (D := D) (ci := 0) (v := .int (l_sz u)) (C := R_R) (T := T_R) (N := 5) hx hb hts in_R hown hK hP 1 rfl rfl 4 (by decide) (hts _ mm_52) (fun _ h9 => h9) rfl d_R_insert_1 ?_
  refine lv_sipush (v := (200 : Int32)) hx hb d_R_insert_4 (by decide) ?_
  refine lv_icmp_lt (tgt := 12) hx hb d_R_insert_7 (by decide) (fun c1 => ?_) (fun c1 => ?_)
  · replace hM := it_t c1 hM
    refine lv_aload_n hx hb d_R_insert_12 rfl (lv_at hl 0 rfl) ?_
    refine lv_lload hx hb d_R_insert_13 (lv_at hl 4 rfl) ?_
    obtain ⟨v2, hq2, hM⟩ := bd_some hM
    refine fr_i (res := v2) (va_runV (As := [.long y4]) (rest := []) ⟨hx, hb, hml, hown, hts⟩ (c_R_placeFor l D cI cJ cZ ad H.size y4 u v2 hq2) (cwV 1 hts (gV mm_136 mm_138 (ms_ 0 rfl rfl) mm_28 mm_139) rfl rfl rfl hd_R_placeFor ⟨Nat.le_of_ble_eq_true rfl, Nat.le_of_ble_eq_true rfl⟩) (pv_ (F := (cL cI cJ cZ ad)) (u := u) hK hP hD (va_recv hK hP (ci := 0) (q0 := 1) rfl rfl)) rfl rfl hl.1 rfl (lv_room (Nat.le_of_ble_eq_true rfl)) d_R_insert_15 ⟨Nat.le_of_ble_eq_true rfl, Nat.le_of_ble_eq_true rfl⟩) hP hS hA (fun H locs hP hS => ?_)
    refine lv_istore (lv' := [(6, .int v2), (0, .ref (ad 1)), (1, .int x1), (2, .int x2), (3, .int x3), (4, .long y4)]) hx hb d_R_insert_18 hl (by decide) rfl (fun ls hl => ?_)
    refine lv_aload_n hx hb d_R_insert_20 rfl (lv_at hl 1 rfl) ?_
    refine va_get (D := D) (ci := 0) (v := .int (l_sz u)) (C := R_R) (T := T_R) (N := 5) hx hb hts in_R hown hK hP 1 rfl rfl 4 (by decide) (hts _ mm_52) (fun _ h9 => h9) rfl d_R_insert_21 ?_
    refine lv_iload hx hb d_R_insert_24 (lv_at hl 0 rfl) ?_
    refine lv_isub hx hb d_R_insert_26 ?_
    refine lv_istore (lv' := [(7, .int ((l_sz u) - v2)), (6, .int v2), (0, .ref (ad 1)), (1, .int x1), (2, .int x2), (3, .int x3), (4, .long y4)]) hx hb d_R_insert_27 hl (by decide) rfl (fun ls hl => ?_)
    refine lv_aload_n hx hb d_R_insert_29 rfl (lv_at hl 2 rfl) ?_
    refine va_get (D := D) (ci := 0) (v := .ref (ad 2)) (C := R_R) (T := T_R) (N := 5) hx hb hts in_R hown hK hP 1 rfl rfl 0 (by decide) (hts _ mm_48) (fun _ h9 => h9) rfl d_R_insert_30 ?_
    refine lv_iload hx hb d_R_insert_33 (lv_at hl 1 rfl) ?_
    refine lv_aload_n hx hb d_R_insert_35 rfl (lv_at hl 2 rfl) ?_
    refine va_get (D := D) (ci := 0) (v := .ref (ad 2)) (C := R_R) (T := T_R) (N := 5) hx hb hts in_R hown hK hP 1 rfl rfl 0 (by decide) (hts _ mm_48) (fun _ h9 => h9) rfl d_R_insert_36 ?_
    refine lv_iload hx hb d_R_insert_39 (lv_at hl 1 rfl) ?_
    refine lv_iconst (v := (1 : Int32)) hx hb d_R_insert_41 (by decide) ?_
    refine lv_iadd hx hb d_R_insert_42 ?_
    refine lv_iload hx hb d_R_insert_43 (lv_at hl 0 rfl) ?_
    obtain ⟨⟨h3a, h3b, h3c, h3d, h3e⟩, hM⟩ := gd_some hM
    refine va_copyi (ty := .int) hx hb (hml.trans hl.1.symm) hown (hts _ mm_140) (hts _ mm_142) (hts _ mm_141) (hts _ mm_31) hK hP hD hS 2 2 0 0 rfl rfl rfl rfl rfl (ic_nn h3a) (ic_nn h3b) (ic_nn h3c) (ic_le h3a h3c h3d) (ic_le h3b h3c h3e) (fun _ _ => rfl) (Nat.le_of_ble_eq_true rfl) (Nat.le_of_ble_eq_true rfl) d_R_insert_45 (fun H locs hP hD hS => ?_)
    have hP : va_P D cl9 ((cL cI cJ cZ ad) (l_srt_w u (va_cpy (l_srt u) (l_srt u) v2.toNatClampNeg (v2 + (1 : Int32)).toNatClampNeg ((l_sz u) - v2).toNatClampNeg))) H := reP (zcL_srt cI cJ cZ ad u (va_cpy (l_srt u) (l_srt u) v2.toNatClampNeg (v2 + (1 : Int32)).toNatClampNeg ((l_sz u) - v2).toNatClampNeg)) hP
    have hD : va_D A ((cL cI cJ cZ ad) (l_srt_w u (va_cpy (l_srt u) (l_srt u) v2.toNatClampNeg (v2 + (1 : Int32)).toNatClampNeg ((l_sz u) - v2).toNatClampNeg))) := reD (zcL_srt cI cJ cZ ad u (va_cpy (l_srt u) (l_srt u) v2.toNatClampNeg (v2 + (1 : Int32)).toNatClampNeg ((l_sz u) - v2).toNatClampNeg)) hD
    obtain ⟨u4, hu4, hM⟩ := bd_some hM
    rw [Option.some.inj hu4] at hP hD
    refine lv_aload_n hx hb d_R_insert_48 rfl (lv_at hl 2 rfl) ?_
    refine va_get (D := D) (ci := 0) (v := .ref (ad 3)) (C := R_R) (T := T_R) (N := 5) hx hb hts in_R hown hK hP 1 rfl rfl 1 (by decide) (hts _ mm_49) (fun _ h9 => h9) rfl d_R_insert_49 ?_
    refine lv_iload hx hb d_R_insert_52 (lv_at hl 1 rfl) ?_
    refine lv_aload_n hx hb d_R_insert_54 rfl (lv_at hl 2 rfl) ?_
    refine va_get (D := D) (ci := 0) (v := .ref (ad 3)) (C := R_R) (T := T_R) (N := 5) hx hb hts in_R hown hK hP 1 rfl rfl 1 (by decide) (hts _ mm_49) (fun _ h9 => h9) rfl d_R_insert_55 ?_
    refine lv_iload hx hb d_R_insert_58 (lv_at hl 1 rfl) ?_
    refine lv_iconst (v := (1 : Int32)) hx hb d_R_insert_60 (by decide) ?_
    refine lv_iadd hx hb d_R_insert_61 ?_
    refine lv_iload hx hb d_R_insert_62 (lv_at hl 0 rfl) ?_
    obtain ⟨⟨h5a, h5b, h5c, h5d, h5e⟩, hM⟩ := gd_some hM
    refine va_copyi (ty := .int) hx hb (hml.trans hl.1.symm) hown (hts _ mm_140) (hts _ mm_142) (hts _ mm_141) (hts _ mm_31) hK hP hD hS 3 3 0 0 rfl rfl rfl rfl rfl (ic_nn h5a) (ic_nn h5b) (ic_nn h5c) (ic_le h5a h5c h5d) (ic_le h5b h5c h5e) (fun _ _ => rfl) (Nat.le_of_ble_eq_true rfl) (Nat.le_of_ble_eq_true rfl) d_R_insert_64 (fun H locs hP hD hS => ?_)
    have hP : va_P D cl9 ((cL cI cJ cZ ad) (l_fst_w u4 (va_cpy (l_fst u4) (l_fst u4) v2.toNatClampNeg (v2 + (1 : Int32)).toNatClampNeg ((l_sz u) - v2).toNatClampNeg))) H := reP (zcL_fst cI cJ cZ ad u4 (va_cpy (l_fst u4) (l_fst u4) v2.toNatClampNeg (v2 + (1 : Int32)).toNatClampNeg ((l_sz u) - v2).toNatClampNeg)) hP
    have hD : va_D A ((cL cI cJ cZ ad) (l_fst_w u4 (va_cpy (l_fst u4) (l_fst u4) v2.toNatClampNeg (v2 + (1 : Int32)).toNatClampNeg ((l_sz u) - v2).toNatClampNeg))) := reD (zcL_fst cI cJ cZ ad u4 (va_cpy (l_fst u4) (l_fst u4) v2.toNatClampNeg (v2 + (1 : Int32)).toNatClampNeg ((l_sz u) - v2).toNatClampNeg)) hD
    obtain ⟨u6, hu6, hM⟩ := bd_some hM
    rw [Option.some.inj hu6] at hP hD
    refine lv_aload_n hx hb d_R_insert_67 rfl (lv_at hl 2 rfl) ?_
    refine va_get (D := D) (ci := 0) (v := .ref (ad 4)) (C := R_R) (T := T_R) (N := 5) hx hb hts in_R hown hK hP 1 rfl rfl 2 (by decide) (hts _ mm_50) (fun _ h9 => h9) rfl d_R_insert_68 ?_
    refine lv_iload hx hb d_R_insert_71 (lv_at hl 1 rfl) ?_
    refine lv_aload_n hx hb d_R_insert_73 rfl (lv_at hl 2 rfl) ?_
    refine va_get (D := D) (ci := 0) (v := .ref (ad 4)) (C := R_R) (T := T_R) (N := 5) hx hb hts in_R hown hK hP 1 rfl rfl 2 (by decide) (hts _ mm_50) (fun _ h9 => h9) rfl d_R_insert_74 ?_
    refine lv_iload hx hb d_R_insert_77 (lv_at hl 1 rfl) ?_
    refine lv_iconst (v := (1 : Int32)) hx hb d_R_insert_79 (by decide) ?_
    refine lv_iadd hx hb d_R_insert_80 ?_
    refine lv_iload hx hb d_R_insert_81 (lv_at hl 0 rfl) ?_
    obtain ⟨⟨h7a, h7b, h7c, h7d, h7e⟩, hM⟩ := gd_some hM
    refine va_copyi (ty := .int) hx hb (hml.trans hl.1.symm) hown (hts _ mm_140) (hts _ mm_142) (hts _ mm_141) (hts _ mm_31) hK hP hD hS 4 4 0 0 rfl rfl rfl rfl rfl (ic_nn h7a) (ic_nn h7b) (ic_nn h7c) (ic_le h7a h7c h7d) (ic_le h7b h7c h7e) (fun _ _ => rfl) (Nat.le_of_ble_eq_true rfl) (Nat.le_of_ble_eq_true rfl) d_R_insert_83 (fun H locs hP hD hS => ?_)
    have hP : va_P D cl9 ((cL cI cJ cZ ad) (l_snd_w u6 (va_cpy (l_snd u6) (l_snd u6) v2.toNatClampNeg (v2 + (1 : Int32)).toNatClampNeg ((l_sz u) - v2).toNatClampNeg))) H := reP (zcL_snd cI cJ cZ ad u6 (va_cpy (l_snd u6) (l_snd u6) v2.toNatClampNeg (v2 + (1 : Int32)).toNatClampNeg ((l_sz u) - v2).toNatClampNeg)) hP
    have hD : va_D A ((cL cI cJ cZ ad) (l_snd_w u6 (va_cpy (l_snd u6) (l_snd u6) v2.toNatClampNeg (v2 + (1 : Int32)).toNatClampNeg ((l_sz u) - v2).toNatClampNeg))) := reD (zcL_snd cI cJ cZ ad u6 (va_cpy (l_snd u6) (l_snd u6) v2.toNatClampNeg (v2 + (1 : Int32)).toNatClampNeg ((l_sz u) - v2).toNatClampNeg)) hD
    obtain ⟨u8, hu8, hM⟩ := bd_some hM
    rw [Option.some.inj hu8] at hP hD
    refine lv_aload_n hx hb d_R_insert_86 rfl (lv_at hl 2 rfl) ?_
    refine va_get (D := D) (ci := 0) (v := .ref (ad 5)) (C := R_R) (T := T_R) (N := 5) hx hb hts in_R hown hK hP 1 rfl rfl 3 (by decide) (hts _ mm_51) (fun _ h9 => h9) rfl d_R_insert_87 ?_
    refine lv_iload hx hb d_R_insert_90 (lv_at hl 1 rfl) ?_
    refine lv_aload_n hx hb d_R_insert_92 rfl (lv_at hl 2 rfl) ?_
    refine va_get (D := D) (ci := 0) (v := .ref (ad 5)) (C := R_R) (T := T_R) (N := 5) hx hb hts in_R hown hK hP 1 rfl rfl 3 (by decide) (hts _ mm_51) (fun _ h9 => h9) rfl d_R_insert_93 ?_
    refine lv_iload hx hb d_R_insert_96 (lv_at hl 1 rfl) ?_
    refine lv_iconst (v := (1 : Int32)) hx hb d_R_insert_98 (by decide) ?_
    refine lv_iadd hx hb d_R_insert_99 ?_
    refine lv_iload hx hb d_R_insert_100 (lv_at hl 0 rfl) ?_
    obtain ⟨⟨h9a, h9b, h9c, h9d, h9e⟩, hM⟩ := gd_some hM
    refine va_copyl (ty := .long) hx hb (hml.trans hl.1.symm) hown (hts _ mm_140) (hts _ mm_142) (hts _ mm_141) (hts _ mm_31) hK hP hD hS 5 5 1 1 rfl rfl rfl rfl rfl (ic_nn h9a) (ic_nn h9b) (ic_nn h9c) (ic_le h9a h9c h9d) (ic_le h9b h9c h9e) (fun _ _ => rfl) (Nat.le_of_ble_eq_true rfl) (Nat.le_of_ble_eq_true rfl) d_R_insert_102 (fun H locs hP hD hS => ?_)
    have hP : va_P D cl9 ((cL cI cJ cZ ad) (l_dys_w u8 (va_cpy (l_dys u8) (l_dys u8) v2.toNatClampNeg (v2 + (1 : Int32)).toNatClampNeg ((l_sz u) - v2).toNatClampNeg))) H := reP (zcL_dys cI cJ cZ ad u8 (va_cpy (l_dys u8) (l_dys u8) v2.toNatClampNeg (v2 + (1 : Int32)).toNatClampNeg ((l_sz u) - v2).toNatClampNeg)) hP
    have hD : va_D A ((cL cI cJ cZ ad) (l_dys_w u8 (va_cpy (l_dys u8) (l_dys u8) v2.toNatClampNeg (v2 + (1 : Int32)).toNatClampNeg ((l_sz u) - v2).toNatClampNeg))) := reD (zcL_dys cI cJ cZ ad u8 (va_cpy (l_dys u8) (l_dys u8) v2.toNatClampNeg (v2 + (1 : Int32)).toNatClampNeg ((l_sz u) - v2).toNatClampNeg)) hD
    obtain ⟨u10, hu10, hM⟩ := bd_some hM
    rw [Option.some.inj hu10] at hP hD
    refine lv_aload_n hx hb d_R_insert_105 rfl (lv_at hl 2 rfl) ?_
    refine va_get (D := D) (ci := 0) (v := .ref (ad 2)) (C := R_R) (T := T_R) (N := 5) hx hb hts in_R hown hK hP 1 rfl rfl 0 (by decide) (hts _ mm_48) (fun _ h9 => h9) rfl d_R_insert_106 ?_
    refine lv_iload hx hb d_R_insert_109 (lv_at hl 1 rfl) ?_
    refine lv_iload_n hx hb d_R_insert_111 rfl (lv_at hl 3 rfl) ?_
    obtain ⟨h11, hM⟩ := gd_some hM
    refine va_iast hx hb hK hP hD hS 2 0 rfl rfl (vp_in_iff.mpr h11) d_R_insert_112 (fun H locs hP hD hS => ?_)
    have hP : va_P D cl9 ((cL cI cJ cZ ad) (l_srt_w u10 (upd (l_srt u10) v2.toNatClampNeg x1))) H := reP (zcL_srt cI cJ cZ ad u10 (upd (l_srt u10) v2.toNatClampNeg x1)) hP
    have hD : va_D A ((cL cI cJ cZ ad) (l_srt_w u10 (upd (l_srt u10) v2.toNatClampNeg x1))) := reD (zcL_srt cI cJ cZ ad u10 (upd (l_srt u10) v2.toNatClampNeg x1)) hD
    refine lv_aload_n hx hb d_R_insert_113 rfl (lv_at hl 2 rfl) ?_
    refine va_get (D := D) (ci := 0) (v := .ref (ad 3)) (C := R_R) (T := T_R) (N := 5) hx hb hts in_R hown hK hP 1 rfl rfl 1 (by decide) (hts _ mm_49) (fun _ h9 => h9) rfl d_R_insert_114 ?_
    refine lv_iload hx hb d_R_insert_117 (lv_at hl 1 rfl) ?_
    refine lv_iload_n hx hb d_R_insert_119 rfl (lv_at hl 4 rfl) ?_
    obtain ⟨h12, hM⟩ := gd_some hM
    refine va_iast hx hb hK hP hD hS 3 0 rfl rfl (vp_in_iff.mpr h12) d_R_insert_120 (fun H locs hP hD hS => ?_)
    have hP : va_P D cl9 ((cL cI cJ cZ ad) (l_fst_w (l_srt_w u10 (upd (l_srt u10) v2.toNatClampNeg x1)) (upd (l_fst (l_srt_w u10 (upd (l_srt u10) v2.toNatClampNeg x1))) v2.toNatClampNeg x2))) H := reP (zcL_fst cI cJ cZ ad (l_srt_w u10 (upd (l_srt u10) v2.toNatClampNeg x1)) (upd (l_fst (l_srt_w u10 (upd (l_srt u10) v2.toNatClampNeg x1))) v2.toNatClampNeg x2)) hP
    have hD : va_D A ((cL cI cJ cZ ad) (l_fst_w (l_srt_w u10 (upd (l_srt u10) v2.toNatClampNeg x1)) (upd (l_fst (l_srt_w u10 (upd (l_srt u10) v2.toNatClampNeg x1))) v2.toNatClampNeg x2))) := reD (zcL_fst cI cJ cZ ad (l_srt_w u10 (upd (l_srt u10) v2.toNatClampNeg x1)) (upd (l_fst (l_srt_w u10 (upd (l_srt u10) v2.toNatClampNeg x1))) v2.toNatClampNeg x2)) hD
    obtain ⟨u13, hu13, hM⟩ := bd_some hM
    rw [Option.some.inj hu13] at hP hD
    refine lv_aload_n hx hb d_R_insert_121 rfl (lv_at hl 2 rfl) ?_
    refine va_get (D := D) (ci := 0) (v := .ref (ad 4)) (C := R_R) (T := T_R) (N := 5) hx hb hts in_R hown hK hP 1 rfl rfl 2 (by decide) (hts _ mm_50) (fun _ h9 => h9) rfl d_R_insert_122 ?_
    refine lv_iload hx hb d_R_insert_125 (lv_at hl 1 rfl) ?_
    refine lv_iload_n hx hb d_R_insert_127 rfl (lv_at hl 5 rfl) ?_
    obtain ⟨h14, hM⟩ := gd_some hM
    refine va_iast hx hb hK hP hD hS 4 0 rfl rfl (vp_in_iff.mpr h14) d_R_insert_128 (fun H locs hP hD hS => ?_)
    have hP : va_P D cl9 ((cL cI cJ cZ ad) (l_snd_w u13 (upd (l_snd u13) v2.toNatClampNeg x3))) H := reP (zcL_snd cI cJ cZ ad u13 (upd (l_snd u13) v2.toNatClampNeg x3)) hP
    have hD : va_D A ((cL cI cJ cZ ad) (l_snd_w u13 (upd (l_snd u13) v2.toNatClampNeg x3))) := reD (zcL_snd cI cJ cZ ad u13 (upd (l_snd u13) v2.toNatClampNeg x3)) hD
    refine lv_aload_n hx hb d_R_insert_129 rfl (lv_at hl 2 rfl) ?_
    refine va_get (D := D) (ci := 0) (v := .ref (ad 5)) (C := R_R) (T := T_R) (N := 5) hx hb hts in_R hown hK hP 1 rfl rfl 3 (by decide) (hts _ mm_51) (fun _ h9 => h9) rfl d_R_insert_130 ?_
    refine lv_iload hx hb d_R_insert_133 (lv_at hl 1 rfl) ?_
    refine lv_lload hx hb d_R_insert_135 (lv_at hl 6 rfl) ?_
    obtain ⟨h15, hM⟩ := gd_some hM
    refine va_last hx hb hK hP hD hS 5 1 rfl rfl (vp_in_iff.mpr h15) d_R_insert_137 (fun H locs hP hD hS => ?_)
    have hP : va_P D cl9 ((cL cI cJ cZ ad) (l_dys_w (l_snd_w u13 (upd (l_snd u13) v2.toNatClampNeg x3)) (vp_updL (l_dys (l_snd_w u13 (upd (l_snd u13) v2.toNatClampNeg x3))) v2.toNatClampNeg y4))) H := reP (zcL_dys cI cJ cZ ad (l_snd_w u13 (upd (l_snd u13) v2.toNatClampNeg x3)) (vp_updL (l_dys (l_snd_w u13 (upd (l_snd u13) v2.toNatClampNeg x3))) v2.toNatClampNeg y4)) hP
    have hD : va_D A ((cL cI cJ cZ ad) (l_dys_w (l_snd_w u13 (upd (l_snd u13) v2.toNatClampNeg x3)) (vp_updL (l_dys (l_snd_w u13 (upd (l_snd u13) v2.toNatClampNeg x3))) v2.toNatClampNeg y4))) := reD (zcL_dys cI cJ cZ ad (l_snd_w u13 (upd (l_snd u13) v2.toNatClampNeg x3)) (vp_updL (l_dys (l_snd_w u13 (upd (l_snd u13) v2.toNatClampNeg x3))) v2.toNatClampNeg y4)) hD
    obtain ⟨u16, hu16, hM⟩ := bd_some hM
    rw [Option.some.inj hu16] at hP hD
    refine lv_aload_n hx hb d_R_insert_138 rfl (lv_at hl 2 rfl) ?_
    refine lv_dup hx hb d_R_insert_139 rfl ?_
    refine va_get (D := D) (ci := 0) (v := .int (l_sz u16)) (C := R_R) (T := T_R) (N := 5) hx hb hts in_R hown hK hP 1 rfl rfl 4 (by decide) (hts _ mm_52) (fun _ h9 => h9) rfl d_R_insert_140 ?_
    refine lv_iconst (v := (1 : Int32)) hx hb d_R_insert_143 (by decide) ?_
    refine lv_iadd hx hb d_R_insert_144 ?_
    refine va_put (D := D) (ci := 0) (v := .int ((l_sz u16) + (1 : Int32))) (ty := .int) (C := R_R) (T := T_R) (N := 5) hx hb hts in_R ty_R tk_R nm_R hown hK hP hD hS 1 rfl rfl 4 (by decide) (hts _ mm_52) (fun _ h9 => h9) rfl (by decide +kernel) rfl rfl (Nat.le_of_ble_eq_true rfl) d_R_insert_145 (fun H locs hP hD hS => ?_)
    have hP : va_P D cl9 ((cL cI cJ cZ ad) (l_sz_w u16 ((l_sz u16) + (1 : Int32)))) H := reP (zcL_sz cI cJ cZ ad u16 ((l_sz u16) + (1 : Int32))) hP
    have hD : va_D A ((cL cI cJ cZ ad) (l_sz_w u16 ((l_sz u16) + (1 : Int32)))) := reD (zcL_sz cI cJ cZ ad u16 ((l_sz u16) + (1 : Int32))) hD
    refine lv_iconst (v := (1 : Int32)) hx hb d_R_insert_148 (by decide) ?_
    obtain rfl := Option.some.inj hM
    exact W.zret (v := (1 : Int32)) hx hb hr rfl (fun t ht hW => ⟨⟨(1 : Int32), (l_sz_w u16 ((l_sz u16) + (1 : Int32))), rfl, rfl, by rw [ht]; exact hP, va_K.moved hW.alike hK, hD⟩, hS.F ht⟩) hS.2.2 d_R_insert_149
  · replace hM := it_f c1 hM
    refine lv_iconst (v := (0 : Int32)) hx hb d_R_insert_10 (by decide) ?_
    obtain rfl := Option.some.inj hM
    exact W.zret (v := (0 : Int32)) hx hb hr rfl (fun t ht hW => ⟨⟨(0 : Int32), u, rfl, rfl, by rw [ht]; exact hP, va_K.moved hW.alike hK, hD⟩, hS.F ht⟩) hS.2.2 d_R_insert_11
end
set_option maxRecDepth 100000 in
theorem c_R_insert (l : Launch) (D : va_G) (cI cJ cZ : ClassId) (ad : Nat → Nat) (sz : Nat) (x1 : Int32) (x2 : Int32) (x3 : Int32) (y4 : Int64) (u : Lib) (res : (Int32 × Lib)) (hM : B_R_insert_0 x1 x2 x3 y4 u = some res) : Met l y_R_insert ws_R_insert rm_R_insert (va_Pc [.ref (ad 1), .int x1, .int x2, .int x3, .long y4] (pr_ D cl9 (tyy cI cJ cZ) (cL cI cJ cZ ad) u sz)) (Qwi D cl9 (tyy cI cJ cZ) (cL cI cJ cZ ad) (va_A ((cL cI cJ cZ ad) u) sz) res) 0 0 (va_A ((cL cI cJ cZ ad) u) sz) := by
  refine Met.ofW (cc := prog_2_method_6_code) (maxL := 8) (ret := (Option.some FieldType.boolean)) (by decide) rfl ?_
  intro p e s m args below meth c s₁ B hml hv
  obtain ⟨rfl, hsz, hP, hK, hD0⟩ := hv
  subst hsz
  have hts0 := atoms_spec (ws := ws_R_insert) B.pre
  have hl := lv_entry ([.ref (ad 1), .int x1, .int x2, .int x3, .long y4]) (n := 8) (Nat.le_of_ble_eq_true rfl)
  rw [lg_entry_eq]
  generalize (lg_sl ([.ref (ad 1), .int x1, .int x2, .int x3, .long y4]) ++ List.replicate (8 - (lg_sl ([.ref (ad 1), .int x1, .int x2, .int x3, .long y4])).length) Slot.unset).toArray = ls at hl ⊢
  exact w_R_insert_0 ⟨B.exec, B.bytes, B.returns, hml, findClass_of_methodNamed B.named, fun w h => hts0 w (List.mem_cons_of_mem _ h), B.notSynchronized, hK, fun q h => Or.inr h⟩ x1 x2 x3 y4 u s.heap [] ls hP hD0.self va_S.rf hl hM
section
variable {p : Program} {l : Launch} {e : Env} {s : State} {m : MethodId} {args : Array Value} {below : List Frame} {meth : Method} {c : Code} {D : va_G} {cI cJ cZ : ClassId} {A : Nat → Prop} {ad : Nat → Nat}
set_option maxHeartbeats 4000000 in
set_option maxRecDepth 100000 in
theorem w_R_size_0 {res : Int32} (C : Cx p s m args meth c prog_2_method_2_code 1 (Option.some FieldType.int) "PlainLibrary$Row" tb D cl9 (tyy cI cJ cZ) A) (u : Lib) (H : Heap) (locs : List Loc) (ls : Array Slot) (hP : va_P D cl9 ((cL cI cJ cZ ad) u) H) (hD : va_D (fun _ => True) ((cL cI cJ cZ ad) u)) (hS : va_S A s.heap H locs) (hl : lv_has ls 1 [(0, .ref (ad 1))]) (hM : B_R_size_0 u = some res) : W p l e rm_R_size s m args below meth c H locs 0 0 (MQ below (Qri A res) args s 0 0 A) (F0 m 0 ls []) := by
  have C0 := C
  obtain ⟨hx, hb, hr, hml, hown, hts, hlocks, hK, hA⟩ := C
  replace C := C0
  unfold B_R_size_0 at hM
  refine lv_aload_n hx hb d_R_size_0 rfl (lv_at hl 0 rfl) ?_
  refine va_get (D := D) (ci := 0) (v := .int (l_sz u)) (C := R_R) (T := T_R) (N := 5) hx hb hts in_R hown hK hP 1 rfl rfl 4 (by decide) (hts _ mm_52) (fun _ h9 => h9) rfl d_R_size_1 ?_
  obtain rfl := Option.some.inj hM
  exact W.iret (v := (l_sz u)) hx hb hr (fun t ht hW => ⟨⟨(l_sz u), (), rfl, rfl, trivial⟩, hS.F ht⟩) hS.2.2 d_R_size_4
end
set_option maxRecDepth 100000 in
theorem c_R_size (l : Launch) (D : va_G) (cI cJ cZ : ClassId) (ad : Nat → Nat) (sz : Nat) (u : Lib) (res : Int32) (hM : B_R_size_0 u = some res) : Met l y_R_size ws_R_size rm_R_size (va_Pc [.ref (ad 1)] (pr_ D cl9 (tyy cI cJ cZ) (cL cI cJ cZ ad) u sz)) (Qri (va_A [] sz) res) 0 0 (va_A [] sz) := by
  refine Met.ofW (cc := prog_2_method_2_code) (maxL := 1) (ret := (Option.some FieldType.int)) (by decide) rfl ?_
  intro p e s m args below meth c s₁ B hml hv
  obtain ⟨rfl, hsz, hP, hK, hD0⟩ := hv
  subst hsz
  have hts0 := atoms_spec (ws := ws_R_size) B.pre
  have hl := lv_entry ([.ref (ad 1)]) (n := 1) (Nat.le_of_ble_eq_true rfl)
  rw [lg_entry_eq]
  generalize (lg_sl ([.ref (ad 1)]) ++ List.replicate (1 - (lg_sl ([.ref (ad 1)])).length) Slot.unset).toArray = ls at hl ⊢
  exact w_R_size_0 ⟨B.exec, B.bytes, B.returns, hml, findClass_of_methodNamed B.named, fun w h => hts0 w (List.mem_cons_of_mem _ h), B.notSynchronized, hK, fun q h => Or.inr h⟩ u s.heap [] ls hP hD0 va_S.rf hl hM
section
variable {p : Program} {l : Launch} {e : Env} {s : State} {m : MethodId} {args : Array Value} {below : List Frame} {meth : Method} {c : Code} {D : va_G} {cI cJ cZ : ClassId} {A : Nat → Prop} {ad : Nat → Nat}
set_option maxHeartbeats 4000000 in
set_option maxRecDepth 100000 in
theorem w_R_perform_0 {res : (Int32 × Lib)} (C : Cx p s m args meth c prog_2_method_5_code 3 (Option.some FieldType.boolean) "PlainLibrary$Row" tb D cl9 (tyy cI cJ cZ) A) (x1 : Int32) (u : Lib) (H : Heap) (locs : List Loc) (ls : Array Slot) (hP : va_P D cl9 ((cL cI cJ cZ ad) u) H) (hD : va_D A ((cL cI cJ cZ ad) u)) (hS : va_S A s.heap H locs) (hl : lv_has ls 3 [(0, .ref (ad 1)), (1, .int x1), (2, .ref (ad 6))]) (hM : B_R_perform_0 x1 u = some res) : W p l e rm_R_perform s m args below meth c H locs 0 0 (MQ below (Qwi D cl9 (tyy cI cJ cZ) (cL cI cJ cZ ad) A res) args s 0 0 A) (F0 m 0 ls []) := by
  have C0 := C
  obtain ⟨hx, hb, hr, hml, hown, hts, hlocks, hK, hA⟩ := C
  replace C := C0
  unfold B_R_perform_0 at hM
  refine lv_aload_n hx hb d_R_perform_0 rfl (lv_at hl 2 rfl) ?_
  refine lv_aload_n hx hb d_R_perform_1 rfl (lv_at hl 0 rfl) ?_
  refine va_get (D := D) (ci := 0) (v := .ref (ad 2)) (C := R_R) (T := T_R) (N := 5) hx hb hts in_R hown hK hP 1 rfl rfl 0 (by decide) (hts _ mm_48) (fun _ h9 => h9) rfl d_R_perform_2 ?_
  refine lv_iload_n hx hb d_R_perform_5 rfl (lv_at hl 1 rfl) ?_
  obtain ⟨h1, hM⟩ := gd_some hM
  refine va_iald hx hb hK hP 2 0 rfl rfl (vp_in_iff.mpr h1) d_R_perform_6 ?_
  refine lv_aload_n hx hb d_R_perform_7 rfl (lv_at hl 0 rfl) ?_
  refine va_get (D := D) (ci := 0) (v := .ref (ad 3)) (C := R_R) (T := T_R) (N := 5) hx hb hts in_R hown hK hP 1 rfl rfl 1 (by decide) (hts _ mm_49) (fun _ h9 => h9) rfl d_R_perform_8 ?_
  refine lv_iload_n hx hb d_R_perform_11 rfl (lv_at hl 1 rfl) ?_
  obtain ⟨h2, hM⟩ := gd_some hM
  refine va_iald hx hb hK hP 3 0 rfl rfl (vp_in_iff.mpr h2) d_R_perform_12 ?_
  refine lv_aload_n hx hb d_R_perform_13 rfl (lv_at hl 0 rfl) ?_
  refine va_get (D := D) (ci := 0) (v := .ref (ad 4)) (C := R_R) (T := T_R) (N := 5) hx hb hts in_R hown hK hP 1 rfl rfl 2 (by decide) (hts _ mm_50) (fun _ h9 => h9) rfl d_R_perform_14 ?_
  refine lv_iload_n hx hb d_R_perform_17 rfl (lv_at hl 1 rfl) ?_
  obtain ⟨h3, hM⟩ := gd_some hM
  refine va_iald hx hb hK hP 4 0 rfl rfl (vp_in_iff.mpr h3) d_R_perform_18 ?_
  refine lv_aload_n hx hb d_R_perform_19 rfl (lv_at hl 0 rfl) ?_
  refine va_get (D := D) (ci := 0) (v := .ref (ad 5)) (C := R_R) (T := T_R) (N := 5) hx hb hts in_R hown hK hP 1 rfl rfl 3 (by decide) (hts _ mm_51) (fun _ h9 => h9) rfl d_R_perform_20 ?_
  refine lv_iload_n hx hb d_R_perform_23 rfl (lv_at hl 1 rfl) ?_
  obtain ⟨h4, hM⟩ := gd_some hM
  refine va_lald hx hb hK hP 5 1 rfl rfl (vp_in_iff.mpr h4) d_R_perform_24 ?_
  obtain ⟨v5, hq5, hM⟩ := bd_some hM
  refine fw_i (F := (cL cI cJ cZ ad)) (u := u) (res := v5) (va_runV (As := [.int ((l_srt u) x1.toNatClampNeg), .int ((l_fst u) x1.toNatClampNeg), .int ((l_snd u) x1.toNatClampNeg), .long ((l_dys u) x1.toNatClampNeg)]) (rest := []) ⟨hx, hb, hml, hown, hts⟩ (c_S_perform l D cI cJ cZ ad H.size ((l_srt u) x1.toNatClampNeg) ((l_fst u) x1.toNatClampNeg) ((l_snd u) x1.toNatClampNeg) ((l_dys u) x1.toNatClampNeg) u v5 hq5) (cwV 4 hts (gV mm_165 mm_166 mm_167 mm_29 mm_168) rfl rfl rfl hd_S_perform ⟨Nat.le_of_ble_eq_true rfl, Nat.le_of_ble_eq_true rfl⟩) (pv_ (F := (cL cI cJ cZ ad)) (u := u) hK hP hD (va_recv hK hP (ci := 1) (q0 := 6) rfl rfl)) rfl rfl hl.1 rfl (lv_room (Nat.le_of_ble_eq_true rfl)) d_R_perform_25 ⟨Nat.le_of_ble_eq_true rfl, Nat.le_of_ble_eq_true rfl⟩) hS (fa_ hD hS hA) (fun H locs hP hD hS => ?_)
  obtain ⟨h6, hM⟩ := gd_some hM
  obtain rfl := Option.some.inj hM
  exact W.zret (v := v5.1) hx hb hr (nz_b h6) (fun t ht hW => ⟨⟨v5.1, v5.2, rfl, rfl, by rw [ht]; exact hP, va_K.moved hW.alike hK, hD⟩, hS.F ht⟩) hS.2.2 d_R_perform_28
end
set_option maxRecDepth 100000 in
theorem c_R_perform (l : Launch) (D : va_G) (cI cJ cZ : ClassId) (ad : Nat → Nat) (sz : Nat) (x1 : Int32) (u : Lib) (res : (Int32 × Lib)) (hM : B_R_perform_0 x1 u = some res) : Met l y_R_perform ws_R_perform rm_R_perform (va_Pc [.ref (ad 1), .int x1, .ref (ad 6)] (pr_ D cl9 (tyy cI cJ cZ) (cL cI cJ cZ ad) u sz)) (Qwi D cl9 (tyy cI cJ cZ) (cL cI cJ cZ ad) (va_A ((cL cI cJ cZ ad) u) sz) res) 0 0 (va_A ((cL cI cJ cZ ad) u) sz) := by
  refine Met.ofW (cc := prog_2_method_5_code) (maxL := 3) (ret := (Option.some FieldType.boolean)) (by decide) rfl ?_
  intro p e s m args below meth c s₁ B hml hv
  obtain ⟨rfl, hsz, hP, hK, hD0⟩ := hv
  subst hsz
  have hts0 := atoms_spec (ws := ws_R_perform) B.pre
  have hl := lv_entry ([.ref (ad 1), .int x1, .ref (ad 6)]) (n := 3) (Nat.le_of_ble_eq_true rfl)
  rw [lg_entry_eq]
  generalize (lg_sl ([.ref (ad 1), .int x1, .ref (ad 6)]) ++ List.replicate (3 - (lg_sl ([.ref (ad 1), .int x1, .ref (ad 6)])).length) Slot.unset).toArray = ls at hl ⊢
  exact w_R_perform_0 ⟨B.exec, B.bytes, B.returns, hml, findClass_of_methodNamed B.named, fun w h => hts0 w (List.mem_cons_of_mem _ h), B.notSynchronized, hK, fun q h => Or.inr h⟩ x1 u s.heap [] ls hP hD0.self va_S.rf hl hM
section
variable {p : Program} {l : Launch} {e : Env} {s : State} {m : MethodId} {args : Array Value} {below : List Frame} {meth : Method} {c : Code} {D : va_G} {cI cJ cZ : ClassId} {A : Nat → Prop} {ad : Nat → Nat}
set_option maxHeartbeats 4000000 in
set_option maxRecDepth 100000 in
theorem w_R_dayOf_0 {res : Int64} (C : Cx p s m args meth c prog_2_method_3_code 2 (Option.some FieldType.long) "PlainLibrary$Row" tb D cl9 (tyy cI cJ cZ) A) (x1 : Int32) (u : Lib) (H : Heap) (locs : List Loc) (ls : Array Slot) (hP : va_P D cl9 ((cL cI cJ cZ ad) u) H) (hD : va_D (fun _ => True) ((cL cI cJ cZ ad) u)) (hS : va_S A s.heap H locs) (hl : lv_has ls 2 [(0, .ref (ad 1)), (1, .int x1)]) (hM : B_R_dayOf_0 x1 u = some res) : W p l e rm_R_dayOf s m args below meth c H locs 0 0 (MQ below (Qrl A res) args s 0 0 A) (F0 m 0 ls []) := by
  have C0 := C
  obtain ⟨hx, hb, hr, hml, hown, hts, hlocks, hK, hA⟩ := C
  replace C := C0
  unfold B_R_dayOf_0 at hM
  refine lv_aload_n hx hb d_R_dayOf_0 rfl (lv_at hl 0 rfl) ?_
  refine va_get (D := D) (ci := 0) (v := .ref (ad 5)) (C := R_R) (T := T_R) (N := 5) hx hb hts in_R hown hK hP 1 rfl rfl 3 (by decide) (hts _ mm_51) (fun _ h9 => h9) rfl d_R_dayOf_1 ?_
  refine lv_iload_n hx hb d_R_dayOf_4 rfl (lv_at hl 1 rfl) ?_
  obtain ⟨h1, hM⟩ := gd_some hM
  refine va_lald hx hb hK hP 5 1 rfl rfl (vp_in_iff.mpr h1) d_R_dayOf_5 ?_
  obtain rfl := Option.some.inj hM
  exact W.lret (v := ((l_dys u) x1.toNatClampNeg)) hx hb hr (fun t ht hW => ⟨⟨((l_dys u) x1.toNatClampNeg), (), rfl, rfl, trivial⟩, hS.F ht⟩) hS.2.2 d_R_dayOf_6
end
set_option maxRecDepth 100000 in
theorem c_R_dayOf (l : Launch) (D : va_G) (cI cJ cZ : ClassId) (ad : Nat → Nat) (sz : Nat) (x1 : Int32) (u : Lib) (res : Int64) (hM : B_R_dayOf_0 x1 u = some res) : Met l y_R_dayOf ws_R_dayOf rm_R_dayOf (va_Pc [.ref (ad 1), .int x1] (pr_ D cl9 (tyy cI cJ cZ) (cL cI cJ cZ ad) u sz)) (Qrl (va_A [] sz) res) 0 0 (va_A [] sz) := by
  refine Met.ofW (cc := prog_2_method_3_code) (maxL := 2) (ret := (Option.some FieldType.long)) (by decide) rfl ?_
  intro p e s m args below meth c s₁ B hml hv
  obtain ⟨rfl, hsz, hP, hK, hD0⟩ := hv
  subst hsz
  have hts0 := atoms_spec (ws := ws_R_dayOf) B.pre
  have hl := lv_entry ([.ref (ad 1), .int x1]) (n := 2) (Nat.le_of_ble_eq_true rfl)
  rw [lg_entry_eq]
  generalize (lg_sl ([.ref (ad 1), .int x1]) ++ List.replicate (2 - (lg_sl ([.ref (ad 1), .int x1])).length) Slot.unset).toArray = ls at hl ⊢
  exact w_R_dayOf_0 ⟨B.exec, B.bytes, B.returns, hml, findClass_of_methodNamed B.named, fun w h => hts0 w (List.mem_cons_of_mem _ h), B.notSynchronized, hK, fun q h => Or.inr h⟩ x1 u s.heap [] ls hP hD0 va_S.rf hl hM
section
variable {p : Program} {l : Launch} {e : Env} {s : State} {m : MethodId} {args : Array Value} {below : List Frame} {meth : Method} {c : Code} {D : va_G} {cI cJ cZ : ClassId} {A : Nat → Prop} {ad : Nat → Nat}
set_option maxHeartbeats 4000000 in
set_option maxRecDepth 100000 in
theorem w_R_copyGivenBackBy_0 {res : Int32} (C : Cx p s m args meth c prog_2_method_4_code 2 (Option.some FieldType.int) "PlainLibrary$Row" tb D cl9 (tyy cI cJ cZ) A) (x1 : Int32) (u : Lib) (H : Heap) (locs : List Loc) (ls : Array Slot) (hP : va_P D cl9 ((cL cI cJ cZ ad) u) H) (hD : va_D (fun _ => True) ((cL cI cJ cZ ad) u)) (hS : va_S A s.heap H locs) (hl : lv_has ls 2 [(0, .ref (ad 1)), (1, .int x1)]) (hM : B_R_copyGivenBackBy_0 x1 u = some res) : W p l e rm_R_copyGivenBackBy s m args below meth c H locs 0 0 (MQ below (Qri A res) args s 0 0 A) (F0 m 0 ls []) := by
  have C0 := C
  obtain ⟨hx, hb, hr, hml, hown, hts, hlocks, hK, hA⟩ := C
  replace C := C0
  unfold B_R_copyGivenBackBy_0 at hM
  refine lv_aload_n hx hb d_R_copyGivenBackBy_0 rfl (lv_at hl 0 rfl) ?_
  refine va_get (D := D) (ci := 0) (v := .ref (ad 2)) (C := R_R) (T := T_R) (N := 5) hx hb hts in_R hown hK hP 1 rfl rfl 0 (by decide) (hts _ mm_48) (fun _ h9 => h9) rfl d_R_copyGivenBackBy_1 ?_
  refine lv_iload_n hx hb d_R_copyGivenBackBy_4 rfl (lv_at hl 1 rfl) ?_
  obtain ⟨h1, hM⟩ := gd_some hM
  refine va_iald hx hb hK hP 2 0 rfl rfl (vp_in_iff.mpr h1) d_R_copyGivenBackBy_5 ?_
  refine lv_iconst (v := (4 : Int32)) hx hb d_R_copyGivenBackBy_6 (by decide) ?_
  refine lv_icmp_ne (tgt := 19) hx hb d_R_copyGivenBackBy_7 (by decide) (fun c2 => ?_) (fun c2 => ?_)
  · replace hM := it_f c2 hM
    refine lv_iconst (v := (-1 : Int32)) hx hb d_R_copyGivenBackBy_19 (by decide) ?_
    obtain rfl := Option.some.inj hM
    exact W.iret (v := (-1 : Int32)) hx hb hr (fun t ht hW => ⟨⟨(-1 : Int32), (), rfl, rfl, trivial⟩, hS.F ht⟩) hS.2.2 d_R_copyGivenBackBy_20
  · replace hM := it_t c2 hM
    refine lv_aload_n hx hb d_R_copyGivenBackBy_10 rfl (lv_at hl 0 rfl) ?_
    refine va_get (D := D) (ci := 0) (v := .ref (ad 3)) (C := R_R) (T := T_R) (N := 5) hx hb hts in_R hown hK hP 1 rfl rfl 1 (by decide) (hts _ mm_49) (fun _ h9 => h9) rfl d_R_copyGivenBackBy_11 ?_
    refine lv_iload_n hx hb d_R_copyGivenBackBy_14 rfl (lv_at hl 1 rfl) ?_
    obtain ⟨h3, hM⟩ := gd_some hM
    refine va_iald hx hb hK hP 3 0 rfl rfl (vp_in_iff.mpr h3) d_R_copyGivenBackBy_15 ?_
    refine lv_goto (tgt := 20) hx hb d_R_copyGivenBackBy_16 (by decide) ?_
    obtain rfl := Option.some.inj hM
    exact W.iret (v := ((l_fst u) x1.toNatClampNeg)) hx hb hr (fun t ht hW => ⟨⟨((l_fst u) x1.toNatClampNeg), (), rfl, rfl, trivial⟩, hS.F ht⟩) hS.2.2 d_R_copyGivenBackBy_20
end
set_option maxRecDepth 100000 in
theorem c_R_copyGivenBackBy (l : Launch) (D : va_G) (cI cJ cZ : ClassId) (ad : Nat → Nat) (sz : Nat) (x1 : Int32) (u : Lib) (res : Int32) (hM : B_R_copyGivenBackBy_0 x1 u = some res) : Met l y_R_copyGivenBackBy ws_R_copyGivenBackBy rm_R_copyGivenBackBy (va_Pc [.ref (ad 1), .int x1] (pr_ D cl9 (tyy cI cJ cZ) (cL cI cJ cZ ad) u sz)) (Qri (va_A [] sz) res) 0 0 (va_A [] sz) := by
  refine Met.ofW (cc := prog_2_method_4_code) (maxL := 2) (ret := (Option.some FieldType.int)) (by decide) rfl ?_
  intro p e s m args below meth c s₁ B hml hv
  obtain ⟨rfl, hsz, hP, hK, hD0⟩ := hv
  subst hsz
  have hts0 := atoms_spec (ws := ws_R_copyGivenBackBy) B.pre
  have hl := lv_entry ([.ref (ad 1), .int x1]) (n := 2) (Nat.le_of_ble_eq_true rfl)
  rw [lg_entry_eq]
  generalize (lg_sl ([.ref (ad 1), .int x1]) ++ List.replicate (2 - (lg_sl ([.ref (ad 1), .int x1])).length) Slot.unset).toArray = ls at hl ⊢
  exact w_R_copyGivenBackBy_0 ⟨B.exec, B.bytes, B.returns, hml, findClass_of_methodNamed B.named, fun w h => hts0 w (List.mem_cons_of_mem _ h), B.notSynchronized, hK, fun q h => Or.inr h⟩ x1 u s.heap [] ls hP hD0 va_S.rf hl hM
