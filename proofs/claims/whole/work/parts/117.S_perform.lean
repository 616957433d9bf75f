section
variable {p : Program} {l : Launch} {e : Env} {s : State} {m : MethodId} {args : Array Value} {below : List Frame} {meth : Method} {c : Code} {D : va_G} {cI cJ cZ : ClassId} {A : Nat → Prop} {ad : Nat → Nat}
set_option maxHeartbeats 4000000 in
set_option maxRecDepth 100000 in
theorem w_S_perform_0 {res : (Int32 × Lib)} (C : Cx p s m args meth c prog_3_method_3_code 6 (Option.some FieldType.boolean) "PlainLibrary$Shelves" tb D cl9 (tyy cI cJ cZ) A) (x1 : Int32) (x2 : Int32) (x3 : Int32) (y4 : Int64) (u : Lib) (H : Heap) (locs : List Loc) (ls : Array Slot) (hP : va_P D cl9 ((cL cI cJ cZ ad) u) H) (hD : va_D A ((cL cI cJ cZ ad) u)) (hS : va_S A s.heap H locs) (hl : lv_has ls 6 [(0, .ref (ad 6)), (1, .int x1), (2, .int x2), (3, .int x3), (4, .long y4)]) (hM : B_S_perform_0 x1 x2 x3 y4 u = some res) : W p l e rm_S_perform s m args below meth c H locs 0 0 (MQ below (Qwi D cl9 (tyy cI cJ cZ) (cL cI cJ cZ ad) A res) args s 0 0 A) (F0 m 0 ls []) := by
  have C0 := C
  obtain ⟨hx, hb, hr, hml, hown, hts, hlocks, hK, hA⟩ := C
  replace C := C0
  unfold B_S_perform_0 at hM
  refine lv_iload_n hx hb d_S_perform_0 rfl (lv_at hl 1 rfl) ?_
  by_cases c1 : x1 = (0 : Int32)
  · replace hM := it_t c1 hM
    refine lv_tableIn (off := 59) (tgt := 60) hx hb d_S_perform_1 (by rw [c1]; decide) (by rw [c1]; decide) (by rw [c1]; rfl) (by decide) ?_
    refine lv_aload_n hx hb d_S_perform_60 rfl (lv_at hl 0 rfl) ?_
    refine lv_iload_n hx hb d_S_perform_61 rfl (lv_at hl 2 rfl) ?_
    refine lv_iload_n hx hb d_S_perform_62 rfl (lv_at hl 3 rfl) ?_
    obtain ⟨v2, hq2, hM⟩ := bd_some hM
    refine fw_i (F := (cL cI cJ cZ ad)) (u := u) (res := v2) (va_runV (As := [.int x2, .int x3]) (rest := []) ⟨hx, hb, hml, hown, hts⟩ (c_S_addHeading l D cI cJ cZ ad H.size x2 x3 u v2 hq2) (cwV 2 hts (gV mm_169 mm_171 (ms_ 1 rfl rfl) mm_29 mm_172) rfl rfl rfl hd_S_addHeading ⟨Nat.le_of_ble_eq_true rfl, Nat.le_of_ble_eq_true rfl⟩) (pv_ (F := (cL cI cJ cZ ad)) (u := u) hK hP hD (va_recv hK hP (ci := 1) (q0 := 6) rfl rfl)) rfl rfl hl.1 rfl (lv_room (Nat.le_of_ble_eq_true rfl)) d_S_perform_63 ⟨Nat.le_of_ble_eq_true rfl, Nat.le_of_ble_eq_true rfl⟩) hS (fa_ hD hS hA) (fun H locs hP hD hS => ?_)
    obtain ⟨h3, hM⟩ := gd_some hM
    obtain rfl := Option.some.inj hM
    exact W.zret (v := v2.1) hx hb hr (nz_b h3) (fun t ht hW => ⟨⟨v2.1, v2.2, rfl, rfl, by rw [ht]; exact hP, va_K.moved hW.alike hK, hD⟩, hS.F ht⟩) hS.2.2 d_S_perform_66
  replace hM := it_f c1 hM
  by_cases c4 : x1 = (1 : Int32)
  · replace hM := it_t c4 hM
    refine lv_tableIn (off := 66) (tgt := 67) hx hb d_S_perform_1 (by rw [c4]; decide) (by rw [c4]; decide) (by rw [c4]; rfl) (by decide) ?_
    refine lv_aload_n hx hb d_S_perform_67 rfl (lv_at hl 0 rfl) ?_
    refine lv_iload_n hx hb d_S_perform_68 rfl (lv_at hl 2 rfl) ?_
    refine lv_iload_n hx hb d_S_perform_69 rfl (lv_at hl 3 rfl) ?_
    obtain ⟨v5, hq5, hM⟩ := bd_some hM
    refine fw_i (F := (cL cI cJ cZ ad)) (u := u) (res := v5) (va_runV (As := [.int x2, .int x3]) (rest := []) ⟨hx, hb, hml, hown, hts⟩ (c_S_dropHeading l D cI cJ cZ ad H.size x2 x3 u v5 hq5) (cwV 2 hts (gV mm_183 mm_185 (ms_ 2 rfl rfl) mm_29 mm_186) rfl rfl rfl hd_S_dropHeading ⟨Nat.le_of_ble_eq_true rfl, Nat.le_of_ble_eq_true rfl⟩) (pv_ (F := (cL cI cJ cZ ad)) (u := u) hK hP hD (va_recv hK hP (ci := 1) (q0 := 6) rfl rfl)) rfl rfl hl.1 rfl (lv_room (Nat.le_of_ble_eq_true rfl)) d_S_perform_70 ⟨Nat.le_of_ble_eq_true rfl, Nat.le_of_ble_eq_true rfl⟩) hS (fa_ hD hS hA) (fun H locs hP hD hS => ?_)
    obtain ⟨h6, hM⟩ := gd_some hM
    obtain rfl := Option.some.inj hM
    exact W.zret (v := v5.1) hx hb hr (nz_b h6) (fun t ht hW => ⟨⟨v5.1, v5.2, rfl, rfl, by rw [ht]; exact hP, va_K.moved hW.alike hK, hD⟩, hS.F ht⟩) hS.2.2 d_S_perform_73
  replace hM := it_f c4 hM
  by_cases c7 : x1 = (2 : Int32)
  · replace hM := it_t c7 hM
    refine lv_tableIn (off := 73) (tgt := 74) hx hb d_S_perform_1 (by rw [c7]; decide) (by rw [c7]; decide) (by rw [c7]; rfl) (by decide) ?_
    refine lv_aload_n hx hb d_S_perform_74 rfl (lv_at hl 0 rfl) ?_
    refine lv_iload_n hx hb d_S_perform_75 rfl (lv_at hl 2 rfl) ?_
    refine lv_iload_n hx hb d_S_perform_76 rfl (lv_at hl 3 rfl) ?_
    obtain ⟨v8, hq8, hM⟩ := bd_some hM
    refine fw_i (F := (cL cI cJ cZ ad)) (u := u) (res := v8) (va_runV (As := [.int x2, .int x3]) (rest := []) ⟨hx, hb, hml, hown, hts⟩ (c_S_setRecord l D cI cJ cZ ad H.size x2 x3 u v8 hq8) (cwV 2 hts (gV mm_188 mm_190 (ms_ 3 rfl rfl) mm_29 mm_191) rfl rfl rfl hd_S_setRecord ⟨Nat.le_of_ble_eq_true rfl, Nat.le_of_ble_eq_true rfl⟩) (pv_ (F := (cL cI cJ cZ ad)) (u := u) hK hP hD (va_recv hK hP (ci := 1) (q0 := 6) rfl rfl)) rfl rfl hl.1 rfl (lv_room (Nat.le_of_ble_eq_true rfl)) d_S_perform_77 ⟨Nat.le_of_ble_eq_true rfl, Nat.le_of_ble_eq_true rfl⟩) hS (fa_ hD hS hA) (fun H locs hP hD hS => ?_)
    obtain ⟨h9, hM⟩ := gd_some hM
    obtain rfl := Option.some.inj hM
    exact W.zret (v := v8.1) hx hb hr (nz_b h9) (fun t ht hW => ⟨⟨v8.1, v8.2, rfl, rfl, by rw [ht]; exact hP, va_K.moved hW.alike hK, hD⟩, hS.F ht⟩) hS.2.2 d_S_perform_80
  replace hM := it_f c7 hM
  by_cases c10 : x1 = (3 : Int32)
  · replace hM := it_t c10 hM
    refine lv_tableIn (off := 80) (tgt := 81) hx hb d_S_perform_1 (by rw [c10]; decide) (by rw [c10]; decide) (by rw [c10]; rfl) (by decide) ?_
    refine lv_aload_n hx hb d_S_perform_81 rfl (lv_at hl 0 rfl) ?_
    refine lv_iload_n hx hb d_S_perform_82 rfl (lv_at hl 2 rfl) ?_
    refine lv_iload_n hx hb d_S_perform_83 rfl (lv_at hl 3 rfl) ?_
    refine lv_lload hx hb d_S_perform_84 (lv_at hl 4 rfl) ?_
    obtain ⟨v11, hq11, hM⟩ := bd_some hM
    refine fw_i (F := (cL cI cJ cZ ad)) (u := u) (res := v11) (va_runV (As := [.int x2, .int x3, .long y4]) (rest := []) ⟨hx, hb, hml, hown, hts⟩ (c_S_lend l D cI cJ cZ ad H.size x2 x3 y4 u v11 hq11) (cwV 3 hts (gV mm_192 mm_194 (ms_ 4 rfl rfl) mm_29 mm_195) rfl rfl rfl hd_S_lend ⟨Nat.le_of_ble_eq_true rfl, Nat.le_of_ble_eq_true rfl⟩) (pv_ (F := (cL cI cJ cZ ad)) (u := u) hK hP hD (va_recv hK hP (ci := 1) (q0 := 6) rfl rfl)) rfl rfl hl.1 rfl (lv_room (Nat.le_of_ble_eq_true rfl)) d_S_perform_86 ⟨Nat.le_of_ble_eq_true rfl, Nat.le_of_ble_eq_true rfl⟩) hS (fa_ hD hS hA) (fun H locs hP hD hS => ?_)
    obtain ⟨h12, hM⟩ := gd_some hM
    obtain rfl := Option.some.inj hM
    exact W.zret (v := v11.1) hx hb hr (nz_b h12) (fun t ht hW => ⟨⟨v11.1, v11.2, rfl, rfl, by rw [ht]; exact hP, va_K.moved hW.alike hK, hD⟩, hS.F ht⟩) hS.2.2 d_S_perform_89
  replace hM := it_f c10 hM
  by_cases c13 : x1 = (4 : Int32)
  · replace hM := it_t c13 hM
    refine lv_tableIn (off := 89) (tgt := 90) hx hb d_S_perform_1 (by rw [c13]; decide) (by rw [c13]; decide) (by rw [c13]; rfl) (by decide) ?_
    refine lv_aload_n hx hb d_S_perform_90 rfl (lv_at hl 0 rfl) ?_
    refine lv_iload_n hx hb d_S_perform_91 rfl (lv_at hl 2 rfl) ?_
    obtain ⟨v14, hq14, hM⟩ := bd_some hM
    refine fw_i (F := (cL cI cJ cZ ad)) (u := u) (res := v14) (va_runV (As := [.int x2]) (rest := []) ⟨hx, hb, hml, hown, hts⟩ (c_S_giveBack l D cI cJ cZ ad H.size x2 u v14 hq14) (cwV 1 hts (gV mm_209 mm_211 (ms_ 7 rfl rfl) mm_29 mm_212) rfl rfl rfl hd_S_giveBack ⟨Nat.le_of_ble_eq_true rfl, Nat.le_of_ble_eq_true rfl⟩) (pv_ (F := (cL cI cJ cZ ad)) (u := u) hK hP hD (va_recv hK hP (ci := 1) (q0 := 6) rfl rfl)) rfl rfl hl.1 rfl (lv_room (Nat.le_of_ble_eq_true rfl)) d_S_perform_92 ⟨Nat.le_of_ble_eq_true rfl, Nat.le_of_ble_eq_true rfl⟩) hS (fa_ hD hS hA) (fun H locs hP hD hS => ?_)
    obtain ⟨h15, hM⟩ := gd_some hM
    obtain rfl := Option.some.inj hM
    exact W.zret (v := v14.1) hx hb hr (nz_b h15) (fun t ht hW => ⟨⟨v14.1, v14.2, rfl, rfl, by rw [ht]; exact hP, va_K.moved hW.alike hK, hD⟩, hS.F ht⟩) hS.2.2 d_S_perform_95
  replace hM := it_f c13 hM
  by_cases c16 : x1 = (5 : Int32)
  · replace hM := it_t c16 hM
    refine lv_tableIn (off := 95) (tgt := 96) hx hb d_S_perform_1 (by rw [c16]; decide) (by rw [c16]; decide) (by rw [c16]; rfl) (by decide) ?_
    refine lv_aload_n hx hb d_S_perform_96 rfl (lv_at hl 0 rfl) ?_
    refine lv_iload_n hx hb d_S_perform_97 rfl (lv_at hl 2 rfl) ?_
    refine lv_iload_n hx hb d_S_perform_98 rfl (lv_at hl 3 rfl) ?_
    obtain ⟨v17, hq17, hM⟩ := bd_some hM
    refine fw_i (F := (cL cI cJ cZ ad)) (u := u) (res := v17) (va_runV (As := [.int x2, .int x3]) (rest := []) ⟨hx, hb, hml, hown, hts⟩ (c_S_joinQueue l D cI cJ cZ ad H.size x2 x3 u v17 hq17) (cwV 2 hts (gV mm_213 mm_215 (ms_ 8 rfl rfl) mm_29 mm_216) rfl rfl rfl hd_S_joinQueue ⟨Nat.le_of_ble_eq_true rfl, Nat.le_of_ble_eq_true rfl⟩) (pv_ (F := (cL cI cJ cZ ad)) (u := u) hK hP hD (va_recv hK hP (ci := 1) (q0 := 6) rfl rfl)) rfl rfl hl.1 rfl (lv_room (Nat.le_of_ble_eq_true rfl)) d_S_perform_99 ⟨Nat.le_of_ble_eq_true rfl, Nat.le_of_ble_eq_true rfl⟩) hS (fa_ hD hS hA) (fun H locs hP hD hS => ?_)
    obtain ⟨h18, hM⟩ := gd_some hM
    obtain rfl := Option.some.inj hM
    exact W.zret (v := v17.1) hx hb hr (nz_b h18) (fun t ht hW => ⟨⟨v17.1, v17.2, rfl, rfl, by rw [ht]; exact hP, va_K.moved hW.alike hK, hD⟩, hS.F ht⟩) hS.2.2 d_S_perform_102
  replace hM := it_f c16 hM
  by_cases c19 : x1 = (6 : Int32)
  · replace hM := it_t c19 hM
    refine lv_tableIn (off := 102) (tgt := 103) hx hb d_S_perform_1 (by rw [c19]; decide) (by rw [c19]; decide) (by rw [c19]; rfl) (by decide) ?_
    refine lv_aload_n hx hb d_S_perform_103 rfl (lv_at hl 0 rfl) ?_
    refine lv_iload_n hx hb d_S_perform_104 rfl (lv_at hl 2 rfl) ?_
    refine lv_iload_n hx hb d_S_perform_105 rfl (lv_at hl 3 rfl) ?_
    obtain ⟨v20, hq20, hM⟩ := bd_some hM
    refine fw_i (F := (cL cI cJ cZ ad)) (u := u) (res := v20) (va_runV (As := [.int x2, .int x3]) (rest := []) ⟨hx, hb, hml, hown, hts⟩ (c_S_leaveQueue l D cI cJ cZ ad H.size x2 x3 u v20 hq20) (cwV 2 hts (gV mm_200 mm_202 (ms_ 5 rfl rfl) mm_29 mm_203) rfl rfl rfl hd_S_leaveQueue ⟨Nat.le_of_ble_eq_true rfl, Nat.le_of_ble_eq_true rfl⟩) (pv_ (F := (cL cI cJ cZ ad)) (u := u) hK hP hD (va_recv hK hP (ci := 1) (q0 := 6) rfl rfl)) rfl rfl hl.1 rfl (lv_room (Nat.le_of_ble_eq_true rfl)) d_S_perform_106 ⟨Nat.le_of_ble_eq_true rfl, Nat.le_of_ble_eq_true rfl⟩) hS (fa_ hD hS hA) (fun H locs hP hD hS => ?_)
    obtain ⟨h21, hM⟩ := gd_some hM
    obtain rfl := Option.some.inj hM
    exact W.zret (v := v20.1) hx hb hr (nz_b h21) (fun t ht hW => ⟨⟨v20.1, v20.2, rfl, rfl, by rw [ht]; exact hP, va_K.moved hW.alike hK, hD⟩, hS.F ht⟩) hS.2.2 d_S_perform_109
  replace hM := it_f c19 hM
  by_cases c22 : x1 = (7 : Int32)
  · replace hM := it_t c22 hM
    refine lv_tableIn (off := 109) (tgt := 110) hx hb d_S_perform_1 (by rw [c22]; decide) (by rw [c22]; decide) (by rw [c22]; rfl) (by decide) ?_
    refine lv_aload_n hx hb d_S_perform_110 rfl (lv_at hl 0 rfl) ?_
    refine va_get (D := D) (ci := 1) (v := .ref (ad 15)) (C := R_S) (T := T_S) (N := 9) hx hb hts in_S hown hK hP 6 rfl rfl 8 (by decide) (hts _ mm_80) (fun _ h9 => h9) rfl d_S_perform_111 ?_
    refine lv_iload_n hx hb d_S_perform_114 rfl (lv_at hl 2 rfl) ?_
    refine lv_iload_n hx hb d_S_perform_115 rfl (lv_at hl 3 rfl) ?_
    obtain ⟨v23, hq23, hM⟩ := bd_some hM
    refine fr_i (res := v23) (va_runS (As := [.int x2, .int x3]) (rest := [.ref (ad 15)]) ⟨hx, hb, hml, hown, hts⟩ (c_S_sumIndex l D cI cJ cZ H.size x2 x3 v23 hq23) (va_cwS 2 hts (gS mm_217 mm_218 mm_29 mm_219) rfl rfl rfl hs_S_sumIndex ⟨Nat.le_of_ble_eq_true rfl, Nat.le_of_ble_eq_true rfl⟩) (ps_ (F := nW) (u := ()) hK nP (nD (A := fun _ => True))) rfl rfl hl.1 rfl (lv_room (Nat.le_of_ble_eq_true rfl)) d_S_perform_116 ⟨Nat.le_of_ble_eq_true rfl, Nat.le_of_ble_eq_true rfl⟩) hP hS hA (fun H locs hP hS => ?_)
    refine lv_lload hx hb d_S_perform_119 (lv_at hl 4 rfl) ?_
    refine lv_ldc2 (v := (7 : Int64)) hx hb hown (hts _ mm_220) d_S_perform_121 ?_
    refine lv_lrem hx hb d_S_perform_124 (by decide) ?_
    refine lv_l2i (v := (y4 - y4 / (7 : Int64) * (7 : Int64)).toInt32) hx hb d_S_perform_125 rfl ?_
    obtain ⟨h24, hM⟩ := gd_some hM
    refine va_iast hx hb hK hP hD hS 15 0 rfl rfl (vp_in_iff.mpr h24) d_S_perform_126 (fun H locs hP hD hS => ?_)
    have hP : va_P D cl9 ((cL cI cJ cZ ad) (l_sm_w u (upd (l_sm u) v23.toNatClampNeg ((y4 - y4 / (7 : Int64) * (7 : Int64)).toInt32)))) H := hP
    have hD : va_D A ((cL cI cJ cZ ad) (l_sm_w u (upd (l_sm u) v23.toNatClampNeg ((y4 - y4 / (7 : Int64) * (7 : Int64)).toInt32)))) := hD
    refine lv_iconst (v := (1 : Int32)) hx hb d_S_perform_127 (by decide) ?_
    obtain rfl := Option.some.inj hM
    exact W.zret (v := (1 : Int32)) hx hb hr rfl (fun t ht hW => ⟨⟨(1 : Int32), (l_sm_w u (upd (l_sm u) v23.toNatClampNeg ((y4 - y4 / (7 : Int64) * (7 : Int64)).toInt32))), rfl, rfl, by rw [ht]; exact hP, va_K.moved hW.alike hK, hD⟩, hS.F ht⟩) hS.2.2 d_S_perform_128
  replace hM := it_f c22 hM
  by_cases c25 : x1 = (8 : Int32)
  · replace hM := it_t c25 hM
    refine lv_tableIn (off := 128) (tgt := 129) hx hb d_S_perform_1 (by rw [c25]; decide) (by rw [c25]; decide) (by rw [c25]; rfl) (by decide) ?_
    refine lv_aload_n hx hb d_S_perform_129 rfl (lv_at hl 0 rfl) ?_
    refine lv_iload_n hx hb d_S_perform_130 rfl (lv_at hl 2 rfl) ?_
    refine lv_iload_n hx hb d_S_perform_131 rfl (lv_at hl 3 rfl) ?_
    obtain ⟨v26, hq26, hM⟩ := bd_some hM
    refine fw_i (F := (cL cI cJ cZ ad)) (u := u) (res := v26) (va_runV (As := [.int x2, .int x3]) (rest := []) ⟨hx, hb, hml, hown, hts⟩ (c_S_loseFile l D cI cJ cZ ad H.size x2 x3 u v26 hq26) (cwV 2 hts (gV mm_221 mm_223 (ms_ 9 rfl rfl) mm_29 mm_224) rfl rfl rfl hd_S_loseFile ⟨Nat.le_of_ble_eq_true rfl, Nat.le_of_ble_eq_true rfl⟩) (pv_ (F := (cL cI cJ cZ ad)) (u := u) hK hP hD (va_recv hK hP (ci := 1) (q0 := 6) rfl rfl)) rfl rfl hl.1 rfl (lv_room (Nat.le_of_ble_eq_true rfl)) d_S_perform_132 ⟨Nat.le_of_ble_eq_true rfl, Nat.le_of_ble_eq_true rfl⟩) hS (fa_ hD hS hA) (fun H locs hP hD hS => ?_)
    obtain ⟨h27, hM⟩ := gd_some hM
    obtain rfl := Option.some.inj hM
    exact W.zret (v := v26.1) hx hb hr (nz_b h27) (fun t ht hW => ⟨⟨v26.1, v26.2, rfl, rfl, by rw [ht]; exact hP, va_K.moved hW.alike hK, hD⟩, hS.F ht⟩) hS.2.2 d_S_perform_135
  replace hM := it_f c25 hM
  by_cases c28 : x1 = (9 : Int32)
  · replace hM := it_t c28 hM
    refine lv_tableIn (off := 135) (tgt := 136) hx hb d_S_perform_1 (by rw [c28]; decide) (by rw [c28]; decide) (by rw [c28]; rfl) (by decide) ?_
    refine lv_aload_n hx hb d_S_perform_136 rfl (lv_at hl 0 rfl) ?_
    refine va_get (D := D) (ci := 1) (v := .ref (ad 13)) (C := R_S) (T := T_S) (N := 9) hx hb hts in_S hown hK hP 6 rfl rfl 6 (by decide) (hts _ mm_78) (fun _ h9 => h9) rfl d_S_perform_137 ?_
    refine lv_iload_n hx hb d_S_perform_140 rfl (lv_at hl 2 rfl) ?_
    refine lv_iload_n hx hb d_S_perform_141 rfl (lv_at hl 3 rfl) ?_
    obtain ⟨h29, hM⟩ := gd_some hM
    refine va_iast hx hb hK hP hD hS 13 0 rfl rfl (vp_in_iff.mpr h29) d_S_perform_142 (fun H locs hP hD hS => ?_)
    have hP : va_P D cl9 ((cL cI cJ cZ ad) (l_cls_w u (upd (l_cls u) x2.toNatClampNeg x3))) H := hP
    have hD : va_D A ((cL cI cJ cZ ad) (l_cls_w u (upd (l_cls u) x2.toNatClampNeg x3))) := hD
    refine lv_iconst (v := (1 : Int32)) hx hb d_S_perform_143 (by decide) ?_
    obtain rfl := Option.some.inj hM
    exact W.zret (v := (1 : Int32)) hx hb hr rfl (fun t ht hW => ⟨⟨(1 : Int32), (l_cls_w u (upd (l_cls u) x2.toNatClampNeg x3)), rfl, rfl, by rw [ht]; exact hP, va_K.moved hW.alike hK, hD⟩, hS.F ht⟩) hS.2.2 d_S_perform_144
  replace hM := it_f c28 hM
  by_cases c30 : x1 = (10 : Int32)
  · replace hM := it_t c30 hM
    refine lv_tableIn (off := 144) (tgt := 145) hx hb d_S_perform_1 (by rw [c30]; decide) (by rw [c30]; decide) (by rw [c30]; rfl) (by decide) ?_
    refine lv_aload_n hx hb d_S_perform_145 rfl (lv_at hl 0 rfl) ?_
    refine va_get (D := D) (ci := 1) (v := .ref (ad 14)) (C := R_S) (T := T_S) (N := 9) hx hb hts in_S hown hK hP 6 rfl rfl 7 (by decide) (hts _ mm_79) (fun _ h9 => h9) rfl d_S_perform_146 ?_
    refine lv_iload_n hx hb d_S_perform_149 rfl (lv_at hl 2 rfl) ?_
    refine lv_iload_n hx hb d_S_perform_150 rfl (lv_at hl 3 rfl) ?_
    obtain ⟨h31, hM⟩ := gd_some hM
    refine va_iast hx hb hK hP hD hS 14 0 rfl rfl (vp_in_iff.mpr h31) d_S_perform_151 (fun H locs hP hD hS => ?_)
    have hP : va_P D cl9 ((cL cI cJ cZ ad) (l_ln_w u (upd (l_ln u) x2.toNatClampNeg x3))) H := hP
    have hD : va_D A ((cL cI cJ cZ ad) (l_ln_w u (upd (l_ln u) x2.toNatClampNeg x3))) := hD
    refine lv_iconst (v := (1 : Int32)) hx hb d_S_perform_152 (by decide) ?_
    obtain rfl := Option.some.inj hM
    exact W.zret (v := (1 : Int32)) hx hb hr rfl (fun t ht hW => ⟨⟨(1 : Int32), (l_ln_w u (upd (l_ln u) x2.toNatClampNeg x3)), rfl, rfl, by rw [ht]; exact hP, va_K.moved hW.alike hK, hD⟩, hS.F ht⟩) hS.2.2 d_S_perform_153
  replace hM := it_f c30 hM
  have nc1 := lv_neT c1 (a := 0) (by decide)
  have nc4 := lv_neT c4 (a := 1) (by decide)
  have nc7 := lv_neT c7 (a := 2) (by decide)
  have nc10 := lv_neT c10 (a := 3) (by decide)
  have nc13 := lv_neT c13 (a := 4) (by decide)
  have nc16 := lv_neT c16 (a := 5) (by decide)
  have nc19 := lv_neT c19 (a := 6) (by decide)
  have nc22 := lv_neT c22 (a := 7) (by decide)
  have nc25 := lv_neT c25 (a := 8) (by decide)
  have nc28 := lv_neT c28 (a := 9) (by decide)
  have nc30 := lv_neT c30 (a := 10) (by decide)
  refine lv_tableOut (tgt := 154) hx hb d_S_perform_1 (by omega) (by decide) ?_
  refine lv_iconst (v := (0 : Int32)) hx hb d_S_perform_154 (by decide) ?_
  obtain rfl := Option.some.inj hM
  exact W.zret (v := (0 : Int32)) hx hb hr rfl (fun t ht hW => ⟨⟨(0 : Int32), u, rfl, rfl, by rw [ht]; exact hP, va_K.moved hW.alike hK, hD⟩, hS.F ht⟩) hS.2.2 d_S_perform_155
end
set_option maxRecDepth 100000 in
theorem c_S_perform (l : Launch) (D : va_G) (cI cJ cZ : ClassId) (ad : Nat → Nat) (sz : Nat) (x1 : Int32) (x2 : Int32) (x3 : Int32) (y4 : Int64) (u : Lib) (res : (Int32 × Lib)) (hM : B_S_perform_0 x1 x2 x3 y4 u = some res) : Met l y_S_perform ws_S_perform rm_S_perform (va_Pc [.ref (ad 6), .int x1, .int x2, .int x3, .long y4] (pr_ D cl9 (tyy cI cJ cZ) (cL cI cJ cZ ad) u sz)) (Qwi D cl9 (tyy cI cJ cZ) (cL cI cJ cZ ad) (va_A ((cL cI cJ cZ ad) u) sz) res) 0 0 (va_A ((cL cI cJ cZ ad) u) sz) := by
  refine Met.ofW (cc := prog_3_method_3_code) (maxL := 6) (ret := (Option.some FieldType.boolean)) (by decide) rfl ?_
  intro p e s m args below meth c s₁ B hml hv
  obtain ⟨rfl, hsz, hP, hK, hD0⟩ := hv
  subst hsz
  have hts0 := atoms_spec (ws := ws_S_perform) B.pre
  have hl := lv_entry ([.ref (ad 6), .int x1, .int x2, .int x3, .long y4]) (n := 6) (Nat.le_of_ble_eq_true rfl)
  rw [lg_entry_eq]
  generalize (lg_sl ([.ref (ad 6), .int x1, .int x2, .int x3, .long y4]) ++ List.replicate (6 - (lg_sl ([.ref (ad 6), .int x1, .int x2, .int x3, .long y4])).length) Slot.unset).toArray = ls at hl ⊢
  exact w_S_perform_0 ⟨B.exec, B.bytes, B.returns, hml, findClass_of_methodNamed B.named, fun w h => hts0 w (List.mem_cons_of_mem _ h), B.notSynchronized, hK, fun q h => Or.inr h⟩ x1 x2 x3 y4 u s.heap [] ls hP hD0.self va_S.rf hl hM
