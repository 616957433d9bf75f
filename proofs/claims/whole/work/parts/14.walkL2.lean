section
variable {p : Program} {l : Launch} {e : Env} {s : State} {m : MethodId} {args : Array Value} {below : List Frame} {meth : Method} {c : Code} {D : va_G} {cI cJ cZ : ClassId} {A : Nat → Prop} {ad : Nat → Nat}
set_option maxHeartbeats 4000000 in
set_option maxRecDepth 100000 in
theorem w_L_question_87 {k37 : Int32 → Int32 → Int32 → Lib → Option (Int32 × Lib)} {res : (Int32 × Lib)} (C : Cx p s m args meth c prog_1_method_8_code 4 (Option.some FieldType.int) "PlainLibrary" tb D cl9 (tyy cI cJ cZ) A) (hk37 : ∀ (x1 : Int32) (x2 : Int32) (x3 : Int32) (u : Lib) (H : Heap) (locs : List Loc) (ls : Array Slot), va_P D cl9 ((cL cI cJ cZ ad) u) H → va_D A ((cL cI cJ cZ ad) u) → va_S A s.heap H locs → lv_has ls 4 [(0, .ref (ad 0)), (1, .int x1), (2, .int x2), (3, .int x3)] → k37 x1 x2 x3 u = some res → W p l e rm_L_question s m args below meth c H locs 0 0 (MQ below (Qwi D cl9 (tyy cI cJ cZ) (cL cI cJ cZ ad) A res) args s 0 0 A) (F0 m 37 ls [])) (x1 : Int32) (x2 : Int32) (x3 : Int32) (u : Lib) (H : Heap) (locs : List Loc) (ls : Array Slot) (hP : va_P D cl9 ((cL cI cJ cZ ad) u) H) (hD : va_D A ((cL cI cJ cZ ad) u)) (hS : va_S A s.heap H locs) (hl : lv_has ls 4 [(0, .ref (ad 0)), (1, .int x1), (2, .int x2), (3, .int x3)]) (hM : B_L_question_87 k37 x1 x2 x3 u = some res) : W p l e rm_L_question s m args below meth c H locs 0 0 (MQ below (Qwi D cl9 (tyy cI cJ cZ) (cL cI cJ cZ ad) A res) args s 0 0 A) (F0 m 87 ls []) := by
  have C0 := C
  obtain ⟨hx, hb, hr, hml, hown, hts, hlocks, hK, hA⟩ := C
  replace C := C0
  unfold B_L_question_87 at hM
  refine lv_iinc (v := (x3 + (1 : Int32))) (lv' := [(3, .int (x3 + (1 : Int32))), (0, .ref (ad 0)), (1, .int x1), (2, .int x2)]) hx hb d_L_question_87 hl (k := 3) rfl rfl (by decide) rfl (fun ls hl => ?_)
  refine lv_goto (tgt := 37) hx hb d_L_question_90 (by decide) ?_
  exact hk37 x1 x2 (x3 + (1 : Int32)) u H locs ls hP hD hS (lv_sub hl [1, 2, 3, 0] rfl) hM
set_option maxHeartbeats 4000000 in
set_option maxRecDepth 100000 in
theorem w_L_question_37s {res : (Int32 × Lib)} (C : Cx p s m args meth c prog_1_method_8_code 4 (Option.some FieldType.int) "PlainLibrary" tb D cl9 (tyy cI cJ cZ) A) {k37 : Int32 → Int32 → Int32 → Lib → Option (Int32 × Lib)} (hk37 : ∀ (x1 : Int32) (x2 : Int32) (x3 : Int32) (u : Lib) (H : Heap) (locs : List Loc) (ls : Array Slot), va_P D cl9 ((cL cI cJ cZ ad) u) H → va_D A ((cL cI cJ cZ ad) u) → va_S A s.heap H locs → lv_has ls 4 [(0, .ref (ad 0)), (1, .int x1), (2, .int x2), (3, .int x3)] → k37 x1 x2 x3 u = some res → W p l e rm_L_question s m args below meth c H locs 0 0 (MQ below (Qwi D cl9 (tyy cI cJ cZ) (cL cI cJ cZ ad) A res) args s 0 0 A) (F0 m 37 ls [])) (x1 : Int32) (x2 : Int32) (x3 : Int32) (u : Lib) (H : Heap) (locs : List Loc) (ls : Array Slot) (hP : va_P D cl9 ((cL cI cJ cZ ad) u) H) (hD : va_D A ((cL cI cJ cZ ad) u)) (hS : va_S A s.heap H locs) (hl : lv_has ls 4 [(0, .ref (ad 0)), (1, .int x1), (2, .int x2), (3, .int x3)]) (hM : B_L_question_37s k37 x1 x2 x3 u = some res) : W p l e rm_L_question s m args below meth c H locs 0 0 (MQ below (Qwi D cl9 (tyy cI cJ cZ) (cL cI cJ cZ ad) A res) args s 0 0 A) (F0 m 37 ls []) := by
  have C0 := C
  obtain ⟨hx, hb, hr, hml, hown, hts, hlocks, hK, hA⟩ := C
  replace C := C0
  unfold B_L_question_37s at hM
  refine lv_iload_n hx hb d_L_question_37 rfl (lv_at hl 3 rfl) ?_
  refine lv_bipush (v := (20 : Int32)) hx hb d_L_question_38 (by decide) ?_
  refine lv_icmp_gt (tgt := 93) hx hb d_L_question_40 (by decide) (fun c1 => ?_) (fun c1 => ?_)
  · replace hM := it_t c1 hM
    refine lv_aload_n hx hb d_L_question_93 rfl (lv_at hl 0 rfl) ?_
    refine va_get (D := D) (ci := 2) (v := .int (l_hc u)) (C := R_L) (T := T_L) (N := 4) hx hb hts in_L hown hK hP 0 rfl rfl 3 (by decide) (hts _ mm_103) (fun _ h9 => h9) rfl d_L_question_94 ?_
    obtain rfl := Option.some.inj hM
    exact W.iret (v := (l_hc u)) hx hb hr (fun t ht hW => ⟨⟨(l_hc u), u, rfl, rfl, by rw [ht]; exact hP, va_K.moved hW.alike hK, hD⟩, hS.F ht⟩) hS.2.2 d_L_question_97
  · replace hM := it_f c1 hM
    refine lv_aload_n hx hb d_L_question_43 rfl (lv_at hl 0 rfl) ?_
    refine va_get (D := D) (ci := 2) (v := .ref (ad 6)) (C := R_L) (T := T_L) (N := 4) hx hb hts in_L hown hK hP 0 rfl rfl 1 (by decide) (hts _ mm_101) (fun _ h9 => h9) rfl d_L_question_44 ?_
    refine lv_iload_n hx hb d_L_question_47 rfl (lv_at hl 3 rfl) ?_
    refine lv_iload_n hx hb d_L_question_48 rfl (lv_at hl 1 rfl) ?_
    obtain ⟨v2, hq2, hM⟩ := bd_some hM
    refine fr_i (res := v2) (va_runV (As := [.int x3, .int x1]) (rest := []) ⟨hx, hb, hml, hown, hts⟩ (c_S_hasHeading l D cI cJ cZ ad H.size x3 x1 u v2 hq2) (cwV 2 hts (gV mm_277 mm_174 mm_175 mm_29 mm_176) rfl rfl rfl hd_S_hasHeading ⟨Nat.le_of_ble_eq_true rfl, Nat.le_of_ble_eq_true rfl⟩) (pv_ (F := (cL cI cJ cZ ad)) (u := u) hK hP hD (va_recv hK hP (ci := 1) (q0 := 6) rfl rfl)) rfl rfl hl.1 rfl (lv_room (Nat.le_of_ble_eq_true rfl)) d_L_question_49 ⟨Nat.le_of_ble_eq_true rfl, Nat.le_of_ble_eq_true rfl⟩) hP hS hA (fun H locs hP hS => ?_)
    refine lv_if_eq (tgt := 87) hx hb d_L_question_52 (by decide) (fun c3 => ?_) (fun c3 => ?_)
    · replace hM := it_t c3 hM
      exact w_L_question_87 C hk37 x1 x2 x3 u H locs ls hP hD hS (lv_sub hl [0, 1, 2, 3] rfl) hM
    · replace hM := it_f c3 hM
      refine lv_aload_n hx hb d_L_question_55 rfl (lv_at hl 0 rfl) ?_
      refine va_get (D := D) (ci := 2) (v := .ref (ad 6)) (C := R_L) (T := T_L) (N := 4) hx hb hts in_L hown hK hP 0 rfl rfl 1 (by decide) (hts _ mm_101) (fun _ h9 => h9) rfl d_L_question_56 ?_
      refine lv_iload_n hx hb d_L_question_59 rfl (lv_at hl 3 rfl) ?_
      refine lv_iload_n hx hb d_L_question_60 rfl (lv_at hl 2 rfl) ?_
      obtain ⟨v4, hq4, hM⟩ := bd_some hM
      refine fr_i (res := v4) (va_runV (As := [.int x3, .int x2]) (rest := []) ⟨hx, hb, hml, hown, hts⟩ (c_S_hasHeading l D cI cJ cZ ad H.size x3 x2 u v4 hq4) (cwV 2 hts (gV mm_277 mm_174 mm_175 mm_29 mm_176) rfl rfl rfl hd_S_hasHeading ⟨Nat.le_of_ble_eq_true rfl, Nat.le_of_ble_eq_true rfl⟩) (pv_ (F := (cL cI cJ cZ ad)) (u := u) hK hP hD (va_recv hK hP (ci := 1) (q0 := 6) rfl rfl)) rfl rfl hl.1 rfl (lv_room (Nat.le_of_ble_eq_true rfl)) d_L_question_61 ⟨Nat.le_of_ble_eq_true rfl, Nat.le_of_ble_eq_true rfl⟩) hP hS hA (fun H locs hP hS => ?_)
      refine lv_if_ne (tgt := 87) hx hb d_L_question_64 (by decide) (fun c5 => ?_) (fun c5 => ?_)
      · replace hM := it_f c5 hM
        exact w_L_question_87 C hk37 x1 x2 x3 u H locs ls hP hD hS (lv_sub hl [0, 1, 2, 3] rfl) hM
      · replace hM := it_t c5 hM
        refine lv_aload_n hx hb d_L_question_67 rfl (lv_at hl 0 rfl) ?_
        refine va_get (D := D) (ci := 2) (v := .ref (ad 16)) (C := R_L) (T := T_L) (N := 4) hx hb hts in_L hown hK hP 0 rfl rfl 2 (by decide) (hts _ mm_102) (fun _ h9 => h9) rfl d_L_question_68 ?_
        refine lv_aload_n hx hb d_L_question_71 rfl (lv_at hl 0 rfl) ?_
        refine va_get (D := D) (ci := 2) (v := .int (l_hc u)) (C := R_L) (T := T_L) (N := 4) hx hb hts in_L hown hK hP 0 rfl rfl 3 (by decide) (hts _ mm_103) (fun _ h9 => h9) rfl d_L_question_72 ?_
        refine lv_iload_n hx hb d_L_question_75 rfl (lv_at hl 3 rfl) ?_
        obtain ⟨h6, hM⟩ := gd_some hM
        refine va_iast hx hb hK hP hD hS 16 0 rfl rfl (vp_in_iff.mpr h6) d_L_question_76 (fun H locs hP hD hS => ?_)
        have hP : va_P D cl9 ((cL cI cJ cZ ad) (l_hit_w u (upd (l_hit u) (l_hc u).toNatClampNeg x3))) H := reP (zcL_hit cI cJ cZ ad u (upd (l_hit u) (l_hc u).toNatClampNeg x3)) hP
        have hD : va_D A ((cL cI cJ cZ ad) (l_hit_w u (upd (l_hit u) (l_hc u).toNatClampNeg x3))) := reD (zcL_hit cI cJ cZ ad u (upd (l_hit u) (l_hc u).toNatClampNeg x3)) hD
        refine lv_aload_n hx hb d_L_question_77 rfl (lv_at hl 0 rfl) ?_
        refine lv_dup hx hb d_L_question_78 rfl ?_
        refine va_get (D := D) (ci := 2) (v := .int (l_hc (l_hit_w u (upd (l_hit u) (l_hc u).toNatClampNeg x3)))) (C := R_L) (T := T_L) (N := 4) hx hb hts in_L hown hK hP 0 rfl rfl 3 (by decide) (hts _ mm_103) (fun _ h9 => h9) rfl d_L_question_79 ?_
        refine lv_iconst (v := (1 : Int32)) hx hb d_L_question_82 (by decide) ?_
        refine lv_iadd hx hb d_L_question_83 ?_
        refine va_put (D := D) (ci := 2) (v := .int ((l_hc (l_hit_w u (upd (l_hit u) (l_hc u).toNatClampNeg x3))) + (1 : Int32))) (ty := .int) (C := R_L) (T := T_L) (N := 4) hx hb hts in_L ty_L tk_L nm_L hown hK hP hD hS 0 rfl rfl 3 (by decide) (hts _ mm_103) (fun _ h9 => h9) rfl (by decide +kernel) rfl rfl (Nat.le_of_ble_eq_true rfl) d_L_question_84 (fun H locs hP hD hS => ?_)
        have hP : va_P D cl9 ((cL cI cJ cZ ad) (l_hc_w (l_hit_w u (upd (l_hit u) (l_hc u).toNatClampNeg x3)) ((l_hc (l_hit_w u (upd (l_hit u) (l_hc u).toNatClampNeg x3))) + (1 : Int32)))) H := reP (zcL_hc cI cJ cZ ad (l_hit_w u (upd (l_hit u) (l_hc u).toNatClampNeg x3)) ((l_hc (l_hit_w u (upd (l_hit u) (l_hc u).toNatClampNeg x3))) + (1 : Int32))) hP
        have hD : va_D A ((cL cI cJ cZ ad) (l_hc_w (l_hit_w u (upd (l_hit u) (l_hc u).toNatClampNeg x3)) ((l_hc (l_hit_w u (upd (l_hit u) (l_hc u).toNatClampNeg x3))) + (1 : Int32)))) := reD (zcL_hc cI cJ cZ ad (l_hit_w u (upd (l_hit u) (l_hc u).toNatClampNeg x3)) ((l_hc (l_hit_w u (upd (l_hit u) (l_hc u).toNatClampNeg x3))) + (1 : Int32))) hD
        obtain ⟨u7, hu7, hM⟩ := bd_some hM
        rw [Option.some.inj hu7] at hP hD
        exact w_L_question_87 C hk37 x1 x2 x3 u7 H locs ls hP hD hS (lv_sub hl [0, 1, 2, 3] rfl) hM
theorem w_L_question_37 {res : (Int32 × Lib)} (C : Cx p s m args meth c prog_1_method_8_code 4 (Option.some FieldType.int) "PlainLibrary" tb D cl9 (tyy cI cJ cZ) A) : ∀ (fu : Nat) (x1 : Int32) (x2 : Int32) (x3 : Int32) (u : Lib) (H : Heap) (locs : List Loc) (ls : Array Slot), va_P D cl9 ((cL cI cJ cZ ad) u) H → va_D A ((cL cI cJ cZ ad) u) → va_S A s.heap H locs → lv_has ls 4 [(0, .ref (ad 0)), (1, .int x1), (2, .int x2), (3, .int x3)] → B_L_question_37 fu x1 x2 x3 u = some res → W p l e rm_L_question s m args below meth c H locs 0 0 (MQ below (Qwi D cl9 (tyy cI cJ cZ) (cL cI cJ cZ ad) A res) args s 0 0 A) (F0 m 37 ls []) := by
  intro fu
  induction fu with
  | zero =>
    intro x1 x2 x3 u H locs ls hP hD hS hl hM
    have hM : (none : Option (Int32 × Lib)) = some res := hM
    cases hM
  | succ fu ih =>
    intro x1 x2 x3 u H locs ls hP hD hS hl hM
    exact w_L_question_37s C ih x1 x2 x3 u H locs ls hP hD hS hl hM
set_option maxHeartbeats 4000000 in
set_option maxRecDepth 100000 in
theorem w_L_question_0 {res : (Int32 × Lib)} (C : Cx p s m args meth c prog_1_method_8_code 4 (Option.some FieldType.int) "PlainLibrary" tb D cl9 (tyy cI cJ cZ) A) (x1 : Int32) (x2 : Int32) (u : Lib) (H : Heap) (locs : List Loc) (ls : Array Slot) (hP : va_P D cl9 ((cL cI cJ cZ ad) u) H) (hD : va_D A ((cL cI cJ cZ ad) u)) (hS : va_S A s.heap H locs) (hl : lv_has ls 4 [(0, .ref (ad 0)), (1, .int x1), (2, .int x2)]) (hM : B_L_question_0 x1 x2 u = some res) : W p l e rm_L_question s m args below meth c H locs 0 0 (MQ below (Qwi D cl9 (tyy cI cJ cZ) (cL cI cJ cZ ad) A res) args s 0 0 A) (F0 m 0 ls []) := by
  have C0 := C
  obtain ⟨hx, hb, hr, hml, hown, hts, hlocks, hK, hA⟩ := C
  replace C := C0
  unfold B_L_question_0 at hM
  refine lv_iload_n hx hb d_L_question_0 rfl (lv_at hl 1 rfl) ?_
  refine lv_i2l (v := x1.toInt64) hx hb d_L_question_1 rfl ?_
  refine lv_lconst (v := (1 : Int64)) hx hb d_L_question_2 (by decide) ?_
  refine lv_ldc2 (v := (99 : Int64)) hx hb hown (hts _ mm_128) d_L_question_3 ?_
  obtain ⟨v1, hq1, hM⟩ := bd_some hM
  refine fr_i (res := v1) (va_runS (As := [.long (x1.toInt64), .long (1 : Int64), .long (99 : Int64)]) (rest := []) ⟨hx, hb, hml, hown, hts⟩ (c_L_isWithin l D cI cJ cZ H.size (x1.toInt64) (1 : Int64) (99 : Int64) v1 hq1) (va_cwS 3 hts (gS mm_118 mm_119 mm_27 mm_120) rfl rfl rfl hs_L_isWithin ⟨Nat.le_of_ble_eq_true rfl, Nat.le_of_ble_eq_true rfl⟩) (ps_ (F := nW) (u := ()) hK nP (nD (A := fun _ => True))) rfl rfl hl.1 rfl (lv_room (Nat.le_of_ble_eq_true rfl)) d_L_question_6 ⟨Nat.le_of_ble_eq_true rfl, Nat.le_of_ble_eq_true rfl⟩) hP hS hA (fun H locs hP hS => ?_)
  refine lv_if_eq (tgt := 24) hx hb d_L_question_9 (by decide) (fun c2 => ?_) (fun c2 => ?_)
  · replace hM := it_t c2 hM
    refine lv_iconst (v := (-1 : Int32)) hx hb d_L_question_24 (by decide) ?_
    obtain rfl := Option.some.inj hM
    exact W.iret (v := (-1 : Int32)) hx hb hr (fun t ht hW => ⟨⟨(-1 : Int32), u, rfl, rfl, by rw [ht]; exact hP, va_K.moved hW.alike hK, hD⟩, hS.F ht⟩) hS.2.2 d_L_question_25
  · replace hM := it_f c2 hM
    refine lv_iload_n hx hb d_L_question_12 rfl (lv_at hl 2 rfl) ?_
    refine lv_i2l (v := x2.toInt64) hx hb d_L_question_13 rfl ?_
    refine lv_lconst (v := (0 : Int64)) hx hb d_L_question_14 (by decide) ?_
    refine lv_ldc2 (v := (99 : Int64)) hx hb hown (hts _ mm_128) d_L_question_15 ?_
    obtain ⟨v3, hq3, hM⟩ := bd_some hM
    refine fr_i (res := v3) (va_runS (As := [.long (x2.toInt64), .long (0 : Int64), .long (99 : Int64)]) (rest := []) ⟨hx, hb, hml, hown, hts⟩ (c_L_isWithin l D cI cJ cZ H.size (x2.toInt64) (0 : Int64) (99 : Int64) v3 hq3) (va_cwS 3 hts (gS mm_118 mm_119 mm_27 mm_120) rfl rfl rfl hs_L_isWithin ⟨Nat.le_of_ble_eq_true rfl, Nat.le_of_ble_eq_true rfl⟩) (ps_ (F := nW) (u := ()) hK nP (nD (A := fun _ => True))) rfl rfl hl.1 rfl (lv_room (Nat.le_of_ble_eq_true rfl)) d_L_question_18 ⟨Nat.le_of_ble_eq_true rfl, Nat.le_of_ble_eq_true rfl⟩) hP hS hA (fun H locs hP hS => ?_)
    refine lv_if_ne (tgt := 26) hx hb d_L_question_21 (by decide) (fun c4 => ?_) (fun c4 => ?_)
    · replace hM := it_f c4 hM
      refine lv_aload_n hx hb d_L_question_26 rfl (lv_at hl 0 rfl) ?_
      obtain ⟨v5, hq5, hM⟩ := bd_some hM
      refine fw_v (F := (cL cI cJ cZ ad)) (u := u) (res := v5) (va_runV (As := []) (rest := []) ⟨hx, hb, hml, hown, hts⟩ (c_L_performAll l D cI cJ cZ ad H.size u v5 hq5) (cwV 0 hts (gV mm_265 mm_267 (ms_ 11 rfl rfl) mm_27 mm_268) rfl rfl rfl hd_L_performAll ⟨Nat.le_of_ble_eq_true rfl, Nat.le_of_ble_eq_true rfl⟩) (pv_ (F := (cL cI cJ cZ ad)) (u := u) hK hP hD (va_recv hK hP (ci := 2) (q0 := 0) rfl rfl)) rfl rfl hl.1 rfl (lv_room (Nat.le_of_ble_eq_true rfl)) d_L_question_27 ⟨Nat.le_of_ble_eq_true rfl, Nat.le_of_ble_eq_true rfl⟩) hS (fa_ hD hS hA) (fun H locs hP hD hS => ?_)
      refine lv_aload_n hx hb d_L_question_30 rfl (lv_at hl 0 rfl) ?_
      refine lv_iconst (v := (0 : Int32)) hx hb d_L_question_31 (by decide) ?_
      refine va_put (D := D) (ci := 2) (v := .int (0 : Int32)) (ty := .int) (C := R_L) (T := T_L) (N := 4) hx hb hts in_L ty_L tk_L nm_L hown hK hP hD hS 0 rfl rfl 3 (by decide) (hts _ mm_103) (fun _ h9 => h9) rfl (by decide +kernel) rfl rfl (Nat.le_of_ble_eq_true rfl) d_L_question_32 (fun H locs hP hD hS => ?_)
      have hP : va_P D cl9 ((cL cI cJ cZ ad) (l_hc_w v5 (0 : Int32))) H := reP (zcL_hc cI cJ cZ ad v5 (0 : Int32)) hP
      have hD : va_D A ((cL cI cJ cZ ad) (l_hc_w v5 (0 : Int32))) := reD (zcL_hc cI cJ cZ ad v5 (0 : Int32)) hD
      refine lv_iconst (v := (1 : Int32)) hx hb d_L_question_35 (by decide) ?_
      refine lv_istore_n (lv' := [(3, .int (1 : Int32)), (0, .ref (ad 0)), (1, .int x1), (2, .int x2)]) hx hb d_L_question_36 rfl hl (by decide) rfl (fun ls hl => ?_)
      exact w_L_question_37 C FU x1 x2 (1 : Int32) (l_hc_w v5 (0 : Int32)) H locs ls hP hD hS (lv_sub hl [1, 2, 3, 0] rfl) hM
    · replace hM := it_t c4 hM
      refine lv_iconst (v := (-1 : Int32)) hx hb d_L_question_24 (by decide) ?_
      obtain rfl := Option.some.inj hM
      exact W.iret (v := (-1 : Int32)) hx hb hr (fun t ht hW => ⟨⟨(-1 : Int32), u, rfl, rfl, by rw [ht]; exact hP, va_K.moved hW.alike hK, hD⟩, hS.F ht⟩) hS.2.2 d_L_question_25
end
set_option maxRecDepth 100000 in
theorem c_L_question (l : Launch) (D : va_G) (cI cJ cZ : ClassId) (ad : Nat → Nat) (sz : Nat) (x1 : Int32) (x2 : Int32) (u : Lib) (res : (Int32 × Lib)) (hM : B_L_question_0 x1 x2 u = some res) : Met l y_L_question ws_L_question rm_L_question (va_Pc [.ref (ad 0), .int x1, .int x2] (pr_ D cl9 (tyy cI cJ cZ) (cL cI cJ cZ ad) u sz)) (Qwi D cl9 (tyy cI cJ cZ) (cL cI cJ cZ ad) (va_A ((cL cI cJ cZ ad) u) sz) res) 0 0 (va_A ((cL cI cJ cZ ad) u) sz) := by
  refine Met.ofW (cc := prog_1_method_8_code) (maxL := 4) (ret := (Option.some FieldType.int)) (by decide) rfl ?_
  intro p e s m args below meth c s₁ B hml hv
  obtain ⟨rfl, hsz, hP, hK, hD0⟩ := hv
  subst hsz
  have hts0 := atoms_spec (ws := ws_L_question) B.pre
  have hl := lv_entry ([.ref (ad 0), .int x1, .int x2]) (n := 4) (Nat.le_of_ble_eq_true rfl)
  rw [lg_entry_eq]
  generalize (lg_sl ([.ref (ad 0), .int x1, .int x2]) ++ List.replicate (4 - (lg_sl ([.ref (ad 0), .int x1, .int x2])).length) Slot.unset).toArray = ls at hl ⊢
  exact w_L_question_0 ⟨B.exec, B.bytes, B.returns, hml, findClass_of_methodNamed B.named, fun w h => hts0 w (List.mem_cons_of_mem _ h), B.notSynchronized, hK, fun q h => Or.inr h⟩ x1 x2 u s.heap [] ls hP hD0.self va_S.rf hl hM
section
variable {p : Program} {l : Launch} {e : Env} {s : State} {m : MethodId} {args : Array Value} {below : List Frame} {meth : Method} {c : Code} {D : va_G} {cI cJ cZ : ClassId} {A : Nat → Prop} {ad : Nat → Nat}
set_option maxHeartbeats 4000000 in
set_option maxRecDepth 100000 in
theorem w_L_hit_0 {res : Int32} (C : Cx p s m args meth c prog_1_method_9_code 2 (Option.some FieldType.int) "PlainLibrary" tb D cl9 (tyy cI cJ cZ) A) (x1 : Int32) (u : Lib) (H : Heap) (locs : List Loc) (ls : Array Slot) (hP : va_P D cl9 ((cL cI cJ cZ ad) u) H) (hD : va_D (fun _ => True) ((cL cI cJ cZ ad) u)) (hS : va_S A s.heap H locs) (hl : lv_has ls 2 [(0, .ref (ad 0)), (1, .int x1)]) (hM : B_L_hit_0 x1 u = some res) : W p l e rm_L_hit s m args below meth c H locs 0 0 (MQ below (Qri A res) args s 0 0 A) (F0 m 0 ls []) := by
  have C0 := C
  obtain ⟨hx, hb, hr, hml, hown, hts, hlocks, hK, hA⟩ := C
  replace C := C0
  unfold B_L_hit_0 at hM
  refine lv_iload_n hx hb d_L_hit_0 rfl (lv_at hl 1 rfl) ?_
  refine lv_if_lt (tgt := 21) hx hb d_L_hit_1 (by decide) (fun c1 => ?_) (fun c1 => ?_)
  · replace hM := it_t c1 hM
    refine lv_iconst (v := (-1 : Int32)) hx hb d_L_hit_21 (by decide) ?_
    obtain rfl := Option.some.inj hM
    exact W.iret (v := (-1 : Int32)) hx hb hr (fun t ht hW => ⟨⟨(-1 : Int32), (), rfl, rfl, trivial⟩, hS.F ht⟩) hS.2.2 d_L_hit_22
  · replace hM := it_f c1 hM
    refine lv_iload_n hx hb d_L_hit_4 rfl (lv_at hl 1 rfl) ?_
    refine lv_aload_n hx hb d_L_hit_5 rfl (lv_at hl 0 rfl) ?_
    refine va_get (D := D) (ci := 2) (v := .int (l_hc u)) (C := R_L) (T := T_L) (N := 4) hx hb hts in_L hown hK hP 0 rfl rfl 3 (by decide) (hts _ mm_103) (fun _ h9 => h9) rfl d_L_hit_6 ?_
    refine lv_icmp_ge (tgt := 21) hx hb d_L_hit_9 (by decide) (fun c2 => ?_) (fun c2 => ?_)
    · replace hM := it_t c2 hM
      refine lv_iconst (v := (-1 : Int32)) hx hb d_L_hit_21 (by decide) ?_
      obtain rfl := Option.some.inj hM
      exact W.iret (v := (-1 : Int32)) hx hb hr (fun t ht hW => ⟨⟨(-1 : Int32), (), rfl, rfl, trivial⟩, hS.F ht⟩) hS.2.2 d_L_hit_22
    · replace hM := it_f c2 hM
      refine lv_aload_n hx hb d_L_hit_12 rfl (lv_at hl 0 rfl) ?_
      refine va_get (D := D) (ci := 2) (v := .ref (ad 16)) (C := R_L) (T := T_L) (N := 4) hx hb hts in_L hown hK hP 0 rfl rfl 2 (by decide) (hts _ mm_102) (fun _ h9 => h9) rfl d_L_hit_13 ?_
      refine lv_iload_n hx hb d_L_hit_16 rfl (lv_at hl 1 rfl) ?_
      obtain ⟨h3, hM⟩ := gd_some hM
      refine va_iald hx hb hK hP 16 0 rfl rfl (vp_in_iff.mpr h3) d_L_hit_17 ?_
      refine lv_goto (tgt := 22) hx hb d_L_hit_18 (by decide) ?_
      obtain rfl := Option.some.inj hM
      exact W.iret (v := ((l_hit u) x1.toNatClampNeg)) hx hb hr (fun t ht hW => ⟨⟨((l_hit u) x1.toNatClampNeg), (), rfl, rfl, trivial⟩, hS.F ht⟩) hS.2.2 d_L_hit_22
end
set_option maxRecDepth 100000 in
theorem c_L_hit (l : Launch) (D : va_G) (cI cJ cZ : ClassId) (ad : Nat → Nat) (sz : Nat) (x1 : Int32) (u : Lib) (res : Int32) (hM : B_L_hit_0 x1 u = some res) : Met l y_L_hit ws_L_hit rm_L_hit (va_Pc [.ref (ad 0), .int x1] (pr_ D cl9 (tyy cI cJ cZ) (cL cI cJ cZ ad) u sz)) (Qri (va_A [] sz) res) 0 0 (va_A [] sz) := by
  refine Met.ofW (cc := prog_1_method_9_code) (maxL := 2) (ret := (Option.some FieldType.int)) (by decide) rfl ?_
  intro p e s m args below meth c s₁ B hml hv
  obtain ⟨rfl, hsz, hP, hK, hD0⟩ := hv
  subst hsz
  have hts0 := atoms_spec (ws := ws_L_hit) B.pre
  have hl := lv_entry ([.ref (ad 0), .int x1]) (n := 2) (Nat.le_of_ble_eq_true rfl)
  rw [lg_entry_eq]
  generalize (lg_sl ([.ref (ad 0), .int x1]) ++ List.replicate (2 - (lg_sl ([.ref (ad 0), .int x1])).length) Slot.unset).toArray = ls at hl ⊢
  exact w_L_hit_0 ⟨B.exec, B.bytes, B.returns, hml, findClass_of_methodNamed B.named, fun w h => hts0 w (List.mem_cons_of_mem _ h), B.notSynchronized, hK, fun q h => Or.inr h⟩ x1 u s.heap [] ls hP hD0 va_S.rf hl hM
section
variable {p : Program} {l : Launch} {e : Env} {s : State} {m : MethodId} {args : Array Value} {below : List Frame} {meth : Method} {c : Code} {D : va_G} {cI cJ cZ : ClassId} {A : Nat → Prop} {ad : Nat → Nat}
set_option maxHeartbeats 4000000 in
set_option maxRecDepth 100000 in
theorem w_L_due_0 {res : (Int64 × Lib)} (C : Cx p s m args meth c prog_1_method_10_code 2 (Option.some FieldType.long) "PlainLibrary" tb D cl9 (tyy cI cJ cZ) A) (x1 : Int32) (u : Lib) (H : Heap) (locs : List Loc) (ls : Array Slot) (hP : va_P D cl9 ((cL cI cJ cZ ad) u) H) (hD : va_D A ((cL cI cJ cZ ad) u)) (hS : va_S A s.heap H locs) (hl : lv_has ls 2 [(0, .ref (ad 0)), (1, .int x1)]) (hM : B_L_due_0 x1 u = some res) : W p l e rm_L_due s m args below meth c H locs 0 0 (MQ below (Qwl D cl9 (tyy cI cJ cZ) (cL cI cJ cZ ad) A res) args s 0 0 A) (F0 m 0 ls []) := by
  have C0 := C
  obtain ⟨hx, hb, hr, hml, hown, hts, hlocks, hK, hA⟩ := C
  replace C := C0
  unfold B_L_due_0 at hM
  refine lv_iload_n hx hb d_L_due_0 rfl (lv_at hl 1 rfl) ?_
  refine lv_i2l (v := x1.toInt64) hx hb d_L_due_1 rfl ?_
  obtain ⟨v1, hq1, hM⟩ := bd_some hM
  refine fr_i (res := v1) (va_runS (As := [.long (x1.toInt64)]) (rest := []) ⟨hx, hb, hml, hown, hts⟩ (c_L_isNumber l D cI cJ cZ H.size (x1.toInt64) v1 hq1) (va_cwS 1 hts (gS mm_124 mm_125 mm_27 mm_126) rfl rfl rfl hs_L_isNumber ⟨Nat.le_of_ble_eq_true rfl, Nat.le_of_ble_eq_true rfl⟩) (ps_ (F := nW) (u := ()) hK nP (nD (A := fun _ => True))) rfl rfl hl.1 rfl (lv_room (Nat.le_of_ble_eq_true rfl)) d_L_due_2 ⟨Nat.le_of_ble_eq_true rfl, Nat.le_of_ble_eq_true rfl⟩) hP hS hA (fun H locs hP hS => ?_)
  refine lv_if_ne (tgt := 12) hx hb d_L_due_5 (by decide) (fun c2 => ?_) (fun c2 => ?_)
  · replace hM := it_f c2 hM
    refine lv_aload_n hx hb d_L_due_12 rfl (lv_at hl 0 rfl) ?_
    obtain ⟨v3, hq3, hM⟩ := bd_some hM
    refine fw_v (F := (cL cI cJ cZ ad)) (u := u) (res := v3) (va_runV (As := []) (rest := []) ⟨hx, hb, hml, hown, hts⟩ (c_L_performAll l D cI cJ cZ ad H.size u v3 hq3) (cwV 0 hts (gV mm_265 mm_267 (ms_ 11 rfl rfl) mm_27 mm_268) rfl rfl rfl hd_L_performAll ⟨Nat.le_of_ble_eq_true rfl, Nat.le_of_ble_eq_true rfl⟩) (pv_ (F := (cL cI cJ cZ ad)) (u := u) hK hP hD (va_recv hK hP (ci := 2) (q0 := 0) rfl rfl)) rfl rfl hl.1 rfl (lv_room (Nat.le_of_ble_eq_true rfl)) d_L_due_13 ⟨Nat.le_of_ble_eq_true rfl, Nat.le_of_ble_eq_true rfl⟩) hS (fa_ hD hS hA) (fun H locs hP hD hS => ?_)
    refine lv_aload_n hx hb d_L_due_16 rfl (lv_at hl 0 rfl) ?_
    refine va_get (D := D) (ci := 2) (v := .ref (ad 6)) (C := R_L) (T := T_L) (N := 4) hx hb hts in_L hown hK hP 0 rfl rfl 1 (by decide) (hts _ mm_101) (fun _ h9 => h9) rfl d_L_due_17 ?_
    refine lv_iload_n hx hb d_L_due_20 rfl (lv_at hl 1 rfl) ?_
    obtain ⟨v4, hq4, hM⟩ := bd_some hM
    refine fr_l (res := v4) (va_runV (As := [.int x1]) (rest := []) ⟨hx, hb, hml, hown, hts⟩ (c_S_dueDayOf l D cI cJ cZ ad H.size x1 v3 v4 hq4) (cwV 1 hts (gV mm_287 mm_288 mm_289 mm_29 mm_290) rfl rfl rfl hd_S_dueDayOf ⟨Nat.le_of_ble_eq_true rfl, Nat.le_of_ble_eq_true rfl⟩) (pv_ (F := (cL cI cJ cZ ad)) (u := v3) hK hP hD (va_recv hK hP (ci := 1) (q0 := 6) rfl rfl)) rfl rfl hl.1 rfl (lv_room (Nat.le_of_ble_eq_true rfl)) d_L_due_21 ⟨Nat.le_of_ble_eq_true rfl, Nat.le_of_ble_eq_true rfl⟩) hP hS hA (fun H locs hP hS => ?_)
    obtain rfl := Option.some.inj hM
    exact W.lret (v := v4) hx hb hr (fun t ht hW => ⟨⟨v4, v3, rfl, rfl, by rw [ht]; exact hP, va_K.moved hW.alike hK, hD⟩, hS.F ht⟩) hS.2.2 d_L_due_24
  · replace hM := it_t c2 hM
    refine lv_ldc2 (v := (-1 : Int64)) hx hb hown (hts _ mm_286) d_L_due_8 ?_
    obtain rfl := Option.some.inj hM
    exact W.lret (v := (-1 : Int64)) hx hb hr (fun t ht hW => ⟨⟨(-1 : Int64), u, rfl, rfl, by rw [ht]; exact hP, va_K.moved hW.alike hK, hD⟩, hS.F ht⟩) hS.2.2 d_L_due_11
end
set_option maxRecDepth 100000 in
theorem c_L_due (l : Launch) (D : va_G) (cI cJ cZ : ClassId) (ad : Nat → Nat) (sz : Nat) (x1 : Int32) (u : Lib) (res : (Int64 × Lib)) (hM : B_L_due_0 x1 u = some res) : Met l y_L_due ws_L_due rm_L_due (va_Pc [.ref (ad 0), .int x1] (pr_ D cl9 (tyy cI cJ cZ) (cL cI cJ cZ ad) u sz)) (Qwl D cl9 (tyy cI cJ cZ) (cL cI cJ cZ ad) (va_A ((cL cI cJ cZ ad) u) sz) res) 0 0 (va_A ((cL cI cJ cZ ad) u) sz) := by
  refine Met.ofW (cc := prog_1_method_10_code) (maxL := 2) (ret := (Option.some FieldType.long)) (by decide) rfl ?_
  intro p e s m args below meth c s₁ B hml hv
  obtain ⟨rfl, hsz, hP, hK, hD0⟩ := hv
  subst hsz
  have hts0 := atoms_spec (ws := ws_L_due) B.pre
  have hl := lv_entry ([.ref (ad 0), .int x1]) (n := 2) (Nat.le_of_ble_eq_true rfl)
  rw [lg_entry_eq]
  generalize (lg_sl ([.ref (ad 0), .int x1]) ++ List.replicate (2 - (lg_sl ([.ref (ad 0), .int x1])).length) Slot.unset).toArray = ls at hl ⊢
  exact w_L_due_0 ⟨B.exec, B.bytes, B.returns, hml, findClass_of_methodNamed B.named, fun w h => hts0 w (List.mem_cons_of_mem _ h), B.notSynchronized, hK, fun q h => Or.inr h⟩ x1 u s.heap [] ls hP hD0.self va_S.rf hl hM
section
variable {p : Program} {l : Launch} {e : Env} {s : State} {m : MethodId} {args : Array Value} {below : List Frame} {meth : Method} {c : Code} {D : va_G} {cI cJ cZ : ClassId} {A : Nat → Prop} {ad : Nat → Nat}
set_option maxHeartbeats 4000000 in
set_option maxRecDepth 100000 in
theorem w_L_queue_0 {res : (Int32 × Lib)} (C : Cx p s m args meth c prog_1_method_11_code 3 (Option.some FieldType.int) "PlainLibrary" tb D cl9 (tyy cI cJ cZ) A) (x1 : Int32) (x2 : Int32) (u : Lib) (H : Heap) (locs : List Loc) (ls : Array Slot) (hP : va_P D cl9 ((cL cI cJ cZ ad) u) H) (hD : va_D A ((cL cI cJ cZ ad) u)) (hS : va_S A s.heap H locs) (hl : lv_has ls 3 [(0, .ref (ad 0)), (1, .int x1), (2, .int x2)]) (hM : B_L_queue_0 x1 x2 u = some res) : W p l e rm_L_queue s m args below meth c H locs 0 0 (MQ below (Qwi D cl9 (tyy cI cJ cZ) (cL cI cJ cZ ad) A res) args s 0 0 A) (F0 m 0 ls []) := by
  have C0 := C
  obtain ⟨hx, hb, hr, hml, hown, hts, hlocks, hK, hA⟩ := C
  replace C := C0
  unfold B_L_queue_0 at hM
  refine lv_iload_n hx hb d_L_queue_0 rfl (lv_at hl 1 rfl) ?_
  refine lv_i2l (v := x1.toInt64) hx hb d_L_queue_1 rfl ?_
  obtain ⟨v1, hq1, hM⟩ := bd_some hM
  refine fr_i (res := v1) (va_runS (As := [.long (x1.toInt64)]) (rest := []) ⟨hx, hb, hml, hown, hts⟩ (c_L_isNumber l D cI cJ cZ H.size (x1.toInt64) v1 hq1) (va_cwS 1 hts (gS mm_124 mm_125 mm_27 mm_126) rfl rfl rfl hs_L_isNumber ⟨Nat.le_of_ble_eq_true rfl, Nat.le_of_ble_eq_true rfl⟩) (ps_ (F := nW) (u := ()) hK nP (nD (A := fun _ => True))) rfl rfl hl.1 rfl (lv_room (Nat.le_of_ble_eq_true rfl)) d_L_queue_2 ⟨Nat.le_of_ble_eq_true rfl, Nat.le_of_ble_eq_true rfl⟩) hP hS hA (fun H locs hP hS => ?_)
  refine lv_if_eq (tgt := 12) hx hb d_L_queue_5 (by decide) (fun c2 => ?_) (fun c2 => ?_)
  · replace hM := it_t c2 hM
    refine lv_iconst (v := (-1 : Int32)) hx hb d_L_queue_12 (by decide) ?_
    obtain rfl := Option.some.inj hM
    exact W.iret (v := (-1 : Int32)) hx hb hr (fun t ht hW => ⟨⟨(-1 : Int32), u, rfl, rfl, by rw [ht]; exact hP, va_K.moved hW.alike hK, hD⟩, hS.F ht⟩) hS.2.2 d_L_queue_13
  · replace hM := it_f c2 hM
    refine lv_iload_n hx hb d_L_queue_8 rfl (lv_at hl 2 rfl) ?_
    refine lv_if_ge (tgt := 14) hx hb d_L_queue_9 (by decide) (fun c3 => ?_) (fun c3 => ?_)
    · replace hM := it_t c3 hM
      refine lv_aload_n hx hb d_L_queue_14 rfl (lv_at hl 0 rfl) ?_
      obtain ⟨v4, hq4, hM⟩ := bd_some hM
      refine fw_v (F := (cL cI cJ cZ ad)) (u := u) (res := v4) (va_runV (As := []) (rest := []) ⟨hx, hb, hml, hown, hts⟩ (c_L_performAll l D cI cJ cZ ad H.size u v4 hq4) (cwV 0 hts (gV mm_265 mm_267 (ms_ 11 rfl rfl) mm_27 mm_268) rfl rfl rfl hd_L_performAll ⟨Nat.le_of_ble_eq_true rfl, Nat.le_of_ble_eq_true rfl⟩) (pv_ (F := (cL cI cJ cZ ad)) (u := u) hK hP hD (va_recv hK hP (ci := 2) (q0 := 0) rfl rfl)) rfl rfl hl.1 rfl (lv_room (Nat.le_of_ble_eq_true rfl)) d_L_queue_15 ⟨Nat.le_of_ble_eq_true rfl, Nat.le_of_ble_eq_true rfl⟩) hS (fa_ hD hS hA) (fun H locs hP hD hS => ?_)
      refine lv_aload_n hx hb d_L_queue_18 rfl (lv_at hl 0 rfl) ?_
      refine va_get (D := D) (ci := 2) (v := .ref (ad 6)) (C := R_L) (T := T_L) (N := 4) hx hb hts in_L hown hK hP 0 rfl rfl 1 (by decide) (hts _ mm_101) (fun _ h9 => h9) rfl d_L_queue_19 ?_
      refine lv_iload_n hx hb d_L_queue_22 rfl (lv_at hl 1 rfl) ?_
      refine lv_iload_n hx hb d_L_queue_23 rfl (lv_at hl 2 rfl) ?_
      obtain ⟨v5, hq5, hM⟩ := bd_some hM
      refine fr_i (res := v5) (va_runV (As := [.int x1, .int x2]) (rest := []) ⟨hx, hb, hml, hown, hts⟩ (c_S_personAt l D cI cJ cZ ad H.size x1 x2 v4 v5 hq5) (cwV 2 hts (gV mm_295 mm_197 mm_198 mm_29 mm_199) rfl rfl rfl hd_S_personAt ⟨Nat.le_of_ble_eq_true rfl, Nat.le_of_ble_eq_true rfl⟩) (pv_ (F := (cL cI cJ cZ ad)) (u := v4) hK hP hD (va_recv hK hP (ci := 1) (q0 := 6) rfl rfl)) rfl rfl hl.1 rfl (lv_room (Nat.le_of_ble_eq_true rfl)) d_L_queue_24 ⟨Nat.le_of_ble_eq_true rfl, Nat.le_of_ble_eq_true rfl⟩) hP hS hA (fun H locs hP hS => ?_)
      obtain rfl := Option.some.inj hM
      exact W.iret (v := v5) hx hb hr (fun t ht hW => ⟨⟨v5, v4, rfl, rfl, by rw [ht]; exact hP, va_K.moved hW.alike hK, hD⟩, hS.F ht⟩) hS.2.2 d_L_queue_27
    · replace hM := it_f c3 hM
      refine lv_iconst (v := (-1 : Int32)) hx hb d_L_queue_12 (by decide) ?_
      obtain rfl := Option.some.inj hM
      exact W.iret (v := (-1 : Int32)) hx hb hr (fun t ht hW => ⟨⟨(-1 : Int32), u, rfl, rfl, by rw [ht]; exact hP, va_K.moved hW.alike hK, hD⟩, hS.F ht⟩) hS.2.2 d_L_queue_13
end
set_option maxRecDepth 100000 in
theorem c_L_queue (l : Launch) (D : va_G) (cI cJ cZ : ClassId) (ad : Nat → Nat) (sz : Nat) (x1 : Int32) (x2 : Int32) (u : Lib) (res : (Int32 × Lib)) (hM : B_L_queue_0 x1 x2 u = some res) : Met l y_L_queue ws_L_queue rm_L_queue (va_Pc [.ref (ad 0), .int x1, .int x2] (pr_ D cl9 (tyy cI cJ cZ) (cL cI cJ cZ ad) u sz)) (Qwi D cl9 (tyy cI cJ cZ) (cL cI cJ cZ ad) (va_A ((cL cI cJ cZ ad) u) sz) res) 0 0 (va_A ((cL cI cJ cZ ad) u) sz) := by
  refine Met.ofW (cc := prog_1_method_11_code) (maxL := 3) (ret := (Option.some FieldType.int)) (by decide) rfl ?_
  intro p e s m args below meth c s₁ B hml hv
  obtain ⟨rfl, hsz, hP, hK, hD0⟩ := hv
  subst hsz
  have hts0 := atoms_spec (ws := ws_L_queue) B.pre
  have hl := lv_entry ([.ref (ad 0), .int x1, .int x2]) (n := 3) (Nat.le_of_ble_eq_true rfl)
  rw [lg_entry_eq]
  generalize (lg_sl ([.ref (ad 0), .int x1, .int x2]) ++ List.replicate (3 - (lg_sl ([.ref (ad 0), .int x1, .int x2])).length) Slot.unset).toArray = ls at hl ⊢
  exact w_L_queue_0 ⟨B.exec, B.bytes, B.returns, hml, findClass_of_methodNamed B.named, fun w h => hts0 w (List.mem_cons_of_mem _ h), B.notSynchronized, hK, fun q h => Or.inr h⟩ x1 x2 u s.heap [] ls hP hD0.self va_S.rf hl hM
section
variable {p : Program} {l : Launch} {e : Env} {s : State} {m : MethodId} {args : Array Value} {below : List Frame} {meth : Method} {c : Code} {D : va_G} {cI cJ cZ : ClassId} {A : Nat → Prop} {ad : Nat → Nat}
set_option maxHeartbeats 4000000 in
set_option maxRecDepth 100000 in
theorem w_L_poll_0 {res : (Int32 × Lib)} (C : Cx p s m args meth c prog_1_method_12_code 2 (Option.some FieldType.int) "PlainLibrary" tb D cl9 (tyy cI cJ cZ) A) (x1 : Int32) (u : Lib) (H : Heap) (locs : List Loc) (ls : Array Slot) (hP : va_P D cl9 ((cL cI cJ cZ ad) u) H) (hD : va_D A ((cL cI cJ cZ ad) u)) (hS : va_S A s.heap H locs) (hl : lv_has ls 2 [(0, .ref (ad 0)), (1, .int x1)]) (hM : B_L_poll_0 x1 u = some res) : W p l e rm_L_poll s m args below meth c H locs 0 0 (MQ below (Qwi D cl9 (tyy cI cJ cZ) (cL cI cJ cZ ad) A res) args s 0 0 A) (F0 m 0 ls []) := by
  have C0 := C
  obtain ⟨hx, hb, hr, hml, hown, hts, hlocks, hK, hA⟩ := C
  replace C := C0
  unfold B_L_poll_0 at hM
  refine lv_iload_n hx hb d_L_poll_0 rfl (lv_at hl 1 rfl) ?_
  refine lv_i2l (v := x1.toInt64) hx hb d_L_poll_1 rfl ?_
  obtain ⟨v1, hq1, hM⟩ := bd_some hM
  refine fr_i (res := v1) (va_runS (As := [.long (x1.toInt64)]) (rest := []) ⟨hx, hb, hml, hown, hts⟩ (c_L_isNumber l D cI cJ cZ H.size (x1.toInt64) v1 hq1) (va_cwS 1 hts (gS mm_124 mm_125 mm_27 mm_126) rfl rfl rfl hs_L_isNumber ⟨Nat.le_of_ble_eq_true rfl, Nat.le_of_ble_eq_true rfl⟩) (ps_ (F := nW) (u := ()) hK nP (nD (A := fun _ => True))) rfl rfl hl.1 rfl (lv_room (Nat.le_of_ble_eq_true rfl)) d_L_poll_2 ⟨Nat.le_of_ble_eq_true rfl, Nat.le_of_ble_eq_true rfl⟩) hP hS hA (fun H locs hP hS => ?_)
  refine lv_if_ne (tgt := 10) hx hb d_L_poll_5 (by decide) (fun c2 => ?_) (fun c2 => ?_)
  · replace hM := it_f c2 hM
    refine lv_aload_n hx hb d_L_poll_10 rfl (lv_at hl 0 rfl) ?_
    obtain ⟨v3, hq3, hM⟩ := bd_some hM
    refine fw_v (F := (cL cI cJ cZ ad)) (u := u) (res := v3) (va_runV (As := []) (rest := []) ⟨hx, hb, hml, hown, hts⟩ (c_L_performAll l D cI cJ cZ ad H.size u v3 hq3) (cwV 0 hts (gV mm_265 mm_267 (ms_ 11 rfl rfl) mm_27 mm_268) rfl rfl rfl hd_L_performAll ⟨Nat.le_of_ble_eq_true rfl, Nat.le_of_ble_eq_true rfl⟩) (pv_ (F := (cL cI cJ cZ ad)) (u := u) hK hP hD (va_recv hK hP (ci := 2) (q0 := 0) rfl rfl)) rfl rfl hl.1 rfl (lv_room (Nat.le_of_ble_eq_true rfl)) d_L_poll_11 ⟨Nat.le_of_ble_eq_true rfl, Nat.le_of_ble_eq_true rfl⟩) hS (fa_ hD hS hA) (fun H locs hP hD hS => ?_)
    refine lv_aload_n hx hb d_L_poll_14 rfl (lv_at hl 0 rfl) ?_
    refine va_get (D := D) (ci := 2) (v := .ref (ad 6)) (C := R_L) (T := T_L) (N := 4) hx hb hts in_L hown hK hP 0 rfl rfl 1 (by decide) (hts _ mm_101) (fun _ h9 => h9) rfl d_L_poll_15 ?_
    refine lv_iload_n hx hb d_L_poll_18 rfl (lv_at hl 1 rfl) ?_
    obtain ⟨v4, hq4, hM⟩ := bd_some hM
    refine fr_i (res := v4) (va_runV (As := [.int x1]) (rest := []) ⟨hx, hb, hml, hown, hts⟩ (c_S_commonSumOf l D cI cJ cZ ad H.size x1 v3 v4 hq4) (cwV 1 hts (gV mm_300 mm_301 mm_302 mm_29 mm_303) rfl rfl rfl hd_S_commonSumOf ⟨Nat.le_of_ble_eq_true rfl, Nat.le_of_ble_eq_true rfl⟩) (pv_ (F := (cL cI cJ cZ ad)) (u := v3) hK hP hD (va_recv hK hP (ci := 1) (q0 := 6) rfl rfl)) rfl rfl hl.1 rfl (lv_room (Nat.le_of_ble_eq_true rfl)) d_L_poll_19 ⟨Nat.le_of_ble_eq_true rfl, Nat.le_of_ble_eq_true rfl⟩) hP hS hA (fun H locs hP hS => ?_)
    obtain rfl := Option.some.inj hM
    exact W.iret (v := v4) hx hb hr (fun t ht hW => ⟨⟨v4, v3, rfl, rfl, by rw [ht]; exact hP, va_K.moved hW.alike hK, hD⟩, hS.F ht⟩) hS.2.2 d_L_poll_22
  · replace hM := it_t c2 hM
    refine lv_iconst (v := (-1 : Int32)) hx hb d_L_poll_8 (by decide) ?_
    obtain rfl := Option.some.inj hM
    exact W.iret (v := (-1 : Int32)) hx hb hr (fun t ht hW => ⟨⟨(-1 : Int32), u, rfl, rfl, by rw [ht]; exact hP, va_K.moved hW.alike hK, hD⟩, hS.F ht⟩) hS.2.2 d_L_poll_9
end
set_option maxRecDepth 100000 in
theorem c_L_poll (l : Launch) (D : va_G) (cI cJ cZ : ClassId) (ad : Nat → Nat) (sz : Nat) (x1 : Int32) (u : Lib) (res : (Int32 × Lib)) (hM : B_L_poll_0 x1 u = some res) : Met l y_L_poll ws_L_poll rm_L_poll (va_Pc [.ref (ad 0), .int x1] (pr_ D cl9 (tyy cI cJ cZ) (cL cI cJ cZ ad) u sz)) (Qwi D cl9 (tyy cI cJ cZ) (cL cI cJ cZ ad) (va_A ((cL cI cJ cZ ad) u) sz) res) 0 0 (va_A ((cL cI cJ cZ ad) u) sz) := by
  refine Met.ofW (cc := prog_1_method_12_code) (maxL := 2) (ret := (Option.some FieldType.int)) (by decide) rfl ?_
  intro p e s m args below meth c s₁ B hml hv
  obtain ⟨rfl, hsz, hP, hK, hD0⟩ := hv
  subst hsz
  have hts0 := atoms_spec (ws := ws_L_poll) B.pre
  have hl := lv_entry ([.ref (ad 0), .int x1]) (n := 2) (Nat.le_of_ble_eq_true rfl)
  rw [lg_entry_eq]
  generalize (lg_sl ([.ref (ad 0), .int x1]) ++ List.replicate (2 - (lg_sl ([.ref (ad 0), .int x1])).length) Slot.unset).toArray = ls at hl ⊢
  exact w_L_poll_0 ⟨B.exec, B.bytes, B.returns, hml, findClass_of_methodNamed B.named, fun w h => hts0 w (List.mem_cons_of_mem _ h), B.notSynchronized, hK, fun q h => Or.inr h⟩ x1 u s.heap [] ls hP hD0.self va_S.rf hl hM
section
variable {p : Program} {l : Launch} {e : Env} {s : State} {m : MethodId} {args : Array Value} {below : List Frame} {meth : Method} {c : Code} {D : va_G} {cI cJ cZ : ClassId} {A : Nat → Prop} {ad : Nat → Nat}
set_option maxHeartbeats 4000000 in
set_option maxRecDepth 100000 in
theorem w_L_kept_131 {k27 : Int32 → Int32 → Int64 → Int32 → Int32 → Int32 → Lib → Option (Int32 × Lib)} {res : (Int32 × Lib)} (C : Cx p s m args meth c prog_1_method_13_code 11 (Option.some FieldType.int) "PlainLibrary" tb D cl9 (tyy cI cJ cZ) A) (hk27 : ∀ (x1 : Int32) (x2 : Int32) (y3 : Int64) (x5 : Int32) (x6 : Int32) (x7 : Int32) (u : Lib) (H : Heap) (locs : List Loc) (ls : Array Slot), va_P D cl9 ((cL cI cJ cZ ad) u) H → va_D A ((cL cI cJ cZ ad) u) → va_S A s.heap H locs → lv_has ls 11 [(0, .ref (ad 0)), (1, .int x1), (2, .int x2), (3, .long y3), (5, .int x5), (6, .int x6), (7, .int x7)] → k27 x1 x2 y3 x5 x6 x7 u = some res → W p l e rm_L_kept s m args below meth c H locs 0 0 (MQ below (Qwi D cl9 (tyy cI cJ cZ) (cL cI cJ cZ ad) A res) args s 0 0 A) (F0 m 27 ls [])) (x1 : Int32) (x2 : Int32) (y3 : Int64) (x5 : Int32) (x6 : Int32) (x7 : Int32) (u : Lib) (H : Heap) (locs : List Loc) (ls : Array Slot) (hP : va_P D cl9 ((cL cI cJ cZ ad) u) H) (hD : va_D A ((cL cI cJ cZ ad) u)) (hS : va_S A s.heap H locs) (hl : lv_has ls 11 [(0, .ref (ad 0)), (1, .int x1), (2, .int x2), (3, .long y3), (5, .int x5), (6, .int x6), (7, .int x7)]) (hM : B_L_kept_131 k27 x1 x2 y3 x5 x6 x7 u = some res) : W p l e rm_L_kept s m args below meth c H locs 0 0 (MQ below (Qwi D cl9 (tyy cI cJ cZ) (cL cI cJ cZ ad) A res) args s 0 0 A) (F0 m 131 ls []) := by
  have C0 := C
  obtain ⟨hx, hb, hr, hml, hown, hts, hlocks, hK, hA⟩ := C
  replace C := C0
  unfold B_L_kept_131 at hM
  refine lv_iinc (v := (x7 + (1 : Int32))) (lv' := [(7, .int (x7 + (1 : Int32))), (0, .ref (ad 0)), (1, .int x1), (2, .int x2), (3, .long y3), (5, .int x5), (6, .int x6)]) hx hb d_L_kept_131 hl (k := 6) rfl rfl (by decide) rfl (fun ls hl => ?_)
  refine lv_goto (tgt := 27) hx hb d_L_kept_134 (by decide) ?_
  exact hk27 x1 x2 y3 x5 x6 (x7 + (1 : Int32)) u H locs ls hP hD hS (lv_sub hl [1, 2, 3, 4, 5, 6, 0] rfl) hM
set_option maxHeartbeats 4000000 in
set_option maxRecDepth 100000 in
theorem w_L_kept_74 {k27 : Int32 → Int32 → Int64 → Int32 → Int32 → Int32 → Lib → Option (Int32 × Lib)} {res : (Int32 × Lib)} (C : Cx p s m args meth c prog_1_method_13_code 11 (Option.some FieldType.int) "PlainLibrary" tb D cl9 (tyy cI cJ cZ) A) (hk27 : ∀ (x1 : Int32) (x2 : Int32) (y3 : Int64) (x5 : Int32) (x6 : Int32) (x7 : Int32) (u : Lib) (H : Heap) (locs : List Loc) (ls : Array Slot), va_P D cl9 ((cL cI cJ cZ ad) u) H → va_D A ((cL cI cJ cZ ad) u) → va_S A s.heap H locs → lv_has ls 11 [(0, .ref (ad 0)), (1, .int x1), (2, .int x2), (3, .long y3), (5, .int x5), (6, .int x6), (7, .int x7)] → k27 x1 x2 y3 x5 x6 x7 u = some res → W p l e rm_L_kept s m args below meth c H locs 0 0 (MQ below (Qwi D cl9 (tyy cI cJ cZ) (cL cI cJ cZ ad) A res) args s 0 0 A) (F0 m 27 ls [])) (x1 : Int32) (x2 : Int32) (y3 : Int64) (x5 : Int32) (x6 : Int32) (x7 : Int32) (x8 : Int32) (t0 : Int32) (u : Lib) (H : Heap) (locs : List Loc) (ls : Array Slot) (hP : va_P D cl9 ((cL cI cJ cZ ad) u) H) (hD : va_D A ((cL cI cJ cZ ad) u)) (hS : va_S A s.heap H locs) (hl : lv_has ls 11 [(0, .ref (ad 0)), (1, .int x1), (2, .int x2), (3, .long y3), (5, .int x5), (6, .int x6), (7, .int x7), (8, .int x8)]) (hM : B_L_kept_74 k27 x1 x2 y3 x5 x6 x7 x8 t0 u = some res) : W p l e rm_L_kept s m args below meth c H locs 0 0 (MQ below (Qwi D cl9 (tyy cI cJ cZ) (cL cI cJ cZ ad) A res) args s 0 0 A) (F0 m 74 ls [.int t0]) := by
  have C0 := C
  obtain ⟨hx, hb, hr, hml, hown, hts, hlocks, hK, hA⟩ := C
  replace C := C0
  unfold B_L_kept_74 at hM
  refine lv_istore (lv' := [(9, .int t0), (0, .ref (ad 0)), (1, .int x1), (2, .int x2), (3, .long y3), (5, .int x5), (6, .int x6), (7, .int x7), (8, .int x8)]) hx hb d_L_kept_74 hl (by decide) rfl (fun ls hl => ?_)
  refine lv_aload_n hx hb d_L_kept_76 rfl (lv_at hl 1 rfl) ?_
  refine va_get (D := D) (ci := 2) (v := .ref (ad 1)) (C := R_L) (T := T_L) (N := 4) hx hb hts in_L hown hK hP 0 rfl rfl 0 (by decide) (hts _ mm_100) (fun _ h9 => h9) rfl d_L_kept_77 ?_
  refine lv_iload hx hb d_L_kept_80 (lv_at hl 7 rfl) ?_
  refine lv_aload_n hx hb d_L_kept_82 rfl (lv_at hl 1 rfl) ?_
  refine va_get (D := D) (ci := 2) (v := .ref (ad 6)) (C := R_L) (T := T_L) (N := 4) hx hb hts in_L hown hK hP 0 rfl rfl 1 (by decide) (hts _ mm_101) (fun _ h9 => h9) rfl d_L_kept_83 ?_
  obtain ⟨v1, hq1, hM⟩ := bd_some hM
  refine fw_i (F := (cL cI cJ cZ ad)) (u := u) (res := v1) (va_runV (As := [.int x7, .ref (ad 6)]) (rest := []) ⟨hx, hb, hml, hown, hts⟩ (c_R_perform l D cI cJ cZ ad H.size x7 u v1 hq1) (cwV 2 hts (gV mm_161 mm_162 mm_163 mm_28 mm_164) rfl rfl rfl hd_R_perform ⟨Nat.le_of_ble_eq_true rfl, Nat.le_of_ble_eq_true rfl⟩) (pv_ (F := (cL cI cJ cZ ad)) (u := u) hK hP hD (va_recv hK hP (ci := 0) (q0 := 1) rfl rfl)) rfl rfl hl.1 rfl (lv_room (Nat.le_of_ble_eq_true rfl)) d_L_kept_86 ⟨Nat.le_of_ble_eq_true rfl, Nat.le_of_ble_eq_true rfl⟩) hS (fa_ hD hS hA) (fun H locs hP hD hS => ?_)
  refine lv_istore (lv' := [(10, .int v1.1), (9, .int t0), (0, .ref (ad 0)), (1, .int x1), (2, .int x2), (3, .long y3), (5, .int x5), (6, .int x6), (7, .int x7), (8, .int x8)]) hx hb d_L_kept_89 hl (by decide) rfl (fun ls hl => ?_)
  refine lv_iload hx hb d_L_kept_91 (lv_at hl 1 rfl) ?_
  refine lv_if_eq (tgt := 131) hx hb d_L_kept_93 (by decide) (fun c2 => ?_) (fun c2 => ?_)
  · replace hM := it_t c2 hM
    exact w_L_kept_131 C hk27 x1 x2 y3 x5 x6 x7 v1.2 H locs ls hP hD hS (lv_sub hl [2, 3, 4, 5, 6, 7, 8] rfl) hM
  · replace hM := it_f c2 hM
    refine lv_iload hx hb d_L_kept_96 (lv_at hl 0 rfl) ?_
    refine lv_if_eq (tgt := 131) hx hb d_L_kept_98 (by decide) (fun c3 => ?_) (fun c3 => ?_)
    · replace hM := it_t c3 hM
      exact w_L_kept_131 C hk27 x1 x2 y3 x5 x6 x7 v1.2 H locs ls hP hD hS (lv_sub hl [2, 3, 4, 5, 6, 7, 8] rfl) hM
    · replace hM := it_f c3 hM
      refine lv_aload_n hx hb d_L_kept_101 rfl (lv_at hl 2 rfl) ?_
      refine va_get (D := D) (ci := 2) (v := .ref (ad 1)) (C := R_L) (T := T_L) (N := 4) hx hb hts in_L hown hK hP 0 rfl rfl 0 (by decide) (hts _ mm_100) (fun _ h9 => h9) rfl d_L_kept_102 ?_
      refine lv_iload hx hb d_L_kept_105 (lv_at hl 8 rfl) ?_
      obtain ⟨v4, hq4, hM⟩ := bd_some hM
      refine fr_l (res := v4) (va_runV (As := [.int x7]) (rest := []) ⟨hx, hb, hml, hown, hts⟩ (c_R_dayOf l D cI cJ cZ ad H.size x7 v1.2 v4 hq4) (cwV 1 hts (gV mm_241 mm_242 mm_243 mm_28 mm_244) rfl rfl rfl hd_R_dayOf ⟨Nat.le_of_ble_eq_true rfl, Nat.le_of_ble_eq_true rfl⟩) (pv_ (F := (cL cI cJ cZ ad)) (u := v1.2) hK hP hD (va_recv hK hP (ci := 0) (q0 := 1) rfl rfl)) rfl rfl hl.1 rfl (lv_room (Nat.le_of_ble_eq_true rfl)) d_L_kept_107 ⟨Nat.le_of_ble_eq_true rfl, Nat.le_of_ble_eq_true rfl⟩) hP hS hA (fun H locs hP hS => ?_)
      refine lv_iload hx hb d_L_kept_110 (lv_at hl 6 rfl) ?_
      refine lv_i2l (v := x5.toInt64) hx hb d_L_kept_112 rfl ?_
      refine lv_ladd hx hb d_L_kept_113 ?_
      refine lv_lload_n hx hb d_L_kept_114 rfl (lv_at hl 5 rfl) ?_
      refine W.lcmp hx hb d_L_kept_115 ?_
      refine lv_if_lt (tgt := 131) hx hb d_L_kept_116 (by decide) (fun c5 => ?_) (fun c5 => ?_)
      · replace hM := it_t c5 hM
        exact w_L_kept_131 C hk27 x1 x2 y3 x5 x6 x7 v1.2 H locs ls hP hD hS (lv_sub hl [2, 3, 4, 5, 6, 7, 8] rfl) hM
      · replace hM := it_f c5 hM
        refine lv_iload hx hb d_L_kept_119 (lv_at hl 7 rfl) ?_
        refine lv_iload_n hx hb d_L_kept_121 rfl (lv_at hl 4 rfl) ?_
        refine lv_icmp_ne (tgt := 128) hx hb d_L_kept_122 (by decide) (fun c6 => ?_) (fun c6 => ?_)
        · replace hM := it_f c6 hM
          refine lv_iinc (v := (x6 + (1 : Int32))) (lv' := [(6, .int (x6 + (1 : Int32))), (10, .int v1.1), (9, .int t0), (0, .ref (ad 0)), (1, .int x1), (2, .int x2), (3, .long y3), (5, .int x5), (7, .int x7), (8, .int x8)]) hx hb d_L_kept_128 hl (k := 7) rfl rfl (by decide) rfl (fun ls hl => ?_)
          exact w_L_kept_131 C hk27 x1 x2 y3 x5 (x6 + (1 : Int32)) x7 v1.2 H locs ls hP hD hS (lv_sub hl [3, 4, 5, 6, 7, 0, 8] rfl) hM
        · replace hM := it_t c6 hM
          refine lv_iload hx hb d_L_kept_125 (lv_at hl 9 rfl) ?_
          obtain rfl := Option.some.inj hM
          exact W.iret (v := x8) hx hb hr (fun t ht hW => ⟨⟨x8, v1.2, rfl, rfl, by rw [ht]; exact hP, va_K.moved hW.alike hK, hD⟩, hS.F ht⟩) hS.2.2 d_L_kept_127
set_option maxHeartbeats 4000000 in
set_option maxRecDepth 100000 in
theorem w_L_kept_73 {k27 : Int32 → Int32 → Int64 → Int32 → Int32 → Int32 → Lib → Option (Int32 × Lib)} {res : (Int32 × Lib)} (C : Cx p s m args meth c prog_1_method_13_code 11 (Option.some FieldType.int) "PlainLibrary" tb D cl9 (tyy cI cJ cZ) A) (hk27 : ∀ (x1 : Int32) (x2 : Int32) (y3 : Int64) (x5 : Int32) (x6 : Int32) (x7 : Int32) (u : Lib) (H : Heap) (locs : List Loc) (ls : Array Slot), va_P D cl9 ((cL cI cJ cZ ad) u) H → va_D A ((cL cI cJ cZ ad) u) → va_S A s.heap H locs → lv_has ls 11 [(0, .ref (ad 0)), (1, .int x1), (2, .int x2), (3, .long y3), (5, .int x5), (6, .int x6), (7, .int x7)] → k27 x1 x2 y3 x5 x6 x7 u = some res → W p l e rm_L_kept s m args below meth c H locs 0 0 (MQ below (Qwi D cl9 (tyy cI cJ cZ) (cL cI cJ cZ ad) A res) args s 0 0 A) (F0 m 27 ls [])) (x1 : Int32) (x2 : Int32) (y3 : Int64) (x5 : Int32) (x6 : Int32) (x7 : Int32) (x8 : Int32) (u : Lib) (H : Heap) (locs : List Loc) (ls : Array Slot) (hP : va_P D cl9 ((cL cI cJ cZ ad) u) H) (hD : va_D A ((cL cI cJ cZ ad) u)) (hS : va_S A s.heap H locs) (hl : lv_has ls 11 [(0, .ref (ad 0)), (1, .int x1), (2, .int x2), (3, .long y3), (5, .int x5), (6, .int x6), (7, .int x7), (8, .int x8)]) (hM : B_L_kept_73 k27 x1 x2 y3 x5 x6 x7 x8 u = some res) : W p l e rm_L_kept s m args below meth c H locs 0 0 (MQ below (Qwi D cl9 (tyy cI cJ cZ) (cL cI cJ cZ ad) A res) args s 0 0 A) (F0 m 73 ls []) := by
  have C0 := C
  obtain ⟨hx, hb, hr, hml, hown, hts, hlocks, hK, hA⟩ := C
  replace C := C0
  unfold B_L_kept_73 at hM
  refine lv_iconst (v := (0 : Int32)) hx hb d_L_kept_73 (by decide) ?_
  exact w_L_kept_74 C hk27 x1 x2 y3 x5 x6 x7 x8 (0 : Int32) u H locs ls hP hD hS (lv_sub hl [0, 1, 2, 3, 4, 5, 6, 7] rfl) hM
set_option maxHeartbeats 4000000 in
set_option maxRecDepth 100000 in
theorem w_L_kept_27s {res : (Int32 × Lib)} (C : Cx p s m args meth c prog_1_method_13_code 11 (Option.some FieldType.int) "PlainLibrary" tb D cl9 (tyy cI cJ cZ) A) {k27 : Int32 → Int32 → Int64 → Int32 → Int32 → Int32 → Lib → Option (Int32 × Lib)} (hk27 : ∀ (x1 : Int32) (x2 : Int32) (y3 : Int64) (x5 : Int32) (x6 : Int32) (x7 : Int32) (u : Lib) (H : Heap) (locs : List Loc) (ls : Array Slot), va_P D cl9 ((cL cI cJ cZ ad) u) H → va_D A ((cL cI cJ cZ ad) u) → va_S A s.heap H locs → lv_has ls 11 [(0, .ref (ad 0)), (1, .int x1), (2, .int x2), (3, .long y3), (5, .int x5), (6, .int x6), (7, .int x7)] → k27 x1 x2 y3 x5 x6 x7 u = some res → W p l e rm_L_kept s m args below meth c H locs 0 0 (MQ below (Qwi D cl9 (tyy cI cJ cZ) (cL cI cJ cZ ad) A res) args s 0 0 A) (F0 m 27 ls [])) (x1 : Int32) (x2 : Int32) (y3 : Int64) (x5 : Int32) (x6 : Int32) (x7 : Int32) (u : Lib) (H : Heap) (locs : List Loc) (ls : Array Slot) (hP : va_P D cl9 ((cL cI cJ cZ ad) u) H) (hD : va_D A ((cL cI cJ cZ ad) u)) (hS : va_S A s.heap H locs) (hl : lv_has ls 11 [(0, .ref (ad 0)), (1, .int x1), (2, .int x2), (3, .long y3), (5, .int x5), (6, .int x6), (7, .int x7)]) (hM : B_L_kept_27s k27 x1 x2 y3 x5 x6 x7 u = some res) : W p l e rm_L_kept s m args below meth c H locs 0 0 (MQ below (Qwi D cl9 (tyy cI cJ cZ) (cL cI cJ cZ ad) A res) args s 0 0 A) (F0 m 27 ls []) := by
  have C0 := C
  obtain ⟨hx, hb, hr, hml, hown, hts, hlocks, hK, hA⟩ := C
  replace C := C0
  unfold B_L_kept_27s at hM
  refine lv_iload hx hb d_L_kept_27 (lv_at hl 6 rfl) ?_
  refine lv_aload_n hx hb d_L_kept_29 rfl (lv_at hl 0 rfl) ?_
  refine va_get (D := D) (ci := 2) (v := .ref (ad 1)) (C := R_L) (T := T_L) (N := 4) hx hb hts in_L hown hK hP 0 rfl rfl 0 (by decide) (hts _ mm_100) (fun _ h9 => h9) rfl d_L_kept_30 ?_
  obtain ⟨v1, hq1, hM⟩ := bd_some hM
  refine fr_i (res := v1) (va_runV (As := []) (rest := [.int x7]) ⟨hx, hb, hml, hown, hts⟩ (c_R_size l D cI cJ cZ ad H.size u v1 hq1) (cwV 0 hts (gV mm_143 mm_144 mm_145 mm_28 mm_146) rfl rfl rfl hd_R_size ⟨Nat.le_of_ble_eq_true rfl, Nat.le_of_ble_eq_true rfl⟩) (pv_ (F := (cL cI cJ cZ ad)) (u := u) hK hP hD (va_recv hK hP (ci := 0) (q0 := 1) rfl rfl)) rfl rfl hl.1 rfl (lv_room (Nat.le_of_ble_eq_true rfl)) d_L_kept_33 ⟨Nat.le_of_ble_eq_true rfl, Nat.le_of_ble_eq_true rfl⟩) hP hS hA (fun H locs hP hS => ?_)
  refine lv_icmp_ge (tgt := 137) hx hb d_L_kept_36 (by decide) (fun c2 => ?_) (fun c2 => ?_)
  · replace hM := it_t c2 hM
    refine lv_iconst (v := (-1 : Int32)) hx hb d_L_kept_137 (by decide) ?_
    obtain rfl := Option.some.inj hM
    exact W.iret (v := (-1 : Int32)) hx hb hr (fun t ht hW => ⟨⟨(-1 : Int32), u, rfl, rfl, by rw [ht]; exact hP, va_K.moved hW.alike hK, hD⟩, hS.F ht⟩) hS.2.2 d_L_kept_138
  · replace hM := it_f c2 hM
    refine lv_aload_n hx hb d_L_kept_39 rfl (lv_at hl 0 rfl) ?_
    refine va_get (D := D) (ci := 2) (v := .ref (ad 1)) (C := R_L) (T := T_L) (N := 4) hx hb hts in_L hown hK hP 0 rfl rfl 0 (by decide) (hts _ mm_100) (fun _ h9 => h9) rfl d_L_kept_40 ?_
    refine lv_iload hx hb d_L_kept_43 (lv_at hl 6 rfl) ?_
    obtain ⟨v3, hq3, hM⟩ := bd_some hM
    refine fr_i (res := v3) (va_runV (As := [.int x7]) (rest := []) ⟨hx, hb, hml, hown, hts⟩ (c_R_copyGivenBackBy l D cI cJ cZ ad H.size x7 u v3 hq3) (cwV 1 hts (gV mm_312 mm_313 mm_314 mm_28 mm_315) rfl rfl rfl hd_R_copyGivenBackBy ⟨Nat.le_of_ble_eq_true rfl, Nat.le_of_ble_eq_true rfl⟩) (pv_ (F := (cL cI cJ cZ ad)) (u := u) hK hP hD (va_recv hK hP (ci := 0) (q0 := 1) rfl rfl)) rfl rfl hl.1 rfl (lv_room (Nat.le_of_ble_eq_true rfl)) d_L_kept_45 ⟨Nat.le_of_ble_eq_true rfl, Nat.le_of_ble_eq_true rfl⟩) hP hS hA (fun H locs hP hS => ?_)
    refine lv_istore (lv' := [(8, .int v3), (0, .ref (ad 0)), (1, .int x1), (2, .int x2), (3, .long y3), (5, .int x5), (6, .int x6), (7, .int x7)]) hx hb d_L_kept_48 hl (by decide) rfl (fun ls hl => ?_)
    refine lv_iload hx hb d_L_kept_50 (lv_at hl 0 rfl) ?_
    refine lv_iconst (v := (-1 : Int32)) hx hb d_L_kept_52 (by decide) ?_
    refine lv_icmp_eq (tgt := 73) hx hb d_L_kept_53 (by decide) (fun c4 => ?_) (fun c4 => ?_)
    · replace hM := it_t c4 hM
      exact w_L_kept_73 C hk27 x1 x2 y3 x5 x6 x7 v3 u H locs ls hP hD hS (lv_sub hl [1, 2, 3, 4, 5, 6, 7, 0] rfl) hM
    · replace hM := it_f c4 hM
      refine lv_aload_n hx hb d_L_kept_56 rfl (lv_at hl 1 rfl) ?_
      refine va_get (D := D) (ci := 2) (v := .ref (ad 6)) (C := R_L) (T := T_L) (N := 4) hx hb hts in_L hown hK hP 0 rfl rfl 1 (by decide) (hts _ mm_101) (fun _ h9 => h9) rfl d_L_kept_57 ?_
      refine lv_iload hx hb d_L_kept_60 (lv_at hl 0 rfl) ?_
      obtain ⟨v5, hq5, hM⟩ := bd_some hM
      refine fr_i (res := v5) (va_runV (As := [.int v3]) (rest := []) ⟨hx, hb, hml, hown, hts⟩ (c_S_personWith l D cI cJ cZ ad H.size v3 u v5 hq5) (cwV 1 hts (gV mm_249 mm_250 mm_251 mm_29 mm_252) rfl rfl rfl hd_S_personWith ⟨Nat.le_of_ble_eq_true rfl, Nat.le_of_ble_eq_true rfl⟩) (pv_ (F := (cL cI cJ cZ ad)) (u := u) hK hP hD (va_recv hK hP (ci := 1) (q0 := 6) rfl rfl)) rfl rfl hl.1 rfl (lv_room (Nat.le_of_ble_eq_true rfl)) d_L_kept_62 ⟨Nat.le_of_ble_eq_true rfl, Nat.le_of_ble_eq_true rfl⟩) hP hS hA (fun H locs hP hS => ?_)
      refine lv_iload_n hx hb d_L_kept_65 rfl (lv_at hl 2 rfl) ?_
      refine lv_icmp_ne (tgt := 73) hx hb d_L_kept_66 (by decide) (fun c6 => ?_) (fun c6 => ?_)
      · replace hM := it_f c6 hM
        exact w_L_kept_73 C hk27 x1 x2 y3 x5 x6 x7 v3 u H locs ls hP hD hS (lv_sub hl [1, 2, 3, 4, 5, 6, 7, 0] rfl) hM
      · replace hM := it_t c6 hM
        refine lv_iconst (v := (1 : Int32)) hx hb d_L_kept_69 (by decide) ?_
        refine lv_goto (tgt := 74) hx hb d_L_kept_70 (by decide) ?_
        exact w_L_kept_74 C hk27 x1 x2 y3 x5 x6 x7 v3 (1 : Int32) u H locs ls hP hD hS (lv_sub hl [1, 2, 3, 4, 5, 6, 7, 0] rfl) hM
theorem w_L_kept_27 {res : (Int32 × Lib)} (C : Cx p s m args meth c prog_1_method_13_code 11 (Option.some FieldType.int) "PlainLibrary" tb D cl9 (tyy cI cJ cZ) A) : ∀ (fu : Nat) (x1 : Int32) (x2 : Int32) (y3 : Int64) (x5 : Int32) (x6 : Int32) (x7 : Int32) (u : Lib) (H : Heap) (locs : List Loc) (ls : Array Slot), va_P D cl9 ((cL cI cJ cZ ad) u) H → va_D A ((cL cI cJ cZ ad) u) → va_S A s.heap H locs → lv_has ls 11 [(0, .ref (ad 0)), (1, .int x1), (2, .int x2), (3, .long y3), (5, .int x5), (6, .int x6), (7, .int x7)] → B_L_kept_27 fu x1 x2 y3 x5 x6 x7 u = some res → W p l e rm_L_kept s m args below meth c H locs 0 0 (MQ below (Qwi D cl9 (tyy cI cJ cZ) (cL cI cJ cZ ad) A res) args s 0 0 A) (F0 m 27 ls []) := by
  intro fu
  induction fu with
  | zero =>
    intro x1 x2 y3 x5 x6 x7 u H locs ls hP hD hS hl hM
    have hM : (none : Option (Int32 × Lib)) = some res := hM
    cases hM
  | succ fu ih =>
    intro x1 x2 y3 x5 x6 x7 u H locs ls hP hD hS hl hM
    exact w_L_kept_27s C ih x1 x2 y3 x5 x6 x7 u H locs ls hP hD hS hl hM
set_option maxHeartbeats 4000000 in
set_option maxRecDepth 100000 in
theorem w_L_kept_0 {res : (Int32 × Lib)} (C : Cx p s m args meth c prog_1_method_13_code 11 (Option.some FieldType.int) "PlainLibrary" tb D cl9 (tyy cI cJ cZ) A) (x1 : Int32) (x2 : Int32) (y3 : Int64) (x5 : Int32) (u : Lib) (H : Heap) (locs : List Loc) (ls : Array Slot) (hP : va_P D cl9 ((cL cI cJ cZ ad) u) H) (hD : va_D A ((cL cI cJ cZ ad) u)) (hS : va_S A s.heap H locs) (hl : lv_has ls 11 [(0, .ref (ad 0)), (1, .int x1), (2, .int x2), (3, .long y3), (5, .int x5)]) (hM : B_L_kept_0 x1 x2 y3 x5 u = some res) : W p l e rm_L_kept s m args below meth c H locs 0 0 (MQ below (Qwi D cl9 (tyy cI cJ cZ) (cL cI cJ cZ ad) A res) args s 0 0 A) (F0 m 0 ls []) := by
  have C0 := C
  obtain ⟨hx, hb, hr, hml, hown, hts, hlocks, hK, hA⟩ := C
  replace C := C0
  unfold B_L_kept_0 at hM
  refine lv_iload_n hx hb d_L_kept_0 rfl (lv_at hl 1 rfl) ?_
  refine lv_i2l (v := x1.toInt64) hx hb d_L_kept_1 rfl ?_
  obtain ⟨v1, hq1, hM⟩ := bd_some hM
  refine fr_i (res := v1) (va_runS (As := [.long (x1.toInt64)]) (rest := []) ⟨hx, hb, hml, hown, hts⟩ (c_L_isNumber l D cI cJ cZ H.size (x1.toInt64) v1 hq1) (va_cwS 1 hts (gS mm_124 mm_125 mm_27 mm_126) rfl rfl rfl hs_L_isNumber ⟨Nat.le_of_ble_eq_true rfl, Nat.le_of_ble_eq_true rfl⟩) (ps_ (F := nW) (u := ()) hK nP (nD (A := fun _ => True))) rfl rfl hl.1 rfl (lv_room (Nat.le_of_ble_eq_true rfl)) d_L_kept_2 ⟨Nat.le_of_ble_eq_true rfl, Nat.le_of_ble_eq_true rfl⟩) hP hS hA (fun H locs hP hS => ?_)
  refine lv_if_eq (tgt := 12) hx hb d_L_kept_5 (by decide) (fun c2 => ?_) (fun c2 => ?_)
  · replace hM := it_t c2 hM
    refine lv_iconst (v := (-1 : Int32)) hx hb d_L_kept_12 (by decide) ?_
    obtain rfl := Option.some.inj hM
    exact W.iret (v := (-1 : Int32)) hx hb hr (fun t ht hW => ⟨⟨(-1 : Int32), u, rfl, rfl, by rw [ht]; exact hP, va_K.moved hW.alike hK, hD⟩, hS.F ht⟩) hS.2.2 d_L_kept_13
  · replace hM := it_f c2 hM
    refine lv_iload_n hx hb d_L_kept_8 rfl (lv_at hl 2 rfl) ?_
    refine lv_if_ge (tgt := 14) hx hb d_L_kept_9 (by decide) (fun c3 => ?_) (fun c3 => ?_)
    · replace hM := it_t c3 hM
      refine lv_iconst (v := (0 : Int32)) hx hb d_L_kept_14 (by decide) ?_
      refine lv_istore (lv' := [(6, .int (0 : Int32)), (0, .ref (ad 0)), (1, .int x1), (2, .int x2), (3, .long y3), (5, .int x5)]) hx hb d_L_kept_15 hl (by decide) rfl (fun ls hl => ?_)
      refine lv_aload_n hx hb d_L_kept_17 rfl (lv_at hl 1 rfl) ?_
      refine va_get (D := D) (ci := 2) (v := .ref (ad 6)) (C := R_L) (T := T_L) (N := 4) hx hb hts in_L hown hK hP 0 rfl rfl 1 (by decide) (hts _ mm_101) (fun _ h9 => h9) rfl d_L_kept_18 ?_
      obtain ⟨v4, hq4, hM⟩ := bd_some hM
      refine fw_v (F := (cL cI cJ cZ ad)) (u := u) (res := v4) (va_runV (As := []) (rest := []) ⟨hx, hb, hml, hown, hts⟩ (c_S_clear l D cI cJ cZ ad H.size u v4 hq4) (cwV 0 hts (gV mm_151 mm_152 mm_153 mm_29 mm_154) rfl rfl rfl hd_S_clear ⟨Nat.le_of_ble_eq_true rfl, Nat.le_of_ble_eq_true rfl⟩) (pv_ (F := (cL cI cJ cZ ad)) (u := u) hK hP hD (va_recv hK hP (ci := 1) (q0 := 6) rfl rfl)) rfl rfl hl.1 rfl (lv_room (Nat.le_of_ble_eq_true rfl)) d_L_kept_21 ⟨Nat.le_of_ble_eq_true rfl, Nat.le_of_ble_eq_true rfl⟩) hS (fa_ hD hS hA) (fun H locs hP hD hS => ?_)
      refine lv_iconst (v := (0 : Int32)) hx hb d_L_kept_24 (by decide) ?_
      refine lv_istore (lv' := [(7, .int (0 : Int32)), (6, .int (0 : Int32)), (0, .ref (ad 0)), (1, .int x1), (2, .int x2), (3, .long y3), (5, .int x5)]) hx hb d_L_kept_25 hl (by decide) rfl (fun ls hl => ?_)
      exact w_L_kept_27 C FU x1 x2 y3 x5 (0 : Int32) (0 : Int32) v4 H locs ls hP hD hS (lv_sub hl [2, 3, 4, 5, 6, 1, 0] rfl) hM
    · replace hM := it_f c3 hM
      refine lv_iconst (v := (-1 : Int32)) hx hb d_L_kept_12 (by decide) ?_
      obtain rfl := Option.some.inj hM
      exact W.iret (v := (-1 : Int32)) hx hb hr (fun t ht hW => ⟨⟨(-1 : Int32), u, rfl, rfl, by rw [ht]; exact hP, va_K.moved hW.alike hK, hD⟩, hS.F ht⟩) hS.2.2 d_L_kept_13
end
set_option maxRecDepth 100000 in
theorem c_L_kept (l : Launch) (D : va_G) (cI cJ cZ : ClassId) (ad : Nat → Nat) (sz : Nat) (x1 : Int32) (x2 : Int32) (y3 : Int64) (x5 : Int32) (u : Lib) (res : (Int32 × Lib)) (hM : B_L_kept_0 x1 x2 y3 x5 u = some res) : Met l y_L_kept ws_L_kept rm_L_kept (va_Pc [.ref (ad 0), .int x1, .int x2, .long y3, .int x5] (pr_ D cl9 (tyy cI cJ cZ) (cL cI cJ cZ ad) u sz)) (Qwi D cl9 (tyy cI cJ cZ) (cL cI cJ cZ ad) (va_A ((cL cI cJ cZ ad) u) sz) res) 0 0 (va_A ((cL cI cJ cZ ad) u) sz) := by
  refine Met.ofW (cc := prog_1_method_13_code) (maxL := 11) (ret := (Option.some FieldType.int)) (by decide) rfl ?_
  intro p e s m args below meth c s₁ B hml hv
  obtain ⟨rfl, hsz, hP, hK, hD0⟩ := hv
  subst hsz
  have hts0 := atoms_spec (ws := ws_L_kept) B.pre
  have hl := lv_entry ([.ref (ad 0), .int x1, .int x2, .long y3, .int x5]) (n := 11) (Nat.le_of_ble_eq_true rfl)
  rw [lg_entry_eq]
  generalize (lg_sl ([.ref (ad 0), .int x1, .int x2, .long y3, .int x5]) ++ List.replicate (11 - (lg_sl ([.ref (ad 0), .int x1, .int x2, .long y3, .int x5])).length) Slot.unset).toArray = ls at hl ⊢
  exact w_L_kept_0 ⟨B.exec, B.bytes, B.returns, hml, findClass_of_methodNamed B.named, fun w h => hts0 w (List.mem_cons_of_mem _ h), B.notSynchronized, hK, fun q h => Or.inr h⟩ x1 x2 y3 x5 u s.heap [] ls hP hD0.self va_S.rf hl hM
section
variable {p : Program} {l : Launch} {e : Env} {s : State} {m : MethodId} {args : Array Value} {below : List Frame} {meth : Method} {c : Code} {D : va_G} {cI cJ cZ : ClassId} {A : Nat → Prop} {ad : Nat → Nat}
set_option maxHeartbeats 4000000 in
set_option maxRecDepth 100000 in
theorem w_L_most_36s {res : (Int32 × Lib)} (C : Cx p s m args meth c prog_1_method_14_code 4 (Option.some FieldType.int) "PlainLibrary" tb D cl9 (tyy cI cJ cZ) A) {k36 : Int32 → Int32 → Int32 → Lib → Option (Int32 × Lib)} (hk36 : ∀ (x1 : Int32) (x2 : Int32) (x3 : Int32) (u : Lib) (H : Heap) (locs : List Loc) (ls : Array Slot), va_P D cl9 ((cL cI cJ cZ ad) u) H → va_D A ((cL cI cJ cZ ad) u) → va_S A s.heap H locs → lv_has ls 4 [(0, .ref (ad 0)), (1, .int x1), (2, .int x2), (3, .int x3)] → k36 x1 x2 x3 u = some res → W p l e rm_L_most s m args below meth c H locs 0 0 (MQ below (Qwi D cl9 (tyy cI cJ cZ) (cL cI cJ cZ ad) A res) args s 0 0 A) (F0 m 36 ls [])) (x1 : Int32) (x2 : Int32) (x3 : Int32) (u : Lib) (H : Heap) (locs : List Loc) (ls : Array Slot) (hP : va_P D cl9 ((cL cI cJ cZ ad) u) H) (hD : va_D A ((cL cI cJ cZ ad) u)) (hS : va_S A s.heap H locs) (hl : lv_has ls 4 [(0, .ref (ad 0)), (1, .int x1), (2, .int x2), (3, .int x3)]) (hM : B_L_most_36s k36 x1 x2 x3 u = some res) : W p l e rm_L_most s m args below meth c H locs 0 0 (MQ below (Qwi D cl9 (tyy cI cJ cZ) (cL cI cJ cZ ad) A res) args s 0 0 A) (F0 m 36 ls []) := by
  have C0 := C
  obtain ⟨hx, hb, hr, hml, hown, hts, hlocks, hK, hA⟩ := C
  replace C := C0
  unfold B_L_most_36s at hM
  refine lv_iload_n hx hb d_L_most_36 rfl (lv_at hl 3 rfl) ?_
  refine lv_aload_n hx hb d_L_most_37 rfl (lv_at hl 0 rfl) ?_
  refine va_get (D := D) (ci := 2) (v := .ref (ad 1)) (C := R_L) (T := T_L) (N := 4) hx hb hts in_L hown hK hP 0 rfl rfl 0 (by decide) (hts _ mm_100) (fun _ h9 => h9) rfl d_L_most_38 ?_
  obtain ⟨v1, hq1, hM⟩ := bd_some hM
  refine fr_i (res := v1) (va_runV (As := []) (rest := [.int x3]) ⟨hx, hb, hml, hown, hts⟩ (c_R_size l D cI cJ cZ ad H.size u v1 hq1) (cwV 0 hts (gV mm_143 mm_144 mm_145 mm_28 mm_146) rfl rfl rfl hd_R_size ⟨Nat.le_of_ble_eq_true rfl, Nat.le_of_ble_eq_true rfl⟩) (pv_ (F := (cL cI cJ cZ ad)) (u := u) hK hP hD (va_recv hK hP (ci := 0) (q0 := 1) rfl rfl)) rfl rfl hl.1 rfl (lv_room (Nat.le_of_ble_eq_true rfl)) d_L_most_41 ⟨Nat.le_of_ble_eq_true rfl, Nat.le_of_ble_eq_true rfl⟩) hP hS hA (fun H locs hP hS => ?_)
  refine lv_icmp_ge (tgt := 79) hx hb d_L_most_44 (by decide) (fun c2 => ?_) (fun c2 => ?_)
  · replace hM := it_t c2 hM
    refine lv_iload_n hx hb d_L_most_79 rfl (lv_at hl 2 rfl) ?_
    obtain rfl := Option.some.inj hM
    exact W.iret (v := x2) hx hb hr (fun t ht hW => ⟨⟨x2, u, rfl, rfl, by rw [ht]; exact hP, va_K.moved hW.alike hK, hD⟩, hS.F ht⟩) hS.2.2 d_L_most_80
  · replace hM := it_f c2 hM
    refine lv_aload_n hx hb d_L_most_47 rfl (lv_at hl 0 rfl) ?_
    refine va_get (D := D) (ci := 2) (v := .ref (ad 1)) (C := R_L) (T := T_L) (N := 4) hx hb hts in_L hown hK hP 0 rfl rfl 0 (by decide) (hts _ mm_100) (fun _ h9 => h9) rfl d_L_most_48 ?_
    refine lv_iload_n hx hb d_L_most_51 rfl (lv_at hl 3 rfl) ?_
    refine lv_aload_n hx hb d_L_most_52 rfl (lv_at hl 0 rfl) ?_
    refine va_get (D := D) (ci := 2) (v := .ref (ad 6)) (C := R_L) (T := T_L) (N := 4) hx hb hts in_L hown hK hP 0 rfl rfl 1 (by decide) (hts _ mm_101) (fun _ h9 => h9) rfl d_L_most_53 ?_
    obtain ⟨v3, hq3, hM⟩ := bd_some hM
    refine fw_i (F := (cL cI cJ cZ ad)) (u := u) (res := v3) (va_runV (As := [.int x3, .ref (ad 6)]) (rest := []) ⟨hx, hb, hml, hown, hts⟩ (c_R_perform l D cI cJ cZ ad H.size x3 u v3 hq3) (cwV 2 hts (gV mm_161 mm_162 mm_163 mm_28 mm_164) rfl rfl rfl hd_R_perform ⟨Nat.le_of_ble_eq_true rfl, Nat.le_of_ble_eq_true rfl⟩) (pv_ (F := (cL cI cJ cZ ad)) (u := u) hK hP hD (va_recv hK hP (ci := 0) (q0 := 1) rfl rfl)) rfl rfl hl.1 rfl (lv_room (Nat.le_of_ble_eq_true rfl)) d_L_most_56 ⟨Nat.le_of_ble_eq_true rfl, Nat.le_of_ble_eq_true rfl⟩) hS (fa_ hD hS hA) (fun H locs hP hD hS => ?_)
    refine lv_pop hx hb d_L_most_59 rfl ?_
    refine lv_iload_n hx hb d_L_most_60 rfl (lv_at hl 2 rfl) ?_
    refine lv_aload_n hx hb d_L_most_61 rfl (lv_at hl 0 rfl) ?_
    refine va_get (D := D) (ci := 2) (v := .ref (ad 6)) (C := R_L) (T := T_L) (N := 4) hx hb hts in_L hown hK hP 0 rfl rfl 1 (by decide) (hts _ mm_101) (fun _ h9 => h9) rfl d_L_most_62 ?_
    refine lv_iload_n hx hb d_L_most_65 rfl (lv_at hl 1 rfl) ?_
    obtain ⟨v4, hq4, hM⟩ := bd_some hM
    refine fr_i (res := v4) (va_runV (As := [.int x1]) (rest := [.int x2]) ⟨hx, hb, hml, hown, hts⟩ (c_S_copiesWith l D cI cJ cZ ad H.size x1 v3.2 v4 hq4) (cwV 1 hts (gV mm_320 mm_321 mm_322 mm_29 mm_323) rfl rfl rfl hd_S_copiesWith ⟨Nat.le_of_ble_eq_true rfl, Nat.le_of_ble_eq_true rfl⟩) (pv_ (F := (cL cI cJ cZ ad)) (u := v3.2) hK hP hD (va_recv hK hP (ci := 1) (q0 := 6) rfl rfl)) rfl rfl hl.1 rfl (lv_room (Nat.le_of_ble_eq_true rfl)) d_L_most_66 ⟨Nat.le_of_ble_eq_true rfl, Nat.le_of_ble_eq_true rfl⟩) hP hS hA (fun H locs hP hS => ?_)
    refine va_mmax hx hb (hml.trans hl.1.symm) hown (hts _ mm_324) (hts _ mm_325) (hts _ mm_33) (hts _ mm_326) (Nat.le_of_ble_eq_true rfl) (Nat.le_of_ble_eq_true rfl) (Nat.zero_le _) (Nat.zero_le _) d_L_most_69 ?_
    refine lv_istore_n (lv' := [(2, .int (if x2 < v4 then v4 else x2)), (0, .ref (ad 0)), (1, .int x1), (3, .int x3)]) hx hb d_L_most_72 rfl hl (by decide) rfl (fun ls hl => ?_)
    refine lv_iinc (v := (x3 + (1 : Int32))) (lv' := [(3, .int (x3 + (1 : Int32))), (2, .int (if x2 < v4 then v4 else x2)), (0, .ref (ad 0)), (1, .int x1)]) hx hb d_L_most_73 hl (k := 3) rfl rfl (by decide) rfl (fun ls hl => ?_)
    refine lv_goto (tgt := 36) hx hb d_L_most_76 (by decide) ?_
    exact hk36 x1 (if x2 < v4 then v4 else x2) (x3 + (1 : Int32)) v3.2 H locs ls hP hD hS (lv_sub hl [2, 3, 1, 0] rfl) hM
theorem w_L_most_36 {res : (Int32 × Lib)} (C : Cx p s m args meth c prog_1_method_14_code 4 (Option.some FieldType.int) "PlainLibrary" tb D cl9 (tyy cI cJ cZ) A) : ∀ (fu : Nat) (x1 : Int32) (x2 : Int32) (x3 : Int32) (u : Lib) (H : Heap) (locs : List Loc) (ls : Array Slot), va_P D cl9 ((cL cI cJ cZ ad) u) H → va_D A ((cL cI cJ cZ ad) u) → va_S A s.heap H locs → lv_has ls 4 [(0, .ref (ad 0)), (1, .int x1), (2, .int x2), (3, .int x3)] → B_L_most_36 fu x1 x2 x3 u = some res → W p l e rm_L_most s m args below meth c H locs 0 0 (MQ below (Qwi D cl9 (tyy cI cJ cZ) (cL cI cJ cZ ad) A res) args s 0 0 A) (F0 m 36 ls []) := by
  intro fu
  induction fu with
  | zero =>
    intro x1 x2 x3 u H locs ls hP hD hS hl hM
    have hM : (none : Option (Int32 × Lib)) = some res := hM
    cases hM
  | succ fu ih =>
    intro x1 x2 x3 u H locs ls hP hD hS hl hM
    exact w_L_most_36s C ih x1 x2 x3 u H locs ls hP hD hS hl hM
set_option maxHeartbeats 4000000 in
set_option maxRecDepth 100000 in
theorem w_L_most_0 {res : (Int32 × Lib)} (C : Cx p s m args meth c prog_1_method_14_code 4 (Option.some FieldType.int) "PlainLibrary" tb D cl9 (tyy cI cJ cZ) A) (x1 : Int32) (u : Lib) (H : Heap) (locs : List Loc) (ls : Array Slot) (hP : va_P D cl9 ((cL cI cJ cZ ad) u) H) (hD : va_D A ((cL cI cJ cZ ad) u)) (hS : va_S A s.heap H locs) (hl : lv_has ls 4 [(0, .ref (ad 0)), (1, .int x1)]) (hM : B_L_most_0 x1 u = some res) : W p l e rm_L_most s m args below meth c H locs 0 0 (MQ below (Qwi D cl9 (tyy cI cJ cZ) (cL cI cJ cZ ad) A res) args s 0 0 A) (F0 m 0 ls []) := by
  have C0 := C
  obtain ⟨hx, hb, hr, hml, hown, hts, hlocks, hK, hA⟩ := C
  replace C := C0
  unfold B_L_most_0 at hM
  refine lv_iload_n hx hb d_L_most_0 rfl (lv_at hl 1 rfl) ?_
  refine lv_i2l (v := x1.toInt64) hx hb d_L_most_1 rfl ?_
  obtain ⟨v1, hq1, hM⟩ := bd_some hM
  refine fr_i (res := v1) (va_runS (As := [.long (x1.toInt64)]) (rest := []) ⟨hx, hb, hml, hown, hts⟩ (c_L_isNumber l D cI cJ cZ H.size (x1.toInt64) v1 hq1) (va_cwS 1 hts (gS mm_124 mm_125 mm_27 mm_126) rfl rfl rfl hs_L_isNumber ⟨Nat.le_of_ble_eq_true rfl, Nat.le_of_ble_eq_true rfl⟩) (ps_ (F := nW) (u := ()) hK nP (nD (A := fun _ => True))) rfl rfl hl.1 rfl (lv_room (Nat.le_of_ble_eq_true rfl)) d_L_most_2 ⟨Nat.le_of_ble_eq_true rfl, Nat.le_of_ble_eq_true rfl⟩) hP hS hA (fun H locs hP hS => ?_)
  refine lv_if_ne (tgt := 10) hx hb d_L_most_5 (by decide) (fun c2 => ?_) (fun c2 => ?_)
  · replace hM := it_f c2 hM
    refine lv_aload_n hx hb d_L_most_10 rfl (lv_at hl 0 rfl) ?_
    refine va_get (D := D) (ci := 2) (v := .ref (ad 1)) (C := R_L) (T := T_L) (N := 4) hx hb hts in_L hown hK hP 0 rfl rfl 0 (by decide) (hts _ mm_100) (fun _ h9 => h9) rfl d_L_most_11 ?_
    obtain ⟨v3, hq3, hM⟩ := bd_some hM
    refine fr_i (res := v3) (va_runV (As := []) (rest := []) ⟨hx, hb, hml, hown, hts⟩ (c_R_size l D cI cJ cZ ad H.size u v3 hq3) (cwV 0 hts (gV mm_143 mm_144 mm_145 mm_28 mm_146) rfl rfl rfl hd_R_size ⟨Nat.le_of_ble_eq_true rfl, Nat.le_of_ble_eq_true rfl⟩) (pv_ (F := (cL cI cJ cZ ad)) (u := u) hK hP hD (va_recv hK hP (ci := 0) (q0 := 1) rfl rfl)) rfl rfl hl.1 rfl (lv_room (Nat.le_of_ble_eq_true rfl)) d_L_most_14 ⟨Nat.le_of_ble_eq_true rfl, Nat.le_of_ble_eq_true rfl⟩) hP hS hA (fun H locs hP hS => ?_)
    refine lv_bipush (v := (100 : Int32)) hx hb d_L_most_17 (by decide) ?_
    refine lv_icmp_le (tgt := 25) hx hb d_L_most_19 (by decide) (fun c4 => ?_) (fun c4 => ?_)
    · replace hM := it_t c4 hM
      refine lv_iconst (v := (0 : Int32)) hx hb d_L_most_25 (by decide) ?_
      refine lv_istore_n (lv' := [(2, .int (0 : Int32)), (0, .ref (ad 0)), (1, .int x1)]) hx hb d_L_most_26 rfl hl (by decide) rfl (fun ls hl => ?_)
      refine lv_aload_n hx hb d_L_most_27 rfl (lv_at hl 1 rfl) ?_
      refine va_get (D := D) (ci := 2) (v := .ref (ad 6)) (C := R_L) (T := T_L) (N := 4) hx hb hts in_L hown hK hP 0 rfl rfl 1 (by decide) (hts _ mm_101) (fun _ h9 => h9) rfl d_L_most_28 ?_
      obtain ⟨v5, hq5, hM⟩ := bd_some hM
      refine fw_v (F := (cL cI cJ cZ ad)) (u := u) (res := v5) (va_runV (As := []) (rest := []) ⟨hx, hb, hml, hown, hts⟩ (c_S_clear l D cI cJ cZ ad H.size u v5 hq5) (cwV 0 hts (gV mm_151 mm_152 mm_153 mm_29 mm_154) rfl rfl rfl hd_S_clear ⟨Nat.le_of_ble_eq_true rfl, Nat.le_of_ble_eq_true rfl⟩) (pv_ (F := (cL cI cJ cZ ad)) (u := u) hK hP hD (va_recv hK hP (ci := 1) (q0 := 6) rfl rfl)) rfl rfl hl.1 rfl (lv_room (Nat.le_of_ble_eq_true rfl)) d_L_most_31 ⟨Nat.le_of_ble_eq_true rfl, Nat.le_of_ble_eq_true rfl⟩) hS (fa_ hD hS hA) (fun H locs hP hD hS => ?_)
      refine lv_iconst (v := (0 : Int32)) hx hb d_L_most_34 (by decide) ?_
      refine lv_istore_n (lv' := [(3, .int (0 : Int32)), (2, .int (0 : Int32)), (0, .ref (ad 0)), (1, .int x1)]) hx hb d_L_most_35 rfl hl (by decide) rfl (fun ls hl => ?_)
      exact w_L_most_36 C FU x1 (0 : Int32) (0 : Int32) v5 H locs ls hP hD hS (lv_sub hl [2, 3, 1, 0] rfl) hM
    · replace hM := it_f c4 hM
      refine lv_bipush (v := (-9 : Int32)) hx hb d_L_most_22 (by decide) ?_
      obtain rfl := Option.some.inj hM
      exact W.iret (v := (-9 : Int32)) hx hb hr (fun t ht hW => ⟨⟨(-9 : Int32), u, rfl, rfl, by rw [ht]; exact hP, va_K.moved hW.alike hK, hD⟩, hS.F ht⟩) hS.2.2 d_L_most_24
  · replace hM := it_t c2 hM
    refine lv_iconst (v := (-1 : Int32)) hx hb d_L_most_8 (by decide) ?_
    obtain rfl := Option.some.inj hM
    exact W.iret (v := (-1 : Int32)) hx hb hr (fun t ht hW => ⟨⟨(-1 : Int32), u, rfl, rfl, by rw [ht]; exact hP, va_K.moved hW.alike hK, hD⟩, hS.F ht⟩) hS.2.2 d_L_most_9
end
set_option maxRecDepth 100000 in
theorem c_L_most (l : Launch) (D : va_G) (cI cJ cZ : ClassId) (ad : Nat → Nat) (sz : Nat) (x1 : Int32) (u : Lib) (res : (Int32 × Lib)) (hM : B_L_most_0 x1 u = some res) : Met l y_L_most ws_L_most rm_L_most (va_Pc [.ref (ad 0), .int x1] (pr_ D cl9 (tyy cI cJ cZ) (cL cI cJ cZ ad) u sz)) (Qwi D cl9 (tyy cI cJ cZ) (cL cI cJ cZ ad) (va_A ((cL cI cJ cZ ad) u) sz) res) 0 0 (va_A ((cL cI cJ cZ ad) u) sz) := by
  refine Met.ofW (cc := prog_1_method_14_code) (maxL := 4) (ret := (Option.some FieldType.int)) (by decide) rfl ?_
  intro p e s m args below meth c s₁ B hml hv
  obtain ⟨rfl, hsz, hP, hK, hD0⟩ := hv
  subst hsz
  have hts0 := atoms_spec (ws := ws_L_most) B.pre
  have hl := lv_entry ([.ref (ad 0), .int x1]) (n := 4) (Nat.le_of_ble_eq_true rfl)
  rw [lg_entry_eq]
  generalize (lg_sl ([.ref (ad 0), .int x1]) ++ List.replicate (4 - (lg_sl ([.ref (ad 0), .int x1])).length) Slot.unset).toArray = ls at hl ⊢
  exact w_L_most_0 ⟨B.exec, B.bytes, B.returns, hml, findClass_of_methodNamed B.named, fun w h => hts0 w (List.mem_cons_of_mem _ h), B.notSynchronized, hK, fun q h => Or.inr h⟩ x1 u s.heap [] ls hP hD0.self va_S.rf hl hM
section
variable {p : Program} {l : Launch} {e : Env} {s : State} {m : MethodId} {args : Array Value} {below : List Frame} {meth : Method} {c : Code} {D : va_G} {cI cJ cZ : ClassId} {A : Nat → Prop} {ad : Nat → Nat}
set_option maxHeartbeats 4000000 in
set_option maxRecDepth 100000 in
theorem w_L_firstVoidWithout_47 {k9 : Int32 → Int32 → Int32 → Lib → Option (Int32 × Lib)} {res : (Int32 × Lib)} (C : Cx p s m args meth c prog_1_method_21_code 4 (Option.some FieldType.int) "PlainLibrary" tb D cl9 (tyy cI cJ cZ) A) (hk9 : ∀ (x1 : Int32) (x2 : Int32) (x3 : Int32) (u : Lib) (H : Heap) (locs : List Loc) (ls : Array Slot), va_P D cl9 ((cL cI cJ cZ ad) u) H → va_D A ((cL cI cJ cZ ad) u) → va_S A s.heap H locs → lv_has ls 4 [(0, .ref (ad 0)), (1, .int x1), (2, .int x2), (3, .int x3)] → k9 x1 x2 x3 u = some res → W p l e rm_L_firstVoidWithout s m args below meth c H locs 0 0 (MQ below (Qwi D cl9 (tyy cI cJ cZ) (cL cI cJ cZ ad) A res) args s 0 0 A) (F0 m 9 ls [])) (x1 : Int32) (x2 : Int32) (x3 : Int32) (u : Lib) (H : Heap) (locs : List Loc) (ls : Array Slot) (hP : va_P D cl9 ((cL cI cJ cZ ad) u) H) (hD : va_D A ((cL cI cJ cZ ad) u)) (hS : va_S A s.heap H locs) (hl : lv_has ls 4 [(0, .ref (ad 0)), (1, .int x1), (2, .int x2), (3, .int x3)]) (hM : B_L_firstVoidWithout_47 k9 x1 x2 x3 u = some res) : W p l e rm_L_firstVoidWithout s m args below meth c H locs 0 0 (MQ below (Qwi D cl9 (tyy cI cJ cZ) (cL cI cJ cZ ad) A res) args s 0 0 A) (F0 m 47 ls []) := by
  have C0 := C
  obtain ⟨hx, hb, hr, hml, hown, hts, hlocks, hK, hA⟩ := C
  replace C := C0
  unfold B_L_firstVoidWithout_47 at hM
  refine lv_iinc (v := (x3 + (1 : Int32))) (lv' := [(3, .int (x3 + (1 : Int32))), (0, .ref (ad 0)), (1, .int x1), (2, .int x2)]) hx hb d_L_firstVoidWithout_47 hl (k := 3) rfl rfl (by decide) rfl (fun ls hl => ?_)
  refine lv_goto (tgt := 9) hx hb d_L_firstVoidWithout_50 (by decide) ?_
  exact hk9 x1 x2 (x3 + (1 : Int32)) u H locs ls hP hD hS (lv_sub hl [1, 2, 3, 0] rfl) hM
set_option maxHeartbeats 4000000 in
set_option maxRecDepth 100000 in
theorem w_L_firstVoidWithout_9s {res : (Int32 × Lib)} (C : Cx p s m args meth c prog_1_method_21_code 4 (Option.some FieldType.int) "PlainLibrary" tb D cl9 (tyy cI cJ cZ) A) {k9 : Int32 → Int32 → Int32 → Lib → Option (Int32 × Lib)} (hk9 : ∀ (x1 : Int32) (x2 : Int32) (x3 : Int32) (u : Lib) (H : Heap) (locs : List Loc) (ls : Array Slot), va_P D cl9 ((cL cI cJ cZ ad) u) H → va_D A ((cL cI cJ cZ ad) u) → va_S A s.heap H locs → lv_has ls 4 [(0, .ref (ad 0)), (1, .int x1), (2, .int x2), (3, .int x3)] → k9 x1 x2 x3 u = some res → W p l e rm_L_firstVoidWithout s m args below meth c H locs 0 0 (MQ below (Qwi D cl9 (tyy cI cJ cZ) (cL cI cJ cZ ad) A res) args s 0 0 A) (F0 m 9 ls [])) (x1 : Int32) (x2 : Int32) (x3 : Int32) (u : Lib) (H : Heap) (locs : List Loc) (ls : Array Slot) (hP : va_P D cl9 ((cL cI cJ cZ ad) u) H) (hD : va_D A ((cL cI cJ cZ ad) u)) (hS : va_S A s.heap H locs) (hl : lv_has ls 4 [(0, .ref (ad 0)), (1, .int x1), (2, .int x2), (3, .int x3)]) (hM : B_L_firstVoidWithout_9s k9 x1 x2 x3 u = some res) : W p l e rm_L_firstVoidWithout s m args below meth c H locs 0 0 (MQ below (Qwi D cl9 (tyy cI cJ cZ) (cL cI cJ cZ ad) A res) args s 0 0 A) (F0 m 9 ls []) := by
  have C0 := C
  obtain ⟨hx, hb, hr, hml, hown, hts, hlocks, hK, hA⟩ := C
  replace C := C0
  unfold B_L_firstVoidWithout_9s at hM
  refine lv_iload_n hx hb d_L_firstVoidWithout_9 rfl (lv_at hl 3 rfl) ?_
  refine lv_aload_n hx hb d_L_firstVoidWithout_10 rfl (lv_at hl 0 rfl) ?_
  refine va_get (D := D) (ci := 2) (v := .ref (ad 1)) (C := R_L) (T := T_L) (N := 4) hx hb hts in_L hown hK hP 0 rfl rfl 0 (by decide) (hts _ mm_100) (fun _ h9 => h9) rfl d_L_firstVoidWithout_11 ?_
  obtain ⟨v1, hq1, hM⟩ := bd_some hM
  refine fr_i (res := v1) (va_runV (As := []) (rest := [.int x3]) ⟨hx, hb, hml, hown, hts⟩ (c_R_size l D cI cJ cZ ad H.size u v1 hq1) (cwV 0 hts (gV mm_143 mm_144 mm_145 mm_28 mm_146) rfl rfl rfl hd_R_size ⟨Nat.le_of_ble_eq_true rfl, Nat.le_of_ble_eq_true rfl⟩) (pv_ (F := (cL cI cJ cZ ad)) (u := u) hK hP hD (va_recv hK hP (ci := 0) (q0 := 1) rfl rfl)) rfl rfl hl.1 rfl (lv_room (Nat.le_of_ble_eq_true rfl)) d_L_firstVoidWithout_14 ⟨Nat.le_of_ble_eq_true rfl, Nat.le_of_ble_eq_true rfl⟩) hP hS hA (fun H locs hP hS => ?_)
  refine lv_icmp_ge (tgt := 53) hx hb d_L_firstVoidWithout_17 (by decide) (fun c2 => ?_) (fun c2 => ?_)
  · replace hM := it_t c2 hM
    refine lv_iconst (v := (-1 : Int32)) hx hb d_L_firstVoidWithout_53 (by decide) ?_
    obtain rfl := Option.some.inj hM
    exact W.iret (v := (-1 : Int32)) hx hb hr (fun t ht hW => ⟨⟨(-1 : Int32), u, rfl, rfl, by rw [ht]; exact hP, va_K.moved hW.alike hK, hD⟩, hS.F ht⟩) hS.2.2 d_L_firstVoidWithout_54
  · replace hM := it_f c2 hM
    refine lv_iload_n hx hb d_L_firstVoidWithout_20 rfl (lv_at hl 3 rfl) ?_
    refine lv_iload_n hx hb d_L_firstVoidWithout_21 rfl (lv_at hl 1 rfl) ?_
    refine lv_icmp_eq (tgt := 47) hx hb d_L_firstVoidWithout_22 (by decide) (fun c3 => ?_) (fun c3 => ?_)
    · replace hM := it_t c3 hM
      exact w_L_firstVoidWithout_47 C hk9 x1 x2 x3 u H locs ls hP hD hS (lv_sub hl [0, 1, 2, 3] rfl) hM
    · replace hM := it_f c3 hM
      refine lv_iload_n hx hb d_L_firstVoidWithout_25 rfl (lv_at hl 3 rfl) ?_
      refine lv_iload_n hx hb d_L_firstVoidWithout_26 rfl (lv_at hl 2 rfl) ?_
      refine lv_icmp_eq (tgt := 47) hx hb d_L_firstVoidWithout_27 (by decide) (fun c4 => ?_) (fun c4 => ?_)
      · replace hM := it_t c4 hM
        exact w_L_firstVoidWithout_47 C hk9 x1 x2 x3 u H locs ls hP hD hS (lv_sub hl [0, 1, 2, 3] rfl) hM
      · replace hM := it_f c4 hM
        refine lv_aload_n hx hb d_L_firstVoidWithout_30 rfl (lv_at hl 0 rfl) ?_
        refine va_get (D := D) (ci := 2) (v := .ref (ad 1)) (C := R_L) (T := T_L) (N := 4) hx hb hts in_L hown hK hP 0 rfl rfl 0 (by decide) (hts _ mm_100) (fun _ h9 => h9) rfl d_L_firstVoidWithout_31 ?_
        refine lv_iload_n hx hb d_L_firstVoidWithout_34 rfl (lv_at hl 3 rfl) ?_
        refine lv_aload_n hx hb d_L_firstVoidWithout_35 rfl (lv_at hl 0 rfl) ?_
        refine va_get (D := D) (ci := 2) (v := .ref (ad 6)) (C := R_L) (T := T_L) (N := 4) hx hb hts in_L hown hK hP 0 rfl rfl 1 (by decide) (hts _ mm_101) (fun _ h9 => h9) rfl d_L_firstVoidWithout_36 ?_
        obtain ⟨v5, hq5, hM⟩ := bd_some hM
        refine fw_i (F := (cL cI cJ cZ ad)) (u := u) (res := v5) (va_runV (As := [.int x3, .ref (ad 6)]) (rest := []) ⟨hx, hb, hml, hown, hts⟩ (c_R_perform l D cI cJ cZ ad H.size x3 u v5 hq5) (cwV 2 hts (gV mm_161 mm_162 mm_163 mm_28 mm_164) rfl rfl rfl hd_R_perform ⟨Nat.le_of_ble_eq_true rfl, Nat.le_of_ble_eq_true rfl⟩) (pv_ (F := (cL cI cJ cZ ad)) (u := u) hK hP hD (va_recv hK hP (ci := 0) (q0 := 1) rfl rfl)) rfl rfl hl.1 rfl (lv_room (Nat.le_of_ble_eq_true rfl)) d_L_firstVoidWithout_39 ⟨Nat.le_of_ble_eq_true rfl, Nat.le_of_ble_eq_true rfl⟩) hS (fa_ hD hS hA) (fun H locs hP hD hS => ?_)
        refine lv_if_ne (tgt := 47) hx hb d_L_firstVoidWithout_42 (by decide) (fun c6 => ?_) (fun c6 => ?_)
        · replace hM := it_f c6 hM
          exact w_L_firstVoidWithout_47 C hk9 x1 x2 x3 v5.2 H locs ls hP hD hS (lv_sub hl [0, 1, 2, 3] rfl) hM
        · replace hM := it_t c6 hM
          refine lv_iload_n hx hb d_L_firstVoidWithout_45 rfl (lv_at hl 3 rfl) ?_
          obtain rfl := Option.some.inj hM
          exact W.iret (v := x3) hx hb hr (fun t ht hW => ⟨⟨x3, v5.2, rfl, rfl, by rw [ht]; exact hP, va_K.moved hW.alike hK, hD⟩, hS.F ht⟩) hS.2.2 d_L_firstVoidWithout_46
theorem w_L_firstVoidWithout_9 {res : (Int32 × Lib)} (C : Cx p s m args meth c prog_1_method_21_code 4 (Option.some FieldType.int) "PlainLibrary" tb D cl9 (tyy cI cJ cZ) A) : ∀ (fu : Nat) (x1 : Int32) (x2 : Int32) (x3 : Int32) (u : Lib) (H : Heap) (locs : List Loc) (ls : Array Slot), va_P D cl9 ((cL cI cJ cZ ad) u) H → va_D A ((cL cI cJ cZ ad) u) → va_S A s.heap H locs → lv_has ls 4 [(0, .ref (ad 0)), (1, .int x1), (2, .int x2), (3, .int x3)] → B_L_firstVoidWithout_9 fu x1 x2 x3 u = some res → W p l e rm_L_firstVoidWithout s m args below meth c H locs 0 0 (MQ below (Qwi D cl9 (tyy cI cJ cZ) (cL cI cJ cZ ad) A res) args s 0 0 A) (F0 m 9 ls []) := by
  intro fu
  induction fu with
  | zero =>
    intro x1 x2 x3 u H locs ls hP hD hS hl hM
    have hM : (none : Option (Int32 × Lib)) = some res := hM
    cases hM
  | succ fu ih =>
    intro x1 x2 x3 u H locs ls hP hD hS hl hM
    exact w_L_firstVoidWithout_9s C ih x1 x2 x3 u H locs ls hP hD hS hl hM
set_option maxHeartbeats 4000000 in
set_option maxRecDepth 100000 in
theorem w_L_firstVoidWithout_0 {res : (Int32 × Lib)} (C : Cx p s m args meth c prog_1_method_21_code 4 (Option.some FieldType.int) "PlainLibrary" tb D cl9 (tyy cI cJ cZ) A) (x1 : Int32) (x2 : Int32) (u : Lib) (H : Heap) (locs : List Loc) (ls : Array Slot) (hP : va_P D cl9 ((cL cI cJ cZ ad) u) H) (hD : va_D A ((cL cI cJ cZ ad) u)) (hS : va_S A s.heap H locs) (hl : lv_has ls 4 [(0, .ref (ad 0)), (1, .int x1), (2, .int x2)]) (hM : B_L_firstVoidWithout_0 x1 x2 u = some res) : W p l e rm_L_firstVoidWithout s m args below meth c H locs 0 0 (MQ below (Qwi D cl9 (tyy cI cJ cZ) (cL cI cJ cZ ad) A res) args s 0 0 A) (F0 m 0 ls []) := by
  have C0 := C
  obtain ⟨hx, hb, hr, hml, hown, hts, hlocks, hK, hA⟩ := C
  replace C := C0
  unfold B_L_firstVoidWithout_0 at hM
  refine lv_aload_n hx hb d_L_firstVoidWithout_0 rfl (lv_at hl 0 rfl) ?_
  refine va_get (D := D) (ci := 2) (v := .ref (ad 6)) (C := R_L) (T := T_L) (N := 4) hx hb hts in_L hown hK hP 0 rfl rfl 1 (by decide) (hts _ mm_101) (fun _ h9 => h9) rfl d_L_firstVoidWithout_1 ?_
  obtain ⟨v1, hq1, hM⟩ := bd_some hM
  refine fw_v (F := (cL cI cJ cZ ad)) (u := u) (res := v1) (va_runV (As := []) (rest := []) ⟨hx, hb, hml, hown, hts⟩ (c_S_clear l D cI cJ cZ ad H.size u v1 hq1) (cwV 0 hts (gV mm_151 mm_152 mm_153 mm_29 mm_154) rfl rfl rfl hd_S_clear ⟨Nat.le_of_ble_eq_true rfl, Nat.le_of_ble_eq_true rfl⟩) (pv_ (F := (cL cI cJ cZ ad)) (u := u) hK hP hD (va_recv hK hP (ci := 1) (q0 := 6) rfl rfl)) rfl rfl hl.1 rfl (lv_room (Nat.le_of_ble_eq_true rfl)) d_L_firstVoidWithout_4 ⟨Nat.le_of_ble_eq_true rfl, Nat.le_of_ble_eq_true rfl⟩) hS (fa_ hD hS hA) (fun H locs hP hD hS => ?_)
  refine lv_iconst (v := (0 : Int32)) hx hb d_L_firstVoidWithout_7 (by decide) ?_
  refine lv_istore_n (lv' := [(3, .int (0 : Int32)), (0, .ref (ad 0)), (1, .int x1), (2, .int x2)]) hx hb d_L_firstVoidWithout_8 rfl hl (by decide) rfl (fun ls hl => ?_)
  exact w_L_firstVoidWithout_9 C FU x1 x2 (0 : Int32) v1 H locs ls hP hD hS (lv_sub hl [1, 2, 3, 0] rfl) hM
end
set_option maxRecDepth 100000 in
theorem c_L_firstVoidWithout (l : Launch) (D : va_G) (cI cJ cZ : ClassId) (ad : Nat → Nat) (sz : Nat) (x1 : Int32) (x2 : Int32) (u : Lib) (res : (Int32 × Lib)) (hM : B_L_firstVoidWithout_0 x1 x2 u = some res) : Met l y_L_firstVoidWithout ws_L_firstVoidWithout rm_L_firstVoidWithout (va_Pc [.ref (ad 0), .int x1, .int x2] (pr_ D cl9 (tyy cI cJ cZ) (cL cI cJ cZ ad) u sz)) (Qwi D cl9 (tyy cI cJ cZ) (cL cI cJ cZ ad) (va_A ((cL cI cJ cZ ad) u) sz) res) 0 0 (va_A ((cL cI cJ cZ ad) u) sz) := by
  refine Met.ofW (cc := prog_1_method_21_code) (maxL := 4) (ret := (Option.some FieldType.int)) (by decide) rfl ?_
  intro p e s m args below meth c s₁ B hml hv
  obtain ⟨rfl, hsz, hP, hK, hD0⟩ := hv
  subst hsz
  have hts0 := atoms_spec (ws := ws_L_firstVoidWithout) B.pre
  have hl := lv_entry ([.ref (ad 0), .int x1, .int x2]) (n := 4) (Nat.le_of_ble_eq_true rfl)
  rw [lg_entry_eq]
  generalize (lg_sl ([.ref (ad 0), .int x1, .int x2]) ++ List.replicate (4 - (lg_sl ([.ref (ad 0), .int x1, .int x2])).length) Slot.unset).toArray = ls at hl ⊢
  exact w_L_firstVoidWithout_0 ⟨B.exec, B.bytes, B.returns, hml, findClass_of_methodNamed B.named, fun w h => hts0 w (List.mem_cons_of_mem _ h), B.notSynchronized, hK, fun q h => Or.inr h⟩ x1 x2 u s.heap [] ls hP hD0.self va_S.rf hl hM
section
variable {p : Program} {l : Launch} {e : Env} {s : State} {m : MethodId} {args : Array Value} {below : List Frame} {meth : Method} {c : Code} {D : va_G} {cI cJ cZ : ClassId} {A : Nat → Prop} {ad : Nat → Nat}
set_option maxHeartbeats 4000000 in
set_option maxRecDepth 100000 in
theorem w_L_oneLessIsEnough_2s {res : (Int32 × Lib)} (C : Cx p s m args meth c prog_1_method_22_code 3 (Option.some FieldType.boolean) "PlainLibrary" tb D cl9 (tyy cI cJ cZ) A) {k2 : Int32 → Int32 → Lib → Option (Int32 × Lib)} (hk2 : ∀ (x1 : Int32) (x2 : Int32) (u : Lib) (H : Heap) (locs : List Loc) (ls : Array Slot), va_P D cl9 ((cL cI cJ cZ ad) u) H → va_D A ((cL cI cJ cZ ad) u) → va_S A s.heap H locs → lv_has ls 3 [(0, .ref (ad 0)), (1, .int x1), (2, .int x2)] → k2 x1 x2 u = some res → W p l e rm_L_oneLessIsEnough s m args below meth c H locs 0 0 (MQ below (Qwi D cl9 (tyy cI cJ cZ) (cL cI cJ cZ ad) A res) args s 0 0 A) (F0 m 2 ls [])) (x1 : Int32) (x2 : Int32) (u : Lib) (H : Heap) (locs : List Loc) (ls : Array Slot) (hP : va_P D cl9 ((cL cI cJ cZ ad) u) H) (hD : va_D A ((cL cI cJ cZ ad) u)) (hS : va_S A s.heap H locs) (hl : lv_has ls 3 [(0, .ref (ad 0)), (1, .int x1), (2, .int x2)]) (hM : B_L_oneLessIsEnough_2s k2 x1 x2 u = some res) : W p l e rm_L_oneLessIsEnough s m args below meth c H locs 0 0 (MQ below (Qwi D cl9 (tyy cI cJ cZ) (cL cI cJ cZ ad) A res) args s 0 0 A) (F0 m 2 ls []) := by
  have C0 := C
  obtain ⟨hx, hb, hr, hml, hown, hts, hlocks, hK, hA⟩ := C
  replace C := C0
  unfold B_L_oneLessIsEnough_2s at hM
  refine lv_iload_n hx hb d_L_oneLessIsEnough_2 rfl (lv_at hl 2 rfl) ?_
  refine lv_iload_n hx hb d_L_oneLessIsEnough_3 rfl (lv_at hl 1 rfl) ?_
  refine lv_icmp_gt (tgt := 25) hx hb d_L_oneLessIsEnough_4 (by decide) (fun c1 => ?_) (fun c1 => ?_)
  · replace hM := it_t c1 hM
    refine lv_iconst (v := (0 : Int32)) hx hb d_L_oneLessIsEnough_25 (by decide) ?_
    obtain rfl := Option.some.inj hM
    exact W.zret (v := (0 : Int32)) hx hb hr rfl (fun t ht hW => ⟨⟨(0 : Int32), u, rfl, rfl, by rw [ht]; exact hP, va_K.moved hW.alike hK, hD⟩, hS.F ht⟩) hS.2.2 d_L_oneLessIsEnough_26
  · replace hM := it_f c1 hM
    refine lv_aload_n hx hb d_L_oneLessIsEnough_7 rfl (lv_at hl 0 rfl) ?_
    refine lv_iload_n hx hb d_L_oneLessIsEnough_8 rfl (lv_at hl 2 rfl) ?_
    refine lv_iconst (v := (-1 : Int32)) hx hb d_L_oneLessIsEnough_9 (by decide) ?_
    obtain ⟨v2, hq2, hM⟩ := bd_some hM
    refine fw_i (F := (cL cI cJ cZ ad)) (u := u) (res := v2) (va_runV (As := [.int x2, .int (-1 : Int32)]) (rest := []) ⟨hx, hb, hml, hown, hts⟩ (c_L_firstVoidWithout l D cI cJ cZ ad H.size x2 (-1 : Int32) u v2 hq2) (cwV 2 hts (gV mm_331 mm_333 (ms_ 13 rfl rfl) mm_27 mm_334) rfl rfl rfl hd_L_firstVoidWithout ⟨Nat.le_of_ble_eq_true rfl, Nat.le_of_ble_eq_true rfl⟩) (pv_ (F := (cL cI cJ cZ ad)) (u := u) hK hP hD (va_recv hK hP (ci := 2) (q0 := 0) rfl rfl)) rfl rfl hl.1 rfl (lv_room (Nat.le_of_ble_eq_true rfl)) d_L_oneLessIsEnough_10 ⟨Nat.le_of_ble_eq_true rfl, Nat.le_of_ble_eq_true rfl⟩) hS (fa_ hD hS hA) (fun H locs hP hD hS => ?_)
    refine lv_iconst (v := (-1 : Int32)) hx hb d_L_oneLessIsEnough_13 (by decide) ?_
    refine lv_icmp_ne (tgt := 19) hx hb d_L_oneLessIsEnough_14 (by decide) (fun c3 => ?_) (fun c3 => ?_)
    · replace hM := it_f c3 hM
      refine lv_iinc (v := (x2 + (1 : Int32))) (lv' := [(2, .int (x2 + (1 : Int32))), (0, .ref (ad 0)), (1, .int x1)]) hx hb d_L_oneLessIsEnough_19 hl (k := 2) rfl rfl (by decide) rfl (fun ls hl => ?_)
      refine lv_goto (tgt := 2) hx hb d_L_oneLessIsEnough_22 (by decide) ?_
      exact hk2 x1 (x2 + (1 : Int32)) v2.2 H locs ls hP hD hS (lv_sub hl [1, 2, 0] rfl) hM
    · replace hM := it_t c3 hM
      refine lv_iconst (v := (1 : Int32)) hx hb d_L_oneLessIsEnough_17 (by decide) ?_
      obtain rfl := Option.some.inj hM
      exact W.zret (v := (1 : Int32)) hx hb hr rfl (fun t ht hW => ⟨⟨(1 : Int32), v2.2, rfl, rfl, by rw [ht]; exact hP, va_K.moved hW.alike hK, hD⟩, hS.F ht⟩) hS.2.2 d_L_oneLessIsEnough_18
theorem w_L_oneLessIsEnough_2 {res : (Int32 × Lib)} (C : Cx p s m args meth c prog_1_method_22_code 3 (Option.some FieldType.boolean) "PlainLibrary" tb D cl9 (tyy cI cJ cZ) A) : ∀ (fu : Nat) (x1 : Int32) (x2 : Int32) (u : Lib) (H : Heap) (locs : List Loc) (ls : Array Slot), va_P D cl9 ((cL cI cJ cZ ad) u) H → va_D A ((cL cI cJ cZ ad) u) → va_S A s.heap H locs → lv_has ls 3 [(0, .ref (ad 0)), (1, .int x1), (2, .int x2)] → B_L_oneLessIsEnough_2 fu x1 x2 u = some res → W p l e rm_L_oneLessIsEnough s m args below meth c H locs 0 0 (MQ below (Qwi D cl9 (tyy cI cJ cZ) (cL cI cJ cZ ad) A res) args s 0 0 A) (F0 m 2 ls []) := by
  intro fu
  induction fu with
  | zero =>
    intro x1 x2 u H locs ls hP hD hS hl hM
    have hM : (none : Option (Int32 × Lib)) = some res := hM
    cases hM
  | succ fu ih =>
    intro x1 x2 u H locs ls hP hD hS hl hM
    exact w_L_oneLessIsEnough_2s C ih x1 x2 u H locs ls hP hD hS hl hM
set_option maxHeartbeats 4000000 in
set_option maxRecDepth 100000 in
theorem w_L_oneLessIsEnough_0 {res : (Int32 × Lib)} (C : Cx p s m args meth c prog_1_method_22_code 3 (Option.some FieldType.boolean) "PlainLibrary" tb D cl9 (tyy cI cJ cZ) A) (x1 : Int32) (u : Lib) (H : Heap) (locs : List Loc) (ls : Array Slot) (hP : va_P D cl9 ((cL cI cJ cZ ad) u) H) (hD : va_D A ((cL cI cJ cZ ad) u)) (hS : va_S A s.heap H locs) (hl : lv_has ls 3 [(0, .ref (ad 0)), (1, .int x1)]) (hM : B_L_oneLessIsEnough_0 x1 u = some res) : W p l e rm_L_oneLessIsEnough s m args below meth c H locs 0 0 (MQ below (Qwi D cl9 (tyy cI cJ cZ) (cL cI cJ cZ ad) A res) args s 0 0 A) (F0 m 0 ls []) := by
  have C0 := C
  obtain ⟨hx, hb, hr, hml, hown, hts, hlocks, hK, hA⟩ := C
  replace C := C0
  unfold B_L_oneLessIsEnough_0 at hM
  refine lv_iconst (v := (0 : Int32)) hx hb d_L_oneLessIsEnough_0 (by decide) ?_
  refine lv_istore_n (lv' := [(2, .int (0 : Int32)), (0, .ref (ad 0)), (1, .int x1)]) hx hb d_L_oneLessIsEnough_1 rfl hl (by decide) rfl (fun ls hl => ?_)
  exact w_L_oneLessIsEnough_2 C FU x1 (0 : Int32) u H locs ls hP hD hS (lv_sub hl [1, 2, 0] rfl) hM
end
set_option maxRecDepth 100000 in
theorem c_L_oneLessIsEnough (l : Launch) (D : va_G) (cI cJ cZ : ClassId) (ad : Nat → Nat) (sz : Nat) (x1 : Int32) (u : Lib) (res : (Int32 × Lib)) (hM : B_L_oneLessIsEnough_0 x1 u = some res) : Met l y_L_oneLessIsEnough ws_L_oneLessIsEnough rm_L_oneLessIsEnough (va_Pc [.ref (ad 0), .int x1] (pr_ D cl9 (tyy cI cJ cZ) (cL cI cJ cZ ad) u sz)) (Qwi D cl9 (tyy cI cJ cZ) (cL cI cJ cZ ad) (va_A ((cL cI cJ cZ ad) u) sz) res) 0 0 (va_A ((cL cI cJ cZ ad) u) sz) := by
  refine Met.ofW (cc := prog_1_method_22_code) (maxL := 3) (ret := (Option.some FieldType.boolean)) (by decide) rfl ?_
  intro p e s m args below meth c s₁ B hml hv
  obtain ⟨rfl, hsz, hP, hK, hD0⟩ := hv
  subst hsz
  have hts0 := atoms_spec (ws := ws_L_oneLessIsEnough) B.pre
  have hl := lv_entry ([.ref (ad 0), .int x1]) (n := 3) (Nat.le_of_ble_eq_true rfl)
  rw [lg_entry_eq]
  generalize (lg_sl ([.ref (ad 0), .int x1]) ++ List.replicate (3 - (lg_sl ([.ref (ad 0), .int x1])).length) Slot.unset).toArray = ls at hl ⊢
  exact w_L_oneLessIsEnough_0 ⟨B.exec, B.bytes, B.returns, hml, findClass_of_methodNamed B.named, fun w h => hts0 w (List.mem_cons_of_mem _ h), B.notSynchronized, hK, fun q h => Or.inr h⟩ x1 u s.heap [] ls hP hD0.self va_S.rf hl hM
section
variable {p : Program} {l : Launch} {e : Env} {s : State} {m : MethodId} {args : Array Value} {below : List Frame} {meth : Method} {c : Code} {D : va_G} {cI cJ cZ : ClassId} {A : Nat → Prop} {ad : Nat → Nat}
set_option maxHeartbeats 4000000 in
set_option maxRecDepth 100000 in
theorem w_L_twoLessAreEnough_19s {k2 : Int32 → Int32 → Lib → Option (Int32 × Lib)} {res : (Int32 × Lib)} (C : Cx p s m args meth c prog_1_method_23_code 5 (Option.some FieldType.boolean) "PlainLibrary" tb D cl9 (tyy cI cJ cZ) A) {k19 : Int32 → Int32 → Int32 → Int32 → Lib → Option (Int32 × Lib)} (hk2 : ∀ (x1 : Int32) (x2 : Int32) (u : Lib) (H : Heap) (locs : List Loc) (ls : Array Slot), va_P D cl9 ((cL cI cJ cZ ad) u) H → va_D A ((cL cI cJ cZ ad) u) → va_S A s.heap H locs → lv_has ls 5 [(0, .ref (ad 0)), (1, .int x1), (2, .int x2)] → k2 x1 x2 u = some res → W p l e rm_L_twoLessAreEnough s m args below meth c H locs 0 0 (MQ below (Qwi D cl9 (tyy cI cJ cZ) (cL cI cJ cZ ad) A res) args s 0 0 A) (F0 m 2 ls [])) (hk19 : ∀ (x1 : Int32) (x2 : Int32) (x3 : Int32) (x4 : Int32) (u : Lib) (H : Heap) (locs : List Loc) (ls : Array Slot), va_P D cl9 ((cL cI cJ cZ ad) u) H → va_D A ((cL cI cJ cZ ad) u) → va_S A s.heap H locs → lv_has ls 5 [(0, .ref (ad 0)), (1, .int x1), (2, .int x2), (3, .int x3), (4, .int x4)] → k19 x1 x2 x3 x4 u = some res → W p l e rm_L_twoLessAreEnough s m args below meth c H locs 0 0 (MQ below (Qwi D cl9 (tyy cI cJ cZ) (cL cI cJ cZ ad) A res) args s 0 0 A) (F0 m 19 ls [])) (x1 : Int32) (x2 : Int32) (x3 : Int32) (x4 : Int32) (u : Lib) (H : Heap) (locs : List Loc) (ls : Array Slot) (hP : va_P D cl9 ((cL cI cJ cZ ad) u) H) (hD : va_D A ((cL cI cJ cZ ad) u)) (hS : va_S A s.heap H locs) (hl : lv_has ls 5 [(0, .ref (ad 0)), (1, .int x1), (2, .int x2), (3, .int x3), (4, .int x4)]) (hM : B_L_twoLessAreEnough_19s k2 k19 x1 x2 x3 x4 u = some res) : W p l e rm_L_twoLessAreEnough s m args below meth c H locs 0 0 (MQ below (Qwi D cl9 (tyy cI cJ cZ) (cL cI cJ cZ ad) A res) args s 0 0 A) (F0 m 19 ls []) := by
  have C0 := C
  obtain ⟨hx, hb, hr, hml, hown, hts, hlocks, hK, hA⟩ := C
  replace C := C0
  unfold B_L_twoLessAreEnough_19s at hM
  refine lv_iload hx hb d_L_twoLessAreEnough_19 (lv_at hl 4 rfl) ?_
  refine lv_iload_n hx hb d_L_twoLessAreEnough_21 rfl (lv_at hl 3 rfl) ?_
  refine lv_icmp_gt (tgt := 44) hx hb d_L_twoLessAreEnough_22 (by decide) (fun c1 => ?_) (fun c1 => ?_)
  · replace hM := it_t c1 hM
    refine lv_iinc (v := (x2 + (1 : Int32))) (lv' := [(2, .int (x2 + (1 : Int32))), (0, .ref (ad 0)), (1, .int x1), (3, .int x3), (4, .int x4)]) hx hb d_L_twoLessAreEnough_44 hl (k := 2) rfl rfl (by decide) rfl (fun ls hl => ?_)
    refine lv_goto (tgt := 2) hx hb d_L_twoLessAreEnough_47 (by decide) ?_
    exact hk2 x1 (x2 + (1 : Int32)) u H locs ls hP hD hS (lv_sub hl [1, 2, 0] rfl) hM
  · replace hM := it_f c1 hM
    refine lv_aload_n hx hb d_L_twoLessAreEnough_25 rfl (lv_at hl 0 rfl) ?_
    refine lv_iload_n hx hb d_L_twoLessAreEnough_26 rfl (lv_at hl 2 rfl) ?_
    refine lv_iload hx hb d_L_twoLessAreEnough_27 (lv_at hl 4 rfl) ?_
    obtain ⟨v2, hq2, hM⟩ := bd_some hM
    refine fw_i (F := (cL cI cJ cZ ad)) (u := u) (res := v2) (va_runV (As := [.int x2, .int x4]) (rest := []) ⟨hx, hb, hml, hown, hts⟩ (c_L_firstVoidWithout l D cI cJ cZ ad H.size x2 x4 u v2 hq2) (cwV 2 hts (gV mm_331 mm_333 (ms_ 13 rfl rfl) mm_27 mm_334) rfl rfl rfl hd_L_firstVoidWithout ⟨Nat.le_of_ble_eq_true rfl, Nat.le_of_ble_eq_true rfl⟩) (pv_ (F := (cL cI cJ cZ ad)) (u := u) hK hP hD (va_recv hK hP (ci := 2) (q0 := 0) rfl rfl)) rfl rfl hl.1 rfl (lv_room (Nat.le_of_ble_eq_true rfl)) d_L_twoLessAreEnough_29 ⟨Nat.le_of_ble_eq_true rfl, Nat.le_of_ble_eq_true rfl⟩) hS (fa_ hD hS hA) (fun H locs hP hD hS => ?_)
    refine lv_iconst (v := (-1 : Int32)) hx hb d_L_twoLessAreEnough_32 (by decide) ?_
    refine lv_icmp_ne (tgt := 38) hx hb d_L_twoLessAreEnough_33 (by decide) (fun c3 => ?_) (fun c3 => ?_)
    · replace hM := it_f c3 hM
      refine lv_iinc (v := (x4 + (1 : Int32))) (lv' := [(4, .int (x4 + (1 : Int32))), (0, .ref (ad 0)), (1, .int x1), (2, .int x2), (3, .int x3)]) hx hb d_L_twoLessAreEnough_38 hl (k := 4) rfl rfl (by decide) rfl (fun ls hl => ?_)
      refine lv_goto (tgt := 19) hx hb d_L_twoLessAreEnough_41 (by decide) ?_
      exact hk19 x1 x2 x3 (x4 + (1 : Int32)) v2.2 H locs ls hP hD hS (lv_sub hl [1, 2, 3, 4, 0] rfl) hM
    · replace hM := it_t c3 hM
      refine lv_iconst (v := (1 : Int32)) hx hb d_L_twoLessAreEnough_36 (by decide) ?_
      obtain rfl := Option.some.inj hM
      exact W.zret (v := (1 : Int32)) hx hb hr rfl (fun t ht hW => ⟨⟨(1 : Int32), v2.2, rfl, rfl, by rw [ht]; exact hP, va_K.moved hW.alike hK, hD⟩, hS.F ht⟩) hS.2.2 d_L_twoLessAreEnough_37
theorem w_L_twoLessAreEnough_19 {k2 : Int32 → Int32 → Lib → Option (Int32 × Lib)} {res : (Int32 × Lib)} (C : Cx p s m args meth c prog_1_method_23_code 5 (Option.some FieldType.boolean) "PlainLibrary" tb D cl9 (tyy cI cJ cZ) A) (hk2 : ∀ (x1 : Int32) (x2 : Int32) (u : Lib) (H : Heap) (locs : List Loc) (ls : Array Slot), va_P D cl9 ((cL cI cJ cZ ad) u) H → va_D A ((cL cI cJ cZ ad) u) → va_S A s.heap H locs → lv_has ls 5 [(0, .ref (ad 0)), (1, .int x1), (2, .int x2)] → k2 x1 x2 u = some res → W p l e rm_L_twoLessAreEnough s m args below meth c H locs 0 0 (MQ below (Qwi D cl9 (tyy cI cJ cZ) (cL cI cJ cZ ad) A res) args s 0 0 A) (F0 m 2 ls [])) : ∀ (fu : Nat) (x1 : Int32) (x2 : Int32) (x3 : Int32) (x4 : Int32) (u : Lib) (H : Heap) (locs : List Loc) (ls : Array Slot), va_P D cl9 ((cL cI cJ cZ ad) u) H → va_D A ((cL cI cJ cZ ad) u) → va_S A s.heap H locs → lv_has ls 5 [(0, .ref (ad 0)), (1, .int x1), (2, .int x2), (3, .int x3), (4, .int x4)] → B_L_twoLessAreEnough_19 k2 fu x1 x2 x3 x4 u = some res → W p l e rm_L_twoLessAreEnough s m args below meth c H locs 0 0 (MQ below (Qwi D cl9 (tyy cI cJ cZ) (cL cI cJ cZ ad) A res) args s 0 0 A) (F0 m 19 ls []) := by
  intro fu
  induction fu with
  | zero =>
    intro x1 x2 x3 x4 u H locs ls hP hD hS hl hM
    have hM : (none : Option (Int32 × Lib)) = some res := hM
    cases hM
  | succ fu ih =>
    intro x1 x2 x3 x4 u H locs ls hP hD hS hl hM
    exact w_L_twoLessAreEnough_19s C hk2 ih x1 x2 x3 x4 u H locs ls hP hD hS hl hM
set_option maxHeartbeats 4000000 in
set_option maxRecDepth 100000 in
theorem w_L_twoLessAreEnough_2s {res : (Int32 × Lib)} (C : Cx p s m args meth c prog_1_method_23_code 5 (Option.some FieldType.boolean) "PlainLibrary" tb D cl9 (tyy cI cJ cZ) A) {k2 : Int32 → Int32 → Lib → Option (Int32 × Lib)} (hk2 : ∀ (x1 : Int32) (x2 : Int32) (u : Lib) (H : Heap) (locs : List Loc) (ls : Array Slot), va_P D cl9 ((cL cI cJ cZ ad) u) H → va_D A ((cL cI cJ cZ ad) u) → va_S A s.heap H locs → lv_has ls 5 [(0, .ref (ad 0)), (1, .int x1), (2, .int x2)] → k2 x1 x2 u = some res → W p l e rm_L_twoLessAreEnough s m args below meth c H locs 0 0 (MQ below (Qwi D cl9 (tyy cI cJ cZ) (cL cI cJ cZ ad) A res) args s 0 0 A) (F0 m 2 ls [])) (x1 : Int32) (x2 : Int32) (u : Lib) (H : Heap) (locs : List Loc) (ls : Array Slot) (hP : va_P D cl9 ((cL cI cJ cZ ad) u) H) (hD : va_D A ((cL cI cJ cZ ad) u)) (hS : va_S A s.heap H locs) (hl : lv_has ls 5 [(0, .ref (ad 0)), (1, .int x1), (2, .int x2)]) (hM : B_L_twoLessAreEnough_2s k2 x1 x2 u = some res) : W p l e rm_L_twoLessAreEnough s m args below meth c H locs 0 0 (MQ below (Qwi D cl9 (tyy cI cJ cZ) (cL cI cJ cZ ad) A res) args s 0 0 A) (F0 m 2 ls []) := by
  have C0 := C
  obtain ⟨hx, hb, hr, hml, hown, hts, hlocks, hK, hA⟩ := C
  replace C := C0
  unfold B_L_twoLessAreEnough_2s at hM
  refine lv_iload_n hx hb d_L_twoLessAreEnough_2 rfl (lv_at hl 2 rfl) ?_
  refine lv_iload_n hx hb d_L_twoLessAreEnough_3 rfl (lv_at hl 1 rfl) ?_
  refine lv_icmp_gt (tgt := 50) hx hb d_L_twoLessAreEnough_4 (by decide) (fun c1 => ?_) (fun c1 => ?_)
  · replace hM := it_t c1 hM
    refine lv_iconst (v := (0 : Int32)) hx hb d_L_twoLessAreEnough_50 (by decide) ?_
    obtain rfl := Option.some.inj hM
    exact W.zret (v := (0 : Int32)) hx hb hr rfl (fun t ht hW => ⟨⟨(0 : Int32), u, rfl, rfl, by rw [ht]; exact hP, va_K.moved hW.alike hK, hD⟩, hS.F ht⟩) hS.2.2 d_L_twoLessAreEnough_51
  · replace hM := it_f c1 hM
    refine lv_aload_n hx hb d_L_twoLessAreEnough_7 rfl (lv_at hl 0 rfl) ?_
    refine lv_iload_n hx hb d_L_twoLessAreEnough_8 rfl (lv_at hl 2 rfl) ?_
    refine lv_iconst (v := (-1 : Int32)) hx hb d_L_twoLessAreEnough_9 (by decide) ?_
    obtain ⟨v2, hq2, hM⟩ := bd_some hM
    refine fw_i (F := (cL cI cJ cZ ad)) (u := u) (res := v2) (va_runV (As := [.int x2, .int (-1 : Int32)]) (rest := []) ⟨hx, hb, hml, hown, hts⟩ (c_L_firstVoidWithout l D cI cJ cZ ad H.size x2 (-1 : Int32) u v2 hq2) (cwV 2 hts (gV mm_331 mm_333 (ms_ 13 rfl rfl) mm_27 mm_334) rfl rfl rfl hd_L_firstVoidWithout ⟨Nat.le_of_ble_eq_true rfl, Nat.le_of_ble_eq_true rfl⟩) (pv_ (F := (cL cI cJ cZ ad)) (u := u) hK hP hD (va_recv hK hP (ci := 2) (q0 := 0) rfl rfl)) rfl rfl hl.1 rfl (lv_room (Nat.le_of_ble_eq_true rfl)) d_L_twoLessAreEnough_10 ⟨Nat.le_of_ble_eq_true rfl, Nat.le_of_ble_eq_true rfl⟩) hS (fa_ hD hS hA) (fun H locs hP hD hS => ?_)
    refine lv_istore_n (lv' := [(3, .int v2.1), (0, .ref (ad 0)), (1, .int x1), (2, .int x2)]) hx hb d_L_twoLessAreEnough_13 rfl hl (by decide) rfl (fun ls hl => ?_)
    refine lv_iload_n hx hb d_L_twoLessAreEnough_14 rfl (lv_at hl 3 rfl) ?_
    refine lv_iconst (v := (1 : Int32)) hx hb d_L_twoLessAreEnough_15 (by decide) ?_
    refine lv_iadd hx hb d_L_twoLessAreEnough_16 ?_
    refine lv_istore (lv' := [(4, .int (x2 + (1 : Int32))), (3, .int v2.1), (0, .ref (ad 0)), (1, .int x1), (2, .int x2)]) hx hb d_L_twoLessAreEnough_17 hl (by decide) rfl (fun ls hl => ?_)
    exact w_L_twoLessAreEnough_19 C hk2 FU x1 x2 v2.1 (x2 + (1 : Int32)) v2.2 H locs ls hP hD hS (lv_sub hl [2, 3, 4, 1, 0] rfl) hM
theorem w_L_twoLessAreEnough_2 {res : (Int32 × Lib)} (C : Cx p s m args meth c prog_1_method_23_code 5 (Option.some FieldType.boolean) "PlainLibrary" tb D cl9 (tyy cI cJ cZ) A) : ∀ (fu : Nat) (x1 : Int32) (x2 : Int32) (u : Lib) (H : Heap) (locs : List Loc) (ls : Array Slot), va_P D cl9 ((cL cI cJ cZ ad) u) H → va_D A ((cL cI cJ cZ ad) u) → va_S A s.heap H locs → lv_has ls 5 [(0, .ref (ad 0)), (1, .int x1), (2, .int x2)] → B_L_twoLessAreEnough_2 fu x1 x2 u = some res → W p l e rm_L_twoLessAreEnough s m args below meth c H locs 0 0 (MQ below (Qwi D cl9 (tyy cI cJ cZ) (cL cI cJ cZ ad) A res) args s 0 0 A) (F0 m 2 ls []) := by
  intro fu
  induction fu with
  | zero =>
    intro x1 x2 u H locs ls hP hD hS hl hM
    have hM : (none : Option (Int32 × Lib)) = some res := hM
    cases hM
  | succ fu ih =>
    intro x1 x2 u H locs ls hP hD hS hl hM
    exact w_L_twoLessAreEnough_2s C ih x1 x2 u H locs ls hP hD hS hl hM
set_option maxHeartbeats 4000000 in
set_option maxRecDepth 100000 in
theorem w_L_twoLessAreEnough_0 {res : (Int32 × Lib)} (C : Cx p s m args meth c prog_1_method_23_code 5 (Option.some FieldType.boolean) "PlainLibrary" tb D cl9 (tyy cI cJ cZ) A) (x1 : Int32) (u : Lib) (H : Heap) (locs : List Loc) (ls : Array Slot) (hP : va_P D cl9 ((cL cI cJ cZ ad) u) H) (hD : va_D A ((cL cI cJ cZ ad) u)) (hS : va_S A s.heap H locs) (hl : lv_has ls 5 [(0, .ref (ad 0)), (1, .int x1)]) (hM : B_L_twoLessAreEnough_0 x1 u = some res) : W p l e rm_L_twoLessAreEnough s m args below meth c H locs 0 0 (MQ below (Qwi D cl9 (tyy cI cJ cZ) (cL cI cJ cZ ad) A res) args s 0 0 A) (F0 m 0 ls []) := by
  have C0 := C
  obtain ⟨hx, hb, hr, hml, hown, hts, hlocks, hK, hA⟩ := C
  replace C := C0
  unfold B_L_twoLessAreEnough_0 at hM
  refine lv_iconst (v := (0 : Int32)) hx hb d_L_twoLessAreEnough_0 (by decide) ?_
  refine lv_istore_n (lv' := [(2, .int (0 : Int32)), (0, .ref (ad 0)), (1, .int x1)]) hx hb d_L_twoLessAreEnough_1 rfl hl (by decide) rfl (fun ls hl => ?_)
  exact w_L_twoLessAreEnough_2 C FU x1 (0 : Int32) u H locs ls hP hD hS (lv_sub hl [1, 2, 0] rfl) hM
end
set_option maxRecDepth 100000 in
theorem c_L_twoLessAreEnough (l : Launch) (D : va_G) (cI cJ cZ : ClassId) (ad : Nat → Nat) (sz : Nat) (x1 : Int32) (u : Lib) (res : (Int32 × Lib)) (hM : B_L_twoLessAreEnough_0 x1 u = some res) : Met l y_L_twoLessAreEnough ws_L_twoLessAreEnough rm_L_twoLessAreEnough (va_Pc [.ref (ad 0), .int x1] (pr_ D cl9 (tyy cI cJ cZ) (cL cI cJ cZ ad) u sz)) (Qwi D cl9 (tyy cI cJ cZ) (cL cI cJ cZ ad) (va_A ((cL cI cJ cZ ad) u) sz) res) 0 0 (va_A ((cL cI cJ cZ ad) u) sz) := by
  refine Met.ofW (cc := prog_1_method_23_code) (maxL := 5) (ret := (Option.some FieldType.boolean)) (by decide) rfl ?_
  intro p e s m args below meth c s₁ B hml hv
  obtain ⟨rfl, hsz, hP, hK, hD0⟩ := hv
  subst hsz
  have hts0 := atoms_spec (ws := ws_L_twoLessAreEnough) B.pre
  have hl := lv_entry ([.ref (ad 0), .int x1]) (n := 5) (Nat.le_of_ble_eq_true rfl)
  rw [lg_entry_eq]
  generalize (lg_sl ([.ref (ad 0), .int x1]) ++ List.replicate (5 - (lg_sl ([.ref (ad 0), .int x1])).length) Slot.unset).toArray = ls at hl ⊢
  exact w_L_twoLessAreEnough_0 ⟨B.exec, B.bytes, B.returns, hml, findClass_of_methodNamed B.named, fun w h => hts0 w (List.mem_cons_of_mem _ h), B.notSynchronized, hK, fun q h => Or.inr h⟩ x1 u s.heap [] ls hP hD0.self va_S.rf hl hM
section
variable {p : Program} {l : Launch} {e : Env} {s : State} {m : MethodId} {args : Array Value} {below : List Frame} {meth : Method} {c : Code} {D : va_G} {cI cJ cZ : ClassId} {A : Nat → Prop} {ad : Nat → Nat}
set_option maxHeartbeats 4000000 in
set_option maxRecDepth 100000 in
theorem w_L_least_0 {res : (Int32 × Lib)} (C : Cx p s m args meth c prog_1_method_15_code 2 (Option.some FieldType.int) "PlainLibrary" tb D cl9 (tyy cI cJ cZ) A) (u : Lib) (H : Heap) (locs : List Loc) (ls : Array Slot) (hP : va_P D cl9 ((cL cI cJ cZ ad) u) H) (hD : va_D A ((cL cI cJ cZ ad) u)) (hS : va_S A s.heap H locs) (hl : lv_has ls 2 [(0, .ref (ad 0))]) (hM : B_L_least_0 u = some res) : W p l e rm_L_least s m args below meth c H locs 0 0 (MQ below (Qwi D cl9 (tyy cI cJ cZ) (cL cI cJ cZ ad) A res) args s 0 0 A) (F0 m 0 ls []) := by
  have C0 := C
  obtain ⟨hx, hb, hr, hml, hown, hts, hlocks, hK, hA⟩ := C
  replace C := C0
  unfold B_L_least_0 at hM
  refine lv_aload_n hx hb d_L_least_0 rfl (lv_at hl 0 rfl) ?_
  refine va_get (D := D) (ci := 2) (v := .ref (ad 1)) (C := R_L) (T := T_L) (N := 4) hx hb hts in_L hown hK hP 0 rfl rfl 0 (by decide) (hts _ mm_100) (fun _ h9 => h9) rfl d_L_least_1 ?_
  obtain ⟨v1, hq1, hM⟩ := bd_some hM
  refine fr_i (res := v1) (va_runV (As := []) (rest := []) ⟨hx, hb, hml, hown, hts⟩ (c_R_size l D cI cJ cZ ad H.size u v1 hq1) (cwV 0 hts (gV mm_143 mm_144 mm_145 mm_28 mm_146) rfl rfl rfl hd_R_size ⟨Nat.le_of_ble_eq_true rfl, Nat.le_of_ble_eq_true rfl⟩) (pv_ (F := (cL cI cJ cZ ad)) (u := u) hK hP hD (va_recv hK hP (ci := 0) (q0 := 1) rfl rfl)) rfl rfl hl.1 rfl (lv_room (Nat.le_of_ble_eq_true rfl)) d_L_least_4 ⟨Nat.le_of_ble_eq_true rfl, Nat.le_of_ble_eq_true rfl⟩) hP hS hA (fun H locs hP hS => ?_)
  refine lv_bipush (v := (30 : Int32)) hx hb d_L_least_7 (by decide) ?_
  refine lv_icmp_le (tgt := 15) hx hb d_L_least_9 (by decide) (fun c2 => ?_) (fun c2 => ?_)
  · replace hM := it_t c2 hM
    refine lv_aload_n hx hb d_L_least_15 rfl (lv_at hl 0 rfl) ?_
    refine lv_iconst (v := (-1 : Int32)) hx hb d_L_least_16 (by decide) ?_
    refine lv_iconst (v := (-1 : Int32)) hx hb d_L_least_17 (by decide) ?_
    obtain ⟨v3, hq3, hM⟩ := bd_some hM
    refine fw_i (F := (cL cI cJ cZ ad)) (u := u) (res := v3) (va_runV (As := [.int (-1 : Int32), .int (-1 : Int32)]) (rest := []) ⟨hx, hb, hml, hown, hts⟩ (c_L_firstVoidWithout l D cI cJ cZ ad H.size (-1 : Int32) (-1 : Int32) u v3 hq3) (cwV 2 hts (gV mm_331 mm_333 (ms_ 13 rfl rfl) mm_27 mm_334) rfl rfl rfl hd_L_firstVoidWithout ⟨Nat.le_of_ble_eq_true rfl, Nat.le_of_ble_eq_true rfl⟩) (pv_ (F := (cL cI cJ cZ ad)) (u := u) hK hP hD (va_recv hK hP (ci := 2) (q0 := 0) rfl rfl)) rfl rfl hl.1 rfl (lv_room (Nat.le_of_ble_eq_true rfl)) d_L_least_18 ⟨Nat.le_of_ble_eq_true rfl, Nat.le_of_ble_eq_true rfl⟩) hS (fa_ hD hS hA) (fun H locs hP hD hS => ?_)
    refine lv_istore_n (lv' := [(1, .int v3.1), (0, .ref (ad 0))]) hx hb d_L_least_21 rfl hl (by decide) rfl (fun ls hl => ?_)
    refine lv_iload_n hx hb d_L_least_22 rfl (lv_at hl 0 rfl) ?_
    refine lv_iconst (v := (-1 : Int32)) hx hb d_L_least_23 (by decide) ?_
    refine lv_icmp_ne (tgt := 29) hx hb d_L_least_24 (by decide) (fun c4 => ?_) (fun c4 => ?_)
    · replace hM := it_f c4 hM
      refine lv_aload_n hx hb d_L_least_29 rfl (lv_at hl 1 rfl) ?_
      refine lv_iload_n hx hb d_L_least_30 rfl (lv_at hl 0 rfl) ?_
      obtain ⟨v5, hq5, hM⟩ := bd_some hM
      refine fw_i (F := (cL cI cJ cZ ad)) (u := v3.2) (res := v5) (va_runV (As := [.int v3.1]) (rest := []) ⟨hx, hb, hml, hown, hts⟩ (c_L_oneLessIsEnough l D cI cJ cZ ad H.size v3.1 v3.2 v5 hq5) (cwV 1 hts (gV mm_335 mm_337 (ms_ 14 rfl rfl) mm_27 mm_338) rfl rfl rfl hd_L_oneLessIsEnough ⟨Nat.le_of_ble_eq_true rfl, Nat.le_of_ble_eq_true rfl⟩) (pv_ (F := (cL cI cJ cZ ad)) (u := v3.2) hK hP hD (va_recv hK hP (ci := 2) (q0 := 0) rfl rfl)) rfl rfl hl.1 rfl (lv_room (Nat.le_of_ble_eq_true rfl)) d_L_least_31 ⟨Nat.le_of_ble_eq_true rfl, Nat.le_of_ble_eq_true rfl⟩) hS (fa_ hD hS hA) (fun H locs hP hD hS => ?_)
      refine lv_if_eq (tgt := 39) hx hb d_L_least_34 (by decide) (fun c6 => ?_) (fun c6 => ?_)
      · replace hM := it_t c6 hM
        refine lv_aload_n hx hb d_L_least_39 rfl (lv_at hl 1 rfl) ?_
        refine lv_iload_n hx hb d_L_least_40 rfl (lv_at hl 0 rfl) ?_
        obtain ⟨v7, hq7, hM⟩ := bd_some hM
        refine fw_i (F := (cL cI cJ cZ ad)) (u := v5.2) (res := v7) (va_runV (As := [.int v3.1]) (rest := []) ⟨hx, hb, hml, hown, hts⟩ (c_L_twoLessAreEnough l D cI cJ cZ ad H.size v3.1 v5.2 v7 hq7) (cwV 1 hts (gV mm_339 mm_341 (ms_ 15 rfl rfl) mm_27 mm_342) rfl rfl rfl hd_L_twoLessAreEnough ⟨Nat.le_of_ble_eq_true rfl, Nat.le_of_ble_eq_true rfl⟩) (pv_ (F := (cL cI cJ cZ ad)) (u := v5.2) hK hP hD (va_recv hK hP (ci := 2) (q0 := 0) rfl rfl)) rfl rfl hl.1 rfl (lv_room (Nat.le_of_ble_eq_true rfl)) d_L_least_41 ⟨Nat.le_of_ble_eq_true rfl, Nat.le_of_ble_eq_true rfl⟩) hS (fa_ hD hS hA) (fun H locs hP hD hS => ?_)
        refine lv_if_eq (tgt := 51) hx hb d_L_least_44 (by decide) (fun c8 => ?_) (fun c8 => ?_)
        · replace hM := it_t c8 hM
          refine lv_iconst (v := (3 : Int32)) hx hb d_L_least_51 (by decide) ?_
          obtain rfl := Option.some.inj hM
          exact W.iret (v := (3 : Int32)) hx hb hr (fun t ht hW => ⟨⟨(3 : Int32), v7.2, rfl, rfl, by rw [ht]; exact hP, va_K.moved hW.alike hK, hD⟩, hS.F ht⟩) hS.2.2 d_L_least_52
        · replace hM := it_f c8 hM
          refine lv_iconst (v := (2 : Int32)) hx hb d_L_least_47 (by decide) ?_
          refine lv_goto (tgt := 52) hx hb d_L_least_48 (by decide) ?_
          obtain rfl := Option.some.inj hM
          exact W.iret (v := (2 : Int32)) hx hb hr (fun t ht hW => ⟨⟨(2 : Int32), v7.2, rfl, rfl, by rw [ht]; exact hP, va_K.moved hW.alike hK, hD⟩, hS.F ht⟩) hS.2.2 d_L_least_52
      · replace hM := it_f c6 hM
        refine lv_iconst (v := (1 : Int32)) hx hb d_L_least_37 (by decide) ?_
        obtain rfl := Option.some.inj hM
        exact W.iret (v := (1 : Int32)) hx hb hr (fun t ht hW => ⟨⟨(1 : Int32), v5.2, rfl, rfl, by rw [ht]; exact hP, va_K.moved hW.alike hK, hD⟩, hS.F ht⟩) hS.2.2 d_L_least_38
    · replace hM := it_t c4 hM
      refine lv_iconst (v := (0 : Int32)) hx hb d_L_least_27 (by decide) ?_
      obtain rfl := Option.some.inj hM
      exact W.iret (v := (0 : Int32)) hx hb hr (fun t ht hW => ⟨⟨(0 : Int32), v3.2, rfl, rfl, by rw [ht]; exact hP, va_K.moved hW.alike hK, hD⟩, hS.F ht⟩) hS.2.2 d_L_least_28
  · replace hM := it_f c2 hM
    refine lv_bipush (v := (-9 : Int32)) hx hb d_L_least_12 (by decide) ?_
    obtain rfl := Option.some.inj hM
    exact W.iret (v := (-9 : Int32)) hx hb hr (fun t ht hW => ⟨⟨(-9 : Int32), u, rfl, rfl, by rw [ht]; exact hP, va_K.moved hW.alike hK, hD⟩, hS.F ht⟩) hS.2.2 d_L_least_14
end
set_option maxRecDepth 100000 in
theorem c_L_least (l : Launch) (D : va_G) (cI cJ cZ : ClassId) (ad : Nat → Nat) (sz : Nat) (u : Lib) (res : (Int32 × Lib)) (hM : B_L_least_0 u = some res) : Met l y_L_least ws_L_least rm_L_least (va_Pc [.ref (ad 0)] (pr_ D cl9 (tyy cI cJ cZ) (cL cI cJ cZ ad) u sz)) (Qwi D cl9 (tyy cI cJ cZ) (cL cI cJ cZ ad) (va_A ((cL cI cJ cZ ad) u) sz) res) 0 0 (va_A ((cL cI cJ cZ ad) u) sz) := by
  refine Met.ofW (cc := prog_1_method_15_code) (maxL := 2) (ret := (Option.some FieldType.int)) (by decide) rfl ?_
  intro p e s m args below meth c s₁ B hml hv
  obtain ⟨rfl, hsz, hP, hK, hD0⟩ := hv
  subst hsz
  have hts0 := atoms_spec (ws := ws_L_least) B.pre
  have hl := lv_entry ([.ref (ad 0)]) (n := 2) (Nat.le_of_ble_eq_true rfl)
  rw [lg_entry_eq]
  generalize (lg_sl ([.ref (ad 0)]) ++ List.replicate (2 - (lg_sl ([.ref (ad 0)])).length) Slot.unset).toArray = ls at hl ⊢
  exact w_L_least_0 ⟨B.exec, B.bytes, B.returns, hml, findClass_of_methodNamed B.named, fun w h => hts0 w (List.mem_cons_of_mem _ h), B.notSynchronized, hK, fun q h => Or.inr h⟩ u s.heap [] ls hP hD0.self va_S.rf hl hM
