section
variable {p : Program} {l : Launch} {e : Env} {s : State} {m : MethodId} {args : Array Value} {below : List Frame} {meth : Method} {c : Code} {D : va_G} {cI cJ cZ : ClassId} {A : Nat → Prop}
set_option maxHeartbeats 4000000 in
set_option maxRecDepth 100000 in
theorem w_M_isNumber_0 {res : Int32} (C : Cx p s m args meth c prog_5_method_16_code 1 (Option.some FieldType.boolean) "PlainLibraryModel" tb D cl9 (tyy cI cJ cZ) A) (x0 : Int32) (H : Heap) (locs : List Loc) (ls : Array Slot) (hP : va_P D cl9 (nW ()) H) (hD : va_D (fun _ => True) (nW ())) (hS : va_S A s.heap H locs) (hl : lv_has ls 1 [(0, .int x0)]) (hM : B_M_isNumber_0 x0 = some res) : W p l e rm_M_isNumber s m args below meth c H locs 0 0 (MQ below (Qri A res) args s 0 0 A) (F0 m 0 ls []) := by
  have C0 := C
  obtain ⟨hx, hb, hr, hml, hown, hts, hlocks, hK, hA⟩ := C
  replace C := C0
  unfold B_M_isNumber_0 at hM
  refine lv_iload_n hx hb d_M_isNumber_0 rfl (lv_at hl 0 rfl) ?_
  refine lv_if_le (tgt := 14) hx hb d_M_isNumber_1 (by decide) (fun c1 => ?_) (fun c1 => ?_)
  · replace hM := it_t c1 hM
    refine lv_iconst (v := (0 : Int32)) hx hb d_M_isNumber_14 (by decide) ?_
    obtain rfl := Option.some.inj hM
    exact W.zret (v := (0 : Int32)) hx hb hr rfl (fun t ht hW => ⟨⟨(0 : Int32), (), rfl, rfl, trivial⟩, hS.F ht⟩) hS.2.2 d_M_isNumber_15
  · replace hM := it_f c1 hM
    refine lv_iload_n hx hb d_M_isNumber_4 rfl (lv_at hl 0 rfl) ?_
    refine lv_bipush (v := (21 : Int32)) hx hb d_M_isNumber_5 (by decide) ?_
    refine lv_icmp_ge (tgt := 14) hx hb d_M_isNumber_7 (by decide) (fun c2 => ?_) (fun c2 => ?_)
    · replace hM := it_t c2 hM
      refine lv_iconst (v := (0 : Int32)) hx hb d_M_isNumber_14 (by decide) ?_
      obtain rfl := Option.some.inj hM
      exact W.zret (v := (0 : Int32)) hx hb hr rfl (fun t ht hW => ⟨⟨(0 : Int32), (), rfl, rfl, trivial⟩, hS.F ht⟩) hS.2.2 d_M_isNumber_15
    · replace hM := it_f c2 hM
      refine lv_iconst (v := (1 : Int32)) hx hb d_M_isNumber_10 (by decide) ?_
      refine lv_goto (tgt := 15) hx hb d_M_isNumber_11 (by decide) ?_
      obtain rfl := Option.some.inj hM
      exact W.zret (v := (1 : Int32)) hx hb hr rfl (fun t ht hW => ⟨⟨(1 : Int32), (), rfl, rfl, trivial⟩, hS.F ht⟩) hS.2.2 d_M_isNumber_15
end
set_option maxRecDepth 100000 in
theorem c_M_isNumber (l : Launch) (D : va_G) (cI cJ cZ : ClassId) (sz : Nat) (x0 : Int32) (res : Int32) (hM : B_M_isNumber_0 x0 = some res) : Met l y_M_isNumber ws_M_isNumber rm_M_isNumber (va_Pc [.int x0] (pr_ D cl9 (tyy cI cJ cZ) nW () sz)) (Qri (va_A [] sz) res) 0 0 (va_A [] sz) := by
  refine Met.ofW (cc := prog_5_method_16_code) (maxL := 1) (ret := (Option.some FieldType.boolean)) (by decide) rfl ?_
  intro p e s m args below meth c s₁ B hml hv
  obtain ⟨rfl, hsz, hP, hK, hD0⟩ := hv
  subst hsz
  have hts0 := atoms_spec (ws := ws_M_isNumber) B.pre
  have hl := lv_entry ([.int x0]) (n := 1) (Nat.le_of_ble_eq_true rfl)
  rw [lg_entry_eq]
  generalize (lg_sl ([.int x0]) ++ List.replicate (1 - (lg_sl ([.int x0])).length) Slot.unset).toArray = ls at hl ⊢
  exact w_M_isNumber_0 ⟨B.exec, B.bytes, B.returns, hml, findClass_of_methodNamed B.named, fun w h => hts0 w (List.mem_cons_of_mem _ h), B.notSynchronized, hK, fun q h => Or.inr h⟩ x0 s.heap [] ls hP hD0 va_S.rf hl hM
section
variable {p : Program} {l : Launch} {e : Env} {s : State} {m : MethodId} {args : Array Value} {below : List Frame} {meth : Method} {c : Code} {D : va_G} {cI cJ cZ : ClassId} {A : Nat → Prop} {bd : Nat → Nat}
set_option maxHeartbeats 4000000 in
set_option maxRecDepth 100000 in
theorem w_M_counts_0 {res : (Int32 × Mod)} (C : Cx p s m args meth c prog_5_method_17_code 2 (Option.some FieldType.int) "PlainLibraryModel" tb D cl9 (tyy cI cJ cZ) A) (x1 : Int32) (u : Mod) (H : Heap) (locs : List Loc) (ls : Array Slot) (hP : va_P D cl9 ((cM cI cJ cZ bd) u) H) (hD : va_D A ((cM cI cJ cZ bd) u)) (hS : va_S A s.heap H locs) (hl : lv_has ls 2 [(0, .ref (bd 0)), (1, .int x1)]) (hM : B_M_counts_0 x1 u = some res) : W p l e rm_M_counts s m args below meth c H locs 0 0 (MQ below (Qwi D cl9 (tyy cI cJ cZ) (cM cI cJ cZ bd) A res) args s 0 0 A) (F0 m 0 ls []) := by
  have C0 := C
  obtain ⟨hx, hb, hr, hml, hown, hts, hlocks, hK, hA⟩ := C
  replace C := C0
  unfold B_M_counts_0 at hM
  refine lv_aload_n hx hb d_M_counts_0 rfl (lv_at hl 0 rfl) ?_
  refine lv_iconst (v := (0 : Int32)) hx hb d_M_counts_1 (by decide) ?_
  refine va_put (D := D) (ci := 3) (v := .int (0 : Int32)) (ty := .int) (C := R_M) (T := T_M) (N := 21) hx hb hts in_M ty_M tk_M nm_M hown hK hP hD hS 0 rfl rfl 0 (by decide) (hts _ mm_349) (fun _ h9 => h9) rfl (by decide +kernel) rfl rfl (Nat.le_of_ble_eq_true rfl) d_M_counts_2 (fun H locs hP hD hS => ?_)
  have hP : va_P D cl9 ((cM cI cJ cZ bd) (m_th_w u (0 : Int32))) H := reP (zcM_th cI cJ cZ bd u (0 : Int32)) hP
  have hD : va_D A ((cM cI cJ cZ bd) (m_th_w u (0 : Int32))) := reD (zcM_th cI cJ cZ bd u (0 : Int32)) hD
  refine lv_iload_n hx hb d_M_counts_5 rfl (lv_at hl 1 rfl) ?_
  refine lv_if_lt (tgt := 17) hx hb d_M_counts_6 (by decide) (fun c1 => ?_) (fun c1 => ?_)
  · replace hM := it_t c1 hM
    refine lv_iconst (v := (-1 : Int32)) hx hb d_M_counts_17 (by decide) ?_
    obtain rfl := Option.some.inj hM
    exact W.iret (v := (-1 : Int32)) hx hb hr (fun t ht hW => ⟨⟨(-1 : Int32), (m_th_w u (0 : Int32)), rfl, rfl, by rw [ht]; exact hP, va_K.moved hW.alike hK, hD⟩, hS.F ht⟩) hS.2.2 d_M_counts_18
  · replace hM := it_f c1 hM
    refine lv_iload_n hx hb d_M_counts_9 rfl (lv_at hl 1 rfl) ?_
    refine lv_aload_n hx hb d_M_counts_10 rfl (lv_at hl 0 rfl) ?_
    refine va_get (D := D) (ci := 3) (v := .int (m_ct (m_th_w u (0 : Int32)))) (C := R_M) (T := T_M) (N := 21) hx hb hts in_M hown hK hP 0 rfl rfl 5 (by decide) (hts _ mm_354) (fun _ h9 => h9) rfl d_M_counts_11 ?_
    refine lv_icmp_lt (tgt := 19) hx hb d_M_counts_14 (by decide) (fun c2 => ?_) (fun c2 => ?_)
    · replace hM := it_t c2 hM
      refine lv_aload_n hx hb d_M_counts_19 rfl (lv_at hl 0 rfl) ?_
      obtain ⟨v3, hq3, hM⟩ := bd_some hM
      refine fw_v (F := (cM cI cJ cZ bd)) (u := (m_th_w u (0 : Int32))) (res := v3) (va_runV (As := []) (rest := []) ⟨hx, hb, hml, hown, hts⟩ (c_M_all l D cI cJ cZ bd H.size (m_th_w u (0 : Int32)) v3 hq3) (cwV 0 hts (gV mm_434 mm_436 (ms_ 16 rfl rfl) mm_30 mm_437) rfl rfl rfl hd_M_all ⟨Nat.le_of_ble_eq_true rfl, Nat.le_of_ble_eq_true rfl⟩) (pv_ (F := (cM cI cJ cZ bd)) (u := (m_th_w u (0 : Int32))) hK hP hD (va_recv hK hP (ci := 3) (q0 := 0) rfl rfl)) rfl rfl hl.1 rfl (lv_room (Nat.le_of_ble_eq_true rfl)) d_M_counts_20 ⟨Nat.le_of_ble_eq_true rfl, Nat.le_of_ble_eq_true rfl⟩) hS (fa_ hD hS hA) (fun H locs hP hD hS => ?_)
      refine lv_aload_n hx hb d_M_counts_23 rfl (lv_at hl 0 rfl) ?_
      refine va_get (D := D) (ci := 3) (v := .ref (bd 14)) (C := R_M) (T := T_M) (N := 21) hx hb hts in_M hown hK hP 0 rfl rfl 15 (by decide) (hts _ mm_364) (fun _ h9 => h9) rfl d_M_counts_24 ?_
      refine lv_iload_n hx hb d_M_counts_27 rfl (lv_at hl 1 rfl) ?_
      obtain ⟨h4, hM⟩ := gd_some hM
      refine va_zald hx hb hK hP 14 2 rfl rfl (vp_in_iff.mpr h4) d_M_counts_28 ?_
      refine lv_if_eq (tgt := 36) hx hb d_M_counts_29 (by decide) (fun c5 => ?_) (fun c5 => ?_)
      · replace hM := it_t c5 hM
        refine lv_iconst (v := (1 : Int32)) hx hb d_M_counts_36 (by decide) ?_
        obtain rfl := Option.some.inj hM
        exact W.iret (v := (1 : Int32)) hx hb hr (fun t ht hW => ⟨⟨(1 : Int32), v3, rfl, rfl, by rw [ht]; exact hP, va_K.moved hW.alike hK, hD⟩, hS.F ht⟩) hS.2.2 d_M_counts_37
      · replace hM := it_f c5 hM
        refine lv_iconst (v := (0 : Int32)) hx hb d_M_counts_32 (by decide) ?_
        refine lv_goto (tgt := 37) hx hb d_M_counts_33 (by decide) ?_
        obtain rfl := Option.some.inj hM
        exact W.iret (v := (0 : Int32)) hx hb hr (fun t ht hW => ⟨⟨(0 : Int32), v3, rfl, rfl, by rw [ht]; exact hP, va_K.moved hW.alike hK, hD⟩, hS.F ht⟩) hS.2.2 d_M_counts_37
    · replace hM := it_f c2 hM
      refine lv_iconst (v := (-1 : Int32)) hx hb d_M_counts_17 (by decide) ?_
      obtain rfl := Option.some.inj hM
      exact W.iret (v := (-1 : Int32)) hx hb hr (fun t ht hW => ⟨⟨(-1 : Int32), (m_th_w u (0 : Int32)), rfl, rfl, by rw [ht]; exact hP, va_K.moved hW.alike hK, hD⟩, hS.F ht⟩) hS.2.2 d_M_counts_18
end
set_option maxRecDepth 100000 in
theorem c_M_counts (l : Launch) (D : va_G) (cI cJ cZ : ClassId) (bd : Nat → Nat) (sz : Nat) (x1 : Int32) (u : Mod) (res : (Int32 × Mod)) (hM : B_M_counts_0 x1 u = some res) : Met l y_M_counts ws_M_counts rm_M_counts (va_Pc [.ref (bd 0), .int x1] (pr_ D cl9 (tyy cI cJ cZ) (cM cI cJ cZ bd) u sz)) (Qwi D cl9 (tyy cI cJ cZ) (cM cI cJ cZ bd) (va_A ((cM cI cJ cZ bd) u) sz) res) 0 0 (va_A ((cM cI cJ cZ bd) u) sz) := by
  refine Met.ofW (cc := prog_5_method_17_code) (maxL := 2) (ret := (Option.some FieldType.int)) (by decide) rfl ?_
  intro p e s m args below meth c s₁ B hml hv
  obtain ⟨rfl, hsz, hP, hK, hD0⟩ := hv
  subst hsz
  have hts0 := atoms_spec (ws := ws_M_counts) B.pre
  have hl := lv_entry ([.ref (bd 0), .int x1]) (n := 2) (Nat.le_of_ble_eq_true rfl)
  rw [lg_entry_eq]
  generalize (lg_sl ([.ref (bd 0), .int x1]) ++ List.replicate (2 - (lg_sl ([.ref (bd 0), .int x1])).length) Slot.unset).toArray = ls at hl ⊢
  exact w_M_counts_0 ⟨B.exec, B.bytes, B.returns, hml, findClass_of_methodNamed B.named, fun w h => hts0 w (List.mem_cons_of_mem _ h), B.notSynchronized, hK, fun q h => Or.inr h⟩ x1 u s.heap [] ls hP hD0.self va_S.rf hl hM
section
variable {p : Program} {l : Launch} {e : Env} {s : State} {m : MethodId} {args : Array Value} {below : List Frame} {meth : Method} {c : Code} {D : va_G} {cI cJ cZ : ClassId} {A : Nat → Prop} {bd : Nat → Nat}
set_option maxHeartbeats 4000000 in
set_option maxRecDepth 100000 in
theorem w_M_events_0 {res : (Int32 × Mod)} (C : Cx p s m args meth c prog_5_method_18_code 1 (Option.some FieldType.int) "PlainLibraryModel" tb D cl9 (tyy cI cJ cZ) A) (u : Mod) (H : Heap) (locs : List Loc) (ls : Array Slot) (hP : va_P D cl9 ((cM cI cJ cZ bd) u) H) (hD : va_D A ((cM cI cJ cZ bd) u)) (hS : va_S A s.heap H locs) (hl : lv_has ls 1 [(0, .ref (bd 0))]) (hM : B_M_events_0 u = some res) : W p l e rm_M_events s m args below meth c H locs 0 0 (MQ below (Qwi D cl9 (tyy cI cJ cZ) (cM cI cJ cZ bd) A res) args s 0 0 A) (F0 m 0 ls []) := by
  have C0 := C
  obtain ⟨hx, hb, hr, hml, hown, hts, hlocks, hK, hA⟩ := C
  replace C := C0
  unfold B_M_events_0 at hM
  refine lv_aload_n hx hb d_M_events_0 rfl (lv_at hl 0 rfl) ?_
  refine lv_iconst (v := (0 : Int32)) hx hb d_M_events_1 (by decide) ?_
  refine va_put (D := D) (ci := 3) (v := .int (0 : Int32)) (ty := .int) (C := R_M) (T := T_M) (N := 21) hx hb hts in_M ty_M tk_M nm_M hown hK hP hD hS 0 rfl rfl 0 (by decide) (hts _ mm_349) (fun _ h9 => h9) rfl (by decide +kernel) rfl rfl (Nat.le_of_ble_eq_true rfl) d_M_events_2 (fun H locs hP hD hS => ?_)
  have hP : va_P D cl9 ((cM cI cJ cZ bd) (m_th_w u (0 : Int32))) H := reP (zcM_th cI cJ cZ bd u (0 : Int32)) hP
  have hD : va_D A ((cM cI cJ cZ bd) (m_th_w u (0 : Int32))) := reD (zcM_th cI cJ cZ bd u (0 : Int32)) hD
  refine lv_aload_n hx hb d_M_events_5 rfl (lv_at hl 0 rfl) ?_
  refine va_get (D := D) (ci := 3) (v := .int (m_ct (m_th_w u (0 : Int32)))) (C := R_M) (T := T_M) (N := 21) hx hb hts in_M hown hK hP 0 rfl rfl 5 (by decide) (hts _ mm_354) (fun _ h9 => h9) rfl d_M_events_6 ?_
  obtain rfl := Option.some.inj hM
  exact W.iret (v := (m_ct (m_th_w u (0 : Int32)))) hx hb hr (fun t ht hW => ⟨⟨(m_ct (m_th_w u (0 : Int32))), (m_th_w u (0 : Int32)), rfl, rfl, by rw [ht]; exact hP, va_K.moved hW.alike hK, hD⟩, hS.F ht⟩) hS.2.2 d_M_events_9
end
set_option maxRecDepth 100000 in
theorem c_M_events (l : Launch) (D : va_G) (cI cJ cZ : ClassId) (bd : Nat → Nat) (sz : Nat) (u : Mod) (res : (Int32 × Mod)) (hM : B_M_events_0 u = some res) : Met l y_M_events ws_M_events rm_M_events (va_Pc [.ref (bd 0)] (pr_ D cl9 (tyy cI cJ cZ) (cM cI cJ cZ bd) u sz)) (Qwi D cl9 (tyy cI cJ cZ) (cM cI cJ cZ bd) (va_A ((cM cI cJ cZ bd) u) sz) res) 0 0 (va_A ((cM cI cJ cZ bd) u) sz) := by
  refine Met.ofW (cc := prog_5_method_18_code) (maxL := 1) (ret := (Option.some FieldType.int)) (by decide) rfl ?_
  intro p e s m args below meth c s₁ B hml hv
  obtain ⟨rfl, hsz, hP, hK, hD0⟩ := hv
  subst hsz
  have hts0 := atoms_spec (ws := ws_M_events) B.pre
  have hl := lv_entry ([.ref (bd 0)]) (n := 1) (Nat.le_of_ble_eq_true rfl)
  rw [lg_entry_eq]
  generalize (lg_sl ([.ref (bd 0)]) ++ List.replicate (1 - (lg_sl ([.ref (bd 0)])).length) Slot.unset).toArray = ls at hl ⊢
  exact w_M_events_0 ⟨B.exec, B.bytes, B.returns, hml, findClass_of_methodNamed B.named, fun w h => hts0 w (List.mem_cons_of_mem _ h), B.notSynchronized, hK, fun q h => Or.inr h⟩ u s.heap [] ls hP hD0.self va_S.rf hl hM
section
variable {p : Program} {l : Launch} {e : Env} {s : State} {m : MethodId} {args : Array Value} {below : List Frame} {meth : Method} {c : Code} {D : va_G} {cI cJ cZ : ClassId} {A : Nat → Prop} {bd : Nat → Nat}
set_option maxHeartbeats 4000000 in
set_option maxRecDepth 100000 in
theorem w_M_refused_0 {res : (Int32 × Mod)} (C : Cx p s m args meth c prog_5_method_19_code 1 (Option.some FieldType.int) "PlainLibraryModel" tb D cl9 (tyy cI cJ cZ) A) (u : Mod) (H : Heap) (locs : List Loc) (ls : Array Slot) (hP : va_P D cl9 ((cM cI cJ cZ bd) u) H) (hD : va_D A ((cM cI cJ cZ bd) u)) (hS : va_S A s.heap H locs) (hl : lv_has ls 1 [(0, .ref (bd 0))]) (hM : B_M_refused_0 u = some res) : W p l e rm_M_refused s m args below meth c H locs 0 0 (MQ below (Qwi D cl9 (tyy cI cJ cZ) (cM cI cJ cZ bd) A res) args s 0 0 A) (F0 m 0 ls []) := by
  have C0 := C
  obtain ⟨hx, hb, hr, hml, hown, hts, hlocks, hK, hA⟩ := C
  replace C := C0
  unfold B_M_refused_0 at hM
  refine lv_aload_n hx hb d_M_refused_0 rfl (lv_at hl 0 rfl) ?_
  refine lv_iconst (v := (0 : Int32)) hx hb d_M_refused_1 (by decide) ?_
  refine va_put (D := D) (ci := 3) (v := .int (0 : Int32)) (ty := .int) (C := R_M) (T := T_M) (N := 21) hx hb hts in_M ty_M tk_M nm_M hown hK hP hD hS 0 rfl rfl 0 (by decide) (hts _ mm_349) (fun _ h9 => h9) rfl (by decide +kernel) rfl rfl (Nat.le_of_ble_eq_true rfl) d_M_refused_2 (fun H locs hP hD hS => ?_)
  have hP : va_P D cl9 ((cM cI cJ cZ bd) (m_th_w u (0 : Int32))) H := reP (zcM_th cI cJ cZ bd u (0 : Int32)) hP
  have hD : va_D A ((cM cI cJ cZ bd) (m_th_w u (0 : Int32))) := reD (zcM_th cI cJ cZ bd u (0 : Int32)) hD
  refine lv_aload_n hx hb d_M_refused_5 rfl (lv_at hl 0 rfl) ?_
  obtain ⟨v1, hq1, hM⟩ := bd_some hM
  refine fw_v (F := (cM cI cJ cZ bd)) (u := (m_th_w u (0 : Int32))) (res := v1) (va_runV (As := []) (rest := []) ⟨hx, hb, hml, hown, hts⟩ (c_M_all l D cI cJ cZ bd H.size (m_th_w u (0 : Int32)) v1 hq1) (cwV 0 hts (gV mm_434 mm_436 (ms_ 16 rfl rfl) mm_30 mm_437) rfl rfl rfl hd_M_all ⟨Nat.le_of_ble_eq_true rfl, Nat.le_of_ble_eq_true rfl⟩) (pv_ (F := (cM cI cJ cZ bd)) (u := (m_th_w u (0 : Int32))) hK hP hD (va_recv hK hP (ci := 3) (q0 := 0) rfl rfl)) rfl rfl hl.1 rfl (lv_room (Nat.le_of_ble_eq_true rfl)) d_M_refused_6 ⟨Nat.le_of_ble_eq_true rfl, Nat.le_of_ble_eq_true rfl⟩) hS (fa_ hD hS hA) (fun H locs hP hD hS => ?_)
  refine lv_aload_n hx hb d_M_refused_9 rfl (lv_at hl 0 rfl) ?_
  refine va_get (D := D) (ci := 3) (v := .int (m_vd v1)) (C := R_M) (T := T_M) (N := 21) hx hb hts in_M hown hK hP 0 rfl rfl 17 (by decide) (hts _ mm_366) (fun _ h9 => h9) rfl d_M_refused_10 ?_
  obtain rfl := Option.some.inj hM
  exact W.iret (v := (m_vd v1)) hx hb hr (fun t ht hW => ⟨⟨(m_vd v1), v1, rfl, rfl, by rw [ht]; exact hP, va_K.moved hW.alike hK, hD⟩, hS.F ht⟩) hS.2.2 d_M_refused_13
end
set_option maxRecDepth 100000 in
theorem c_M_refused (l : Launch) (D : va_G) (cI cJ cZ : ClassId) (bd : Nat → Nat) (sz : Nat) (u : Mod) (res : (Int32 × Mod)) (hM : B_M_refused_0 u = some res) : Met l y_M_refused ws_M_refused rm_M_refused (va_Pc [.ref (bd 0)] (pr_ D cl9 (tyy cI cJ cZ) (cM cI cJ cZ bd) u sz)) (Qwi D cl9 (tyy cI cJ cZ) (cM cI cJ cZ bd) (va_A ((cM cI cJ cZ bd) u) sz) res) 0 0 (va_A ((cM cI cJ cZ bd) u) sz) := by
  refine Met.ofW (cc := prog_5_method_19_code) (maxL := 1) (ret := (Option.some FieldType.int)) (by decide) rfl ?_
  intro p e s m args below meth c s₁ B hml hv
  obtain ⟨rfl, hsz, hP, hK, hD0⟩ := hv
  subst hsz
  have hts0 := atoms_spec (ws := ws_M_refused) B.pre
  have hl := lv_entry ([.ref (bd 0)]) (n := 1) (Nat.le_of_ble_eq_true rfl)
  rw [lg_entry_eq]
  generalize (lg_sl ([.ref (bd 0)]) ++ List.replicate (1 - (lg_sl ([.ref (bd 0)])).length) Slot.unset).toArray = ls at hl ⊢
  exact w_M_refused_0 ⟨B.exec, B.bytes, B.returns, hml, findClass_of_methodNamed B.named, fun w h => hts0 w (List.mem_cons_of_mem _ h), B.notSynchronized, hK, fun q h => Or.inr h⟩ u s.heap [] ls hP hD0.self va_S.rf hl hM
section
variable {p : Program} {l : Launch} {e : Env} {s : State} {m : MethodId} {args : Array Value} {below : List Frame} {meth : Method} {c : Code} {D : va_G} {cI cJ cZ : ClassId} {A : Nat → Prop} {bd : Nat → Nat}
set_option maxHeartbeats 4000000 in
set_option maxRecDepth 100000 in
theorem w_M_state_114 {k79 : Int32 → Int32 → Int32 → Mod → Option (Int32 × Mod)} {res : (Int32 × Mod)} (C : Cx p s m args meth c prog_5_method_20_code 7 (Option.some FieldType.int) "PlainLibraryModel" tb D cl9 (tyy cI cJ cZ) A) (hk79 : ∀ (x2 : Int32) (x5 : Int32) (x6 : Int32) (u : Mod) (H : Heap) (locs : List Loc) (ls : Array Slot), va_P D cl9 ((cM cI cJ cZ bd) u) H → va_D A ((cM cI cJ cZ bd) u) → va_S A s.heap H locs → lv_has ls 7 [(0, .ref (bd 0)), (2, .int x2), (5, .int x5), (6, .int x6)] → k79 x2 x5 x6 u = some res → W p l e rm_M_state s m args below meth c H locs 0 0 (MQ below (Qwi D cl9 (tyy cI cJ cZ) (cM cI cJ cZ bd) A res) args s 0 0 A) (F0 m 79 ls [])) (x2 : Int32) (x6 : Int32) (t0 : Int32) (t1 : Int32) (u : Mod) (H : Heap) (locs : List Loc) (ls : Array Slot) (hP : va_P D cl9 ((cM cI cJ cZ bd) u) H) (hD : va_D A ((cM cI cJ cZ bd) u)) (hS : va_S A s.heap H locs) (hl : lv_has ls 7 [(0, .ref (bd 0)), (2, .int x2), (6, .int x6)]) (hM : B_M_state_114 k79 x2 x6 t0 t1 u = some res) : W p l e rm_M_state s m args below meth c H locs 0 0 (MQ below (Qwi D cl9 (tyy cI cJ cZ) (cM cI cJ cZ bd) A res) args s 0 0 A) (F0 m 114 ls [.int t0, .int t1]) := by
  have C0 := C
  obtain ⟨hx, hb, hr, hml, hown, hts, hlocks, hK, hA⟩ := C
  replace C := C0
  unfold B_M_state_114 at hM
  refine lv_iadd hx hb d_M_state_114 ?_
  refine lv_istore (lv' := [(5, .int (t1 + t0)), (0, .ref (bd 0)), (2, .int x2), (6, .int x6)]) hx hb d_M_state_115 hl (by decide) rfl (fun ls hl => ?_)
  refine lv_iinc (v := (x6 + (1 : Int32))) (lv' := [(6, .int (x6 + (1 : Int32))), (5, .int (t1 + t0)), (0, .ref (bd 0)), (2, .int x2)]) hx hb d_M_state_117 hl (k := 3) rfl rfl (by decide) rfl (fun ls hl => ?_)
  refine lv_goto (tgt := 79) hx hb d_M_state_120 (by decide) ?_
  exact hk79 x2 (t1 + t0) (x6 + (1 : Int32)) u H locs ls hP hD hS (lv_sub hl [2, 3, 1, 0] rfl) hM
set_option maxHeartbeats 4000000 in
set_option maxRecDepth 100000 in
theorem w_M_state_113 {k79 : Int32 → Int32 → Int32 → Mod → Option (Int32 × Mod)} {res : (Int32 × Mod)} (C : Cx p s m args meth c prog_5_method_20_code 7 (Option.some FieldType.int) "PlainLibraryModel" tb D cl9 (tyy cI cJ cZ) A) (hk79 : ∀ (x2 : Int32) (x5 : Int32) (x6 : Int32) (u : Mod) (H : Heap) (locs : List Loc) (ls : Array Slot), va_P D cl9 ((cM cI cJ cZ bd) u) H → va_D A ((cM cI cJ cZ bd) u) → va_S A s.heap H locs → lv_has ls 7 [(0, .ref (bd 0)), (2, .int x2), (5, .int x5), (6, .int x6)] → k79 x2 x5 x6 u = some res → W p l e rm_M_state s m args below meth c H locs 0 0 (MQ below (Qwi D cl9 (tyy cI cJ cZ) (cM cI cJ cZ bd) A res) args s 0 0 A) (F0 m 79 ls [])) (x2 : Int32) (x6 : Int32) (t0 : Int32) (u : Mod) (H : Heap) (locs : List Loc) (ls : Array Slot) (hP : va_P D cl9 ((cM cI cJ cZ bd) u) H) (hD : va_D A ((cM cI cJ cZ bd) u)) (hS : va_S A s.heap H locs) (hl : lv_has ls 7 [(0, .ref (bd 0)), (2, .int x2), (6, .int x6)]) (hM : B_M_state_113 k79 x2 x6 t0 u = some res) : W p l e rm_M_state s m args below meth c H locs 0 0 (MQ below (Qwi D cl9 (tyy cI cJ cZ) (cM cI cJ cZ bd) A res) args s 0 0 A) (F0 m 113 ls [.int t0]) := by
  have C0 := C
  obtain ⟨hx, hb, hr, hml, hown, hts, hlocks, hK, hA⟩ := C
  replace C := C0
  unfold B_M_state_113 at hM
  refine lv_iconst (v := (0 : Int32)) hx hb d_M_state_113 (by decide) ?_
  exact w_M_state_114 C hk79 x2 x6 (0 : Int32) t0 u H locs ls hP hD hS (lv_sub hl [0, 1, 2] rfl) hM
set_option maxHeartbeats 4000000 in
set_option maxRecDepth 100000 in
theorem w_M_state_79s {res : (Int32 × Mod)} (C : Cx p s m args meth c prog_5_method_20_code 7 (Option.some FieldType.int) "PlainLibraryModel" tb D cl9 (tyy cI cJ cZ) A) {k79 : Int32 → Int32 → Int32 → Mod → Option (Int32 × Mod)} (hk79 : ∀ (x2 : Int32) (x5 : Int32) (x6 : Int32) (u : Mod) (H : Heap) (locs : List Loc) (ls : Array Slot), va_P D cl9 ((cM cI cJ cZ bd) u) H → va_D A ((cM cI cJ cZ bd) u) → va_S A s.heap H locs → lv_has ls 7 [(0, .ref (bd 0)), (2, .int x2), (5, .int x5), (6, .int x6)] → k79 x2 x5 x6 u = some res → W p l e rm_M_state s m args below meth c H locs 0 0 (MQ below (Qwi D cl9 (tyy cI cJ cZ) (cM cI cJ cZ bd) A res) args s 0 0 A) (F0 m 79 ls [])) (x2 : Int32) (x5 : Int32) (x6 : Int32) (u : Mod) (H : Heap) (locs : List Loc) (ls : Array Slot) (hP : va_P D cl9 ((cM cI cJ cZ bd) u) H) (hD : va_D A ((cM cI cJ cZ bd) u)) (hS : va_S A s.heap H locs) (hl : lv_has ls 7 [(0, .ref (bd 0)), (2, .int x2), (5, .int x5), (6, .int x6)]) (hM : B_M_state_79s k79 x2 x5 x6 u = some res) : W p l e rm_M_state s m args below meth c H locs 0 0 (MQ below (Qwi D cl9 (tyy cI cJ cZ) (cM cI cJ cZ bd) A res) args s 0 0 A) (F0 m 79 ls []) := by
  have C0 := C
  obtain ⟨hx, hb, hr, hml, hown, hts, hlocks, hK, hA⟩ := C
  replace C := C0
  unfold B_M_state_79s at hM
  refine lv_iload hx hb d_M_state_79 (lv_at hl 3 rfl) ?_
  refine lv_bipush (v := (21 : Int32)) hx hb d_M_state_81 (by decide) ?_
  refine lv_icmp_ge (tgt := 123) hx hb d_M_state_83 (by decide) (fun c1 => ?_) (fun c1 => ?_)
  · replace hM := it_t c1 hM
    refine lv_iload hx hb d_M_state_123 (lv_at hl 2 rfl) ?_
    obtain rfl := Option.some.inj hM
    exact W.iret (v := x5) hx hb hr (fun t ht hW => ⟨⟨x5, u, rfl, rfl, by rw [ht]; exact hP, va_K.moved hW.alike hK, hD⟩, hS.F ht⟩) hS.2.2 d_M_state_125
  · replace hM := it_f c1 hM
    refine lv_iload hx hb d_M_state_86 (lv_at hl 2 rfl) ?_
    refine lv_aload_n hx hb d_M_state_88 rfl (lv_at hl 0 rfl) ?_
    refine va_get (D := D) (ci := 3) (v := .ref (bd 6)) (C := R_M) (T := T_M) (N := 21) hx hb hts in_M hown hK hP 0 rfl rfl 7 (by decide) (hts _ mm_356) (fun _ h9 => h9) rfl d_M_state_89 ?_
    refine lv_iload hx hb d_M_state_92 (lv_at hl 3 rfl) ?_
    obtain ⟨h2, hM⟩ := gd_some hM
    refine va_iald hx hb hK hP 6 0 rfl rfl (vp_in_iff.mpr h2) d_M_state_94 ?_
    refine lv_iload_n hx hb d_M_state_95 rfl (lv_at hl 1 rfl) ?_
    refine lv_icmp_ne (tgt := 113) hx hb d_M_state_96 (by decide) (fun c3 => ?_) (fun c3 => ?_)
    · replace hM := it_f c3 hM
      exact w_M_state_113 C hk79 x2 x6 x5 u H locs ls hP hD hS (lv_sub hl [0, 1, 3] rfl) hM
    · replace hM := it_t c3 hM
      refine lv_aload_n hx hb d_M_state_99 rfl (lv_at hl 0 rfl) ?_
      refine va_get (D := D) (ci := 3) (v := .ref (bd 7)) (C := R_M) (T := T_M) (N := 21) hx hb hts in_M hown hK hP 0 rfl rfl 8 (by decide) (hts _ mm_357) (fun _ h9 => h9) rfl d_M_state_100 ?_
      refine lv_iload hx hb d_M_state_103 (lv_at hl 3 rfl) ?_
      obtain ⟨h4, hM⟩ := gd_some hM
      refine va_iald hx hb hK hP 7 0 rfl rfl (vp_in_iff.mpr h4) d_M_state_105 ?_
      refine lv_if_ne (tgt := 113) hx hb d_M_state_106 (by decide) (fun c5 => ?_) (fun c5 => ?_)
      · replace hM := it_f c5 hM
        exact w_M_state_113 C hk79 x2 x6 x5 u H locs ls hP hD hS (lv_sub hl [0, 1, 3] rfl) hM
      · replace hM := it_t c5 hM
        refine lv_iconst (v := (1 : Int32)) hx hb d_M_state_109 (by decide) ?_
        refine lv_goto (tgt := 114) hx hb d_M_state_110 (by decide) ?_
        exact w_M_state_114 C hk79 x2 x6 (1 : Int32) x5 u H locs ls hP hD hS (lv_sub hl [0, 1, 3] rfl) hM
theorem w_M_state_79 {res : (Int32 × Mod)} (C : Cx p s m args meth c prog_5_method_20_code 7 (Option.some FieldType.int) "PlainLibraryModel" tb D cl9 (tyy cI cJ cZ) A) : ∀ (fu : Nat) (x2 : Int32) (x5 : Int32) (x6 : Int32) (u : Mod) (H : Heap) (locs : List Loc) (ls : Array Slot), va_P D cl9 ((cM cI cJ cZ bd) u) H → va_D A ((cM cI cJ cZ bd) u) → va_S A s.heap H locs → lv_has ls 7 [(0, .ref (bd 0)), (2, .int x2), (5, .int x5), (6, .int x6)] → B_M_state_79 fu x2 x5 x6 u = some res → W p l e rm_M_state s m args below meth c H locs 0 0 (MQ below (Qwi D cl9 (tyy cI cJ cZ) (cM cI cJ cZ bd) A res) args s 0 0 A) (F0 m 79 ls []) := by
  intro fu
  induction fu with
  | zero =>
    intro x2 x5 x6 u H locs ls hP hD hS hl hM
    have hM : (none : Option (Int32 × Mod)) = some res := hM
    cases hM
  | succ fu ih =>
    intro x2 x5 x6 u H locs ls hP hD hS hl hM
    exact w_M_state_79s C ih x2 x5 x6 u H locs ls hP hD hS hl hM
set_option maxHeartbeats 4000000 in
set_option maxRecDepth 100000 in
theorem w_M_state_0 {res : (Int32 × Mod)} (C : Cx p s m args meth c prog_5_method_20_code 7 (Option.some FieldType.int) "PlainLibraryModel" tb D cl9 (tyy cI cJ cZ) A) (x1 : Int32) (x2 : Int32) (y3 : Int64) (u : Mod) (H : Heap) (locs : List Loc) (ls : Array Slot) (hP : va_P D cl9 ((cM cI cJ cZ bd) u) H) (hD : va_D A ((cM cI cJ cZ bd) u)) (hS : va_S A s.heap H locs) (hl : lv_has ls 7 [(0, .ref (bd 0)), (1, .int x1), (2, .int x2), (3, .long y3)]) (hM : B_M_state_0 x1 x2 y3 u = some res) : W p l e rm_M_state s m args below meth c H locs 0 0 (MQ below (Qwi D cl9 (tyy cI cJ cZ) (cM cI cJ cZ bd) A res) args s 0 0 A) (F0 m 0 ls []) := by
  have C0 := C
  obtain ⟨hx, hb, hr, hml, hown, hts, hlocks, hK, hA⟩ := C
  replace C := C0
  unfold B_M_state_0 at hM
  refine lv_aload_n hx hb d_M_state_0 rfl (lv_at hl 0 rfl) ?_
  refine lv_iconst (v := (0 : Int32)) hx hb d_M_state_1 (by decide) ?_
  refine va_put (D := D) (ci := 3) (v := .int (0 : Int32)) (ty := .int) (C := R_M) (T := T_M) (N := 21) hx hb hts in_M ty_M tk_M nm_M hown hK hP hD hS 0 rfl rfl 0 (by decide) (hts _ mm_349) (fun _ h9 => h9) rfl (by decide +kernel) rfl rfl (Nat.le_of_ble_eq_true rfl) d_M_state_2 (fun H locs hP hD hS => ?_)
  have hP : va_P D cl9 ((cM cI cJ cZ bd) (m_th_w u (0 : Int32))) H := reP (zcM_th cI cJ cZ bd u (0 : Int32)) hP
  have hD : va_D A ((cM cI cJ cZ bd) (m_th_w u (0 : Int32))) := reD (zcM_th cI cJ cZ bd u (0 : Int32)) hD
  refine lv_iload_n hx hb d_M_state_5 rfl (lv_at hl 2 rfl) ?_
  obtain ⟨v1, hq1, hM⟩ := bd_some hM
  refine fr_i (res := v1) (va_runS (As := [.int x2]) (rest := []) ⟨hx, hb, hml, hown, hts⟩ (c_M_isNumber l D cI cJ cZ H.size x2 v1 hq1) (va_cwS 1 hts (gS mm_487 mm_488 mm_30 mm_489) rfl rfl rfl hs_M_isNumber ⟨Nat.le_of_ble_eq_true rfl, Nat.le_of_ble_eq_true rfl⟩) (ps_ (F := nW) (u := ()) hK nP (nD (A := fun _ => True))) rfl rfl hl.1 rfl (lv_room (Nat.le_of_ble_eq_true rfl)) d_M_state_6 ⟨Nat.le_of_ble_eq_true rfl, Nat.le_of_ble_eq_true rfl⟩) hP hS hA (fun H locs hP hS => ?_)
  refine lv_if_ne (tgt := 14) hx hb d_M_state_9 (by decide) (fun c2 => ?_) (fun c2 => ?_)
  · replace hM := it_f c2 hM
    refine lv_aload_n hx hb d_M_state_14 rfl (lv_at hl 0 rfl) ?_
    refine lv_lload_n hx hb d_M_state_15 rfl (lv_at hl 3 rfl) ?_
    refine lv_iconst (v := (-1 : Int32)) hx hb d_M_state_16 (by decide) ?_
    refine lv_iconst (v := (-1 : Int32)) hx hb d_M_state_17 (by decide) ?_
    refine lv_iconst (v := (-1 : Int32)) hx hb d_M_state_18 (by decide) ?_
    obtain ⟨v3, hq3, hM⟩ := bd_some hM
    refine fw_v (F := (cM cI cJ cZ bd)) (u := (m_th_w u (0 : Int32))) (res := v3) (va_runV (As := [.long y3, .int (-1 : Int32), .int (-1 : Int32), .int (-1 : Int32)]) (rest := []) ⟨hx, hb, hml, hown, hts⟩ (c_M_go l D cI cJ cZ bd H.size y3 (-1 : Int32) (-1 : Int32) (-1 : Int32) (m_th_w u (0 : Int32)) v3 hq3) (cwV 4 hts (gV mm_438 mm_440 (ms_ 17 rfl rfl) mm_30 mm_441) rfl rfl rfl hd_M_go ⟨Nat.le_of_ble_eq_true rfl, Nat.le_of_ble_eq_true rfl⟩) (pv_ (F := (cM cI cJ cZ bd)) (u := (m_th_w u (0 : Int32))) hK hP hD (va_recv hK hP (ci := 3) (q0 := 0) rfl rfl)) rfl rfl hl.1 rfl (lv_room (Nat.le_of_ble_eq_true rfl)) d_M_state_19 ⟨Nat.le_of_ble_eq_true rfl, Nat.le_of_ble_eq_true rfl⟩) hS (fa_ hD hS hA) (fun H locs hP hD hS => ?_)
    refine lv_iload_n hx hb d_M_state_22 rfl (lv_at hl 1 rfl) ?_
    by_cases c4 : x1 = (0 : Int32)
    · replace hM := it_t c4 hM
      refine lv_tableIn (off := 29) (tgt := 52) hx hb d_M_state_23 (by rw [c4]; decide) (by rw [c4]; decide) (by rw [c4]; rfl) (by decide) ?_
      refine lv_aload_n hx hb d_M_state_52 rfl (lv_at hl 0 rfl) ?_
      refine va_get (D := D) (ci := 3) (v := .ref (bd 6)) (C := R_M) (T := T_M) (N := 21) hx hb hts in_M hown hK hP 0 rfl rfl 7 (by decide) (hts _ mm_356) (fun _ h9 => h9) rfl d_M_state_53 ?_
      refine lv_iload_n hx hb d_M_state_56 rfl (lv_at hl 2 rfl) ?_
      obtain ⟨h5, hM⟩ := gd_some hM
      refine va_iald hx hb hK hP 6 0 rfl rfl (vp_in_iff.mpr h5) d_M_state_57 ?_
      obtain rfl := Option.some.inj hM
      exact W.iret (v := ((m_rec v3) x2.toNatClampNeg)) hx hb hr (fun t ht hW => ⟨⟨((m_rec v3) x2.toNatClampNeg), v3, rfl, rfl, by rw [ht]; exact hP, va_K.moved hW.alike hK, hD⟩, hS.F ht⟩) hS.2.2 d_M_state_58
    replace hM := it_f c4 hM
    by_cases c6 : x1 = (1 : Int32)
    · replace hM := it_t c6 hM
      refine lv_tableIn (off := 36) (tgt := 59) hx hb d_M_state_23 (by rw [c6]; decide) (by rw [c6]; decide) (by rw [c6]; rfl) (by decide) ?_
      refine lv_aload_n hx hb d_M_state_59 rfl (lv_at hl 0 rfl) ?_
      refine va_get (D := D) (ci := 3) (v := .ref (bd 7)) (C := R_M) (T := T_M) (N := 21) hx hb hts in_M hown hK hP 0 rfl rfl 8 (by decide) (hts _ mm_357) (fun _ h9 => h9) rfl d_M_state_60 ?_
      refine lv_iload_n hx hb d_M_state_63 rfl (lv_at hl 2 rfl) ?_
      obtain ⟨h7, hM⟩ := gd_some hM
      refine va_iald hx hb hK hP 7 0 rfl rfl (vp_in_iff.mpr h7) d_M_state_64 ?_
      obtain rfl := Option.some.inj hM
      exact W.iret (v := ((m_per v3) x2.toNatClampNeg)) hx hb hr (fun t ht hW => ⟨⟨((m_per v3) x2.toNatClampNeg), v3, rfl, rfl, by rw [ht]; exact hP, va_K.moved hW.alike hK, hD⟩, hS.F ht⟩) hS.2.2 d_M_state_65
    replace hM := it_f c6 hM
    by_cases c8 : x1 = (2 : Int32)
    · replace hM := it_t c8 hM
      refine lv_tableIn (off := 43) (tgt := 66) hx hb d_M_state_23 (by rw [c8]; decide) (by rw [c8]; decide) (by rw [c8]; rfl) (by decide) ?_
      refine lv_aload_n hx hb d_M_state_66 rfl (lv_at hl 0 rfl) ?_
      refine va_get (D := D) (ci := 3) (v := .ref (bd 12)) (C := R_M) (T := T_M) (N := 21) hx hb hts in_M hown hK hP 0 rfl rfl 13 (by decide) (hts _ mm_362) (fun _ h9 => h9) rfl d_M_state_67 ?_
      refine lv_iload_n hx hb d_M_state_70 rfl (lv_at hl 2 rfl) ?_
      obtain ⟨h9, hM⟩ := gd_some hM
      refine va_iald hx hb hK hP 12 0 rfl rfl (vp_in_iff.mpr h9) d_M_state_71 ?_
      obtain rfl := Option.some.inj hM
      exact W.iret (v := ((m_cls v3) x2.toNatClampNeg)) hx hb hr (fun t ht hW => ⟨⟨((m_cls v3) x2.toNatClampNeg), v3, rfl, rfl, by rw [ht]; exact hP, va_K.moved hW.alike hK, hD⟩, hS.F ht⟩) hS.2.2 d_M_state_72
    replace hM := it_f c8 hM
    by_cases c10 : x1 = (3 : Int32)
    · replace hM := it_t c10 hM
      refine lv_tableIn (off := 50) (tgt := 73) hx hb d_M_state_23 (by rw [c10]; decide) (by rw [c10]; decide) (by rw [c10]; rfl) (by decide) ?_
      refine lv_iconst (v := (0 : Int32)) hx hb d_M_state_73 (by decide) ?_
      refine lv_istore (lv' := [(5, .int (0 : Int32)), (0, .ref (bd 0)), (1, .int x1), (2, .int x2), (3, .long y3)]) hx hb d_M_state_74 hl (by decide) rfl (fun ls hl => ?_)
      refine lv_iconst (v := (1 : Int32)) hx hb d_M_state_76 (by decide) ?_
      refine lv_istore (lv' := [(6, .int (1 : Int32)), (5, .int (0 : Int32)), (0, .ref (bd 0)), (1, .int x1), (2, .int x2), (3, .long y3)]) hx hb d_M_state_77 hl (by decide) rfl (fun ls hl => ?_)
      exact w_M_state_79 C FU x2 (0 : Int32) (1 : Int32) v3 H locs ls hP hD hS (lv_sub hl [2, 4, 1, 0] rfl) hM
    replace hM := it_f c10 hM
    have nc4 := lv_neT c4 (a := 0) (by decide)
    have nc6 := lv_neT c6 (a := 1) (by decide)
    have nc8 := lv_neT c8 (a := 2) (by decide)
    have nc10 := lv_neT c10 (a := 3) (by decide)
    refine lv_tableOut (tgt := 126) hx hb d_M_state_23 (by omega) (by decide) ?_
    refine lv_iconst (v := (-1 : Int32)) hx hb d_M_state_126 (by decide) ?_
    obtain rfl := Option.some.inj hM
    exact W.iret (v := (-1 : Int32)) hx hb hr (fun t ht hW => ⟨⟨(-1 : Int32), v3, rfl, rfl, by rw [ht]; exact hP, va_K.moved hW.alike hK, hD⟩, hS.F ht⟩) hS.2.2 d_M_state_127
  · replace hM := it_t c2 hM
    refine lv_iconst (v := (-1 : Int32)) hx hb d_M_state_12 (by decide) ?_
    obtain rfl := Option.some.inj hM
    exact W.iret (v := (-1 : Int32)) hx hb hr (fun t ht hW => ⟨⟨(-1 : Int32), (m_th_w u (0 : Int32)), rfl, rfl, by rw [ht]; exact hP, va_K.moved hW.alike hK, hD⟩, hS.F ht⟩) hS.2.2 d_M_state_13
end
set_option maxRecDepth 100000 in
theorem c_M_state (l : Launch) (D : va_G) (cI cJ cZ : ClassId) (bd : Nat → Nat) (sz : Nat) (x1 : Int32) (x2 : Int32) (y3 : Int64) (u : Mod) (res : (Int32 × Mod)) (hM : B_M_state_0 x1 x2 y3 u = some res) : Met l y_M_state ws_M_state rm_M_state (va_Pc [.ref (bd 0), .int x1, .int x2, .long y3] (pr_ D cl9 (tyy cI cJ cZ) (cM cI cJ cZ bd) u sz)) (Qwi D cl9 (tyy cI cJ cZ) (cM cI cJ cZ bd) (va_A ((cM cI cJ cZ bd) u) sz) res) 0 0 (va_A ((cM cI cJ cZ bd) u) sz) := by
  refine Met.ofW (cc := prog_5_method_20_code) (maxL := 7) (ret := (Option.some FieldType.int)) (by decide) rfl ?_
  intro p e s m args below meth c s₁ B hml hv
  obtain ⟨rfl, hsz, hP, hK, hD0⟩ := hv
  subst hsz
  have hts0 := atoms_spec (ws := ws_M_state) B.pre
  have hl := lv_entry ([.ref (bd 0), .int x1, .int x2, .long y3]) (n := 7) (Nat.le_of_ble_eq_true rfl)
  rw [lg_entry_eq]
  generalize (lg_sl ([.ref (bd 0), .int x1, .int x2, .long y3]) ++ List.replicate (7 - (lg_sl ([.ref (bd 0), .int x1, .int x2, .long y3])).length) Slot.unset).toArray = ls at hl ⊢
  exact w_M_state_0 ⟨B.exec, B.bytes, B.returns, hml, findClass_of_methodNamed B.named, fun w h => hts0 w (List.mem_cons_of_mem _ h), B.notSynchronized, hK, fun q h => Or.inr h⟩ x1 x2 y3 u s.heap [] ls hP hD0.self va_S.rf hl hM
section
variable {p : Program} {l : Launch} {e : Env} {s : State} {m : MethodId} {args : Array Value} {below : List Frame} {meth : Method} {c : Code} {D : va_G} {cI cJ cZ : ClassId} {A : Nat → Prop} {bd : Nat → Nat}
set_option maxHeartbeats 4000000 in
set_option maxRecDepth 100000 in
theorem w_M_heading_58 {k14 : Int32 → Int32 → Int32 → Int32 → Mod → Option (Int32 × Mod)} {res : (Int32 × Mod)} (C : Cx p s m args meth c prog_5_method_21_code 5 (Option.some FieldType.int) "PlainLibraryModel" tb D cl9 (tyy cI cJ cZ) A) (hk14 : ∀ (x1 : Int32) (x2 : Int32) (x3 : Int32) (x4 : Int32) (u : Mod) (H : Heap) (locs : List Loc) (ls : Array Slot), va_P D cl9 ((cM cI cJ cZ bd) u) H → va_D A ((cM cI cJ cZ bd) u) → va_S A s.heap H locs → lv_has ls 5 [(0, .ref (bd 0)), (1, .int x1), (2, .int x2), (3, .int x3), (4, .int x4)] → k14 x1 x2 x3 x4 u = some res → W p l e rm_M_heading s m args below meth c H locs 0 0 (MQ below (Qwi D cl9 (tyy cI cJ cZ) (cM cI cJ cZ bd) A res) args s 0 0 A) (F0 m 14 ls [])) (x1 : Int32) (x2 : Int32) (x3 : Int32) (x4 : Int32) (u : Mod) (H : Heap) (locs : List Loc) (ls : Array Slot) (hP : va_P D cl9 ((cM cI cJ cZ bd) u) H) (hD : va_D A ((cM cI cJ cZ bd) u)) (hS : va_S A s.heap H locs) (hl : lv_has ls 5 [(0, .ref (bd 0)), (1, .int x1), (2, .int x2), (3, .int x3), (4, .int x4)]) (hM : B_M_heading_58 k14 x1 x2 x3 x4 u = some res) : W p l e rm_M_heading s m args below meth c H locs 0 0 (MQ below (Qwi D cl9 (tyy cI cJ cZ) (cM cI cJ cZ bd) A res) args s 0 0 A) (F0 m 58 ls []) := by
  have C0 := C
  obtain ⟨hx, hb, hr, hml, hown, hts, hlocks, hK, hA⟩ := C
  replace C := C0
  unfold B_M_heading_58 at hM
  refine lv_iinc (v := (x4 + (1 : Int32))) (lv' := [(4, .int (x4 + (1 : Int32))), (0, .ref (bd 0)), (1, .int x1), (2, .int x2), (3, .int x3)]) hx hb d_M_heading_58 hl (k := 4) rfl rfl (by decide) rfl (fun ls hl => ?_)
  refine lv_goto (tgt := 14) hx hb d_M_heading_61 (by decide) ?_
  exact hk14 x1 x2 x3 (x4 + (1 : Int32)) u H locs ls hP hD hS (lv_sub hl [1, 2, 3, 4, 0] rfl) hM
set_option maxHeartbeats 4000000 in
set_option maxRecDepth 100000 in
theorem w_M_heading_14s {res : (Int32 × Mod)} (C : Cx p s m args meth c prog_5_method_21_code 5 (Option.some FieldType.int) "PlainLibraryModel" tb D cl9 (tyy cI cJ cZ) A) {k14 : Int32 → Int32 → Int32 → Int32 → Mod → Option (Int32 × Mod)} (hk14 : ∀ (x1 : Int32) (x2 : Int32) (x3 : Int32) (x4 : Int32) (u : Mod) (H : Heap) (locs : List Loc) (ls : Array Slot), va_P D cl9 ((cM cI cJ cZ bd) u) H → va_D A ((cM cI cJ cZ bd) u) → va_S A s.heap H locs → lv_has ls 5 [(0, .ref (bd 0)), (1, .int x1), (2, .int x2), (3, .int x3), (4, .int x4)] → k14 x1 x2 x3 x4 u = some res → W p l e rm_M_heading s m args below meth c H locs 0 0 (MQ below (Qwi D cl9 (tyy cI cJ cZ) (cM cI cJ cZ bd) A res) args s 0 0 A) (F0 m 14 ls [])) (x1 : Int32) (x2 : Int32) (x3 : Int32) (x4 : Int32) (u : Mod) (H : Heap) (locs : List Loc) (ls : Array Slot) (hP : va_P D cl9 ((cM cI cJ cZ bd) u) H) (hD : va_D A ((cM cI cJ cZ bd) u)) (hS : va_S A s.heap H locs) (hl : lv_has ls 5 [(0, .ref (bd 0)), (1, .int x1), (2, .int x2), (3, .int x3), (4, .int x4)]) (hM : B_M_heading_14s k14 x1 x2 x3 x4 u = some res) : W p l e rm_M_heading s m args below meth c H locs 0 0 (MQ below (Qwi D cl9 (tyy cI cJ cZ) (cM cI cJ cZ bd) A res) args s 0 0 A) (F0 m 14 ls []) := by
  have C0 := C
  obtain ⟨hx, hb, hr, hml, hown, hts, hlocks, hK, hA⟩ := C
  replace C := C0
  unfold B_M_heading_14s at hM
  refine lv_iload hx hb d_M_heading_14 (lv_at hl 4 rfl) ?_
  refine lv_bipush (v := (100 : Int32)) hx hb d_M_heading_16 (by decide) ?_
  refine lv_icmp_ge (tgt := 64) hx hb d_M_heading_18 (by decide) (fun c1 => ?_) (fun c1 => ?_)
  · replace hM := it_t c1 hM
    refine lv_iconst (v := (-1 : Int32)) hx hb d_M_heading_64 (by decide) ?_
    obtain rfl := Option.some.inj hM
    exact W.iret (v := (-1 : Int32)) hx hb hr (fun t ht hW => ⟨⟨(-1 : Int32), u, rfl, rfl, by rw [ht]; exact hP, va_K.moved hW.alike hK, hD⟩, hS.F ht⟩) hS.2.2 d_M_heading_65
  · replace hM := it_f c1 hM
    refine lv_iload_n hx hb d_M_heading_21 rfl (lv_at hl 1 rfl) ?_
    obtain ⟨v2, hq2, hM⟩ := bd_some hM
    refine fr_i (res := v2) (va_runS (As := [.int x1]) (rest := []) ⟨hx, hb, hml, hown, hts⟩ (c_M_isNumber l D cI cJ cZ H.size x1 v2 hq2) (va_cwS 1 hts (gS mm_487 mm_488 mm_30 mm_489) rfl rfl rfl hs_M_isNumber ⟨Nat.le_of_ble_eq_true rfl, Nat.le_of_ble_eq_true rfl⟩) (ps_ (F := nW) (u := ()) hK nP (nD (A := fun _ => True))) rfl rfl hl.1 rfl (lv_room (Nat.le_of_ble_eq_true rfl)) d_M_heading_22 ⟨Nat.le_of_ble_eq_true rfl, Nat.le_of_ble_eq_true rfl⟩) hP hS hA (fun H locs hP hS => ?_)
    refine lv_if_eq (tgt := 64) hx hb d_M_heading_25 (by decide) (fun c3 => ?_) (fun c3 => ?_)
    · replace hM := it_t c3 hM
      refine lv_iconst (v := (-1 : Int32)) hx hb d_M_heading_64 (by decide) ?_
      obtain rfl := Option.some.inj hM
      exact W.iret (v := (-1 : Int32)) hx hb hr (fun t ht hW => ⟨⟨(-1 : Int32), u, rfl, rfl, by rw [ht]; exact hP, va_K.moved hW.alike hK, hD⟩, hS.F ht⟩) hS.2.2 d_M_heading_65
    · replace hM := it_f c3 hM
      refine lv_iload_n hx hb d_M_heading_28 rfl (lv_at hl 2 rfl) ?_
      refine lv_if_lt (tgt := 64) hx hb d_M_heading_29 (by decide) (fun c4 => ?_) (fun c4 => ?_)
      · replace hM := it_t c4 hM
        refine lv_iconst (v := (-1 : Int32)) hx hb d_M_heading_64 (by decide) ?_
        obtain rfl := Option.some.inj hM
        exact W.iret (v := (-1 : Int32)) hx hb hr (fun t ht hW => ⟨⟨(-1 : Int32), u, rfl, rfl, by rw [ht]; exact hP, va_K.moved hW.alike hK, hD⟩, hS.F ht⟩) hS.2.2 d_M_heading_65
      · replace hM := it_f c4 hM
        refine lv_aload_n hx hb d_M_heading_32 rfl (lv_at hl 0 rfl) ?_
        refine va_get (D := D) (ci := 3) (v := .ref (bd 5)) (C := R_M) (T := T_M) (N := 21) hx hb hts in_M hown hK hP 0 rfl rfl 6 (by decide) (hts _ mm_355) (fun _ h9 => h9) rfl d_M_heading_33 ?_
        refine lv_bipush (v := (100 : Int32)) hx hb d_M_heading_36 (by decide) ?_
        refine lv_iload_n hx hb d_M_heading_38 rfl (lv_at hl 1 rfl) ?_
        refine lv_imul hx hb d_M_heading_39 ?_
        refine lv_iload hx hb d_M_heading_40 (lv_at hl 4 rfl) ?_
        refine lv_iadd hx hb d_M_heading_42 ?_
        obtain ⟨h5, hM⟩ := gd_some hM
        refine va_zald hx hb hK hP 5 2 rfl rfl (vp_in_iff.mpr h5) d_M_heading_43 ?_
        refine lv_if_eq (tgt := 58) hx hb d_M_heading_44 (by decide) (fun c6 => ?_) (fun c6 => ?_)
        · replace hM := it_t c6 hM
          exact w_M_heading_58 C hk14 x1 x2 x3 x4 u H locs ls hP hD hS (lv_sub hl [0, 1, 2, 3, 4] rfl) hM
        · replace hM := it_f c6 hM
          refine lv_iload_n hx hb d_M_heading_47 rfl (lv_at hl 3 rfl) ?_
          refine lv_iload_n hx hb d_M_heading_48 rfl (lv_at hl 2 rfl) ?_
          refine lv_icmp_ne (tgt := 55) hx hb d_M_heading_49 (by decide) (fun c7 => ?_) (fun c7 => ?_)
          · replace hM := it_f c7 hM
            refine lv_iinc (v := (x3 + (1 : Int32))) (lv' := [(3, .int (x3 + (1 : Int32))), (0, .ref (bd 0)), (1, .int x1), (2, .int x2), (4, .int x4)]) hx hb d_M_heading_55 hl (k := 3) rfl rfl (by decide) rfl (fun ls hl => ?_)
            exact w_M_heading_58 C hk14 x1 x2 (x3 + (1 : Int32)) x4 u H locs ls hP hD hS (lv_sub hl [1, 2, 3, 0, 4] rfl) hM
          · replace hM := it_t c7 hM
            refine lv_iload hx hb d_M_heading_52 (lv_at hl 4 rfl) ?_
            obtain rfl := Option.some.inj hM
            exact W.iret (v := x4) hx hb hr (fun t ht hW => ⟨⟨x4, u, rfl, rfl, by rw [ht]; exact hP, va_K.moved hW.alike hK, hD⟩, hS.F ht⟩) hS.2.2 d_M_heading_54
theorem w_M_heading_14 {res : (Int32 × Mod)} (C : Cx p s m args meth c prog_5_method_21_code 5 (Option.some FieldType.int) "PlainLibraryModel" tb D cl9 (tyy cI cJ cZ) A) : ∀ (fu : Nat) (x1 : Int32) (x2 : Int32) (x3 : Int32) (x4 : Int32) (u : Mod) (H : Heap) (locs : List Loc) (ls : Array Slot), va_P D cl9 ((cM cI cJ cZ bd) u) H → va_D A ((cM cI cJ cZ bd) u) → va_S A s.heap H locs → lv_has ls 5 [(0, .ref (bd 0)), (1, .int x1), (2, .int x2), (3, .int x3), (4, .int x4)] → B_M_heading_14 fu x1 x2 x3 x4 u = some res → W p l e rm_M_heading s m args below meth c H locs 0 0 (MQ below (Qwi D cl9 (tyy cI cJ cZ) (cM cI cJ cZ bd) A res) args s 0 0 A) (F0 m 14 ls []) := by
  intro fu
  induction fu with
  | zero =>
    intro x1 x2 x3 x4 u H locs ls hP hD hS hl hM
    have hM : (none : Option (Int32 × Mod)) = some res := hM
    cases hM
  | succ fu ih =>
    intro x1 x2 x3 x4 u H locs ls hP hD hS hl hM
    exact w_M_heading_14s C ih x1 x2 x3 x4 u H locs ls hP hD hS hl hM
set_option maxHeartbeats 4000000 in
set_option maxRecDepth 100000 in
theorem w_M_heading_0 {res : (Int32 × Mod)} (C : Cx p s m args meth c prog_5_method_21_code 5 (Option.some FieldType.int) "PlainLibraryModel" tb D cl9 (tyy cI cJ cZ) A) (x1 : Int32) (x2 : Int32) (u : Mod) (H : Heap) (locs : List Loc) (ls : Array Slot) (hP : va_P D cl9 ((cM cI cJ cZ bd) u) H) (hD : va_D A ((cM cI cJ cZ bd) u)) (hS : va_S A s.heap H locs) (hl : lv_has ls 5 [(0, .ref (bd 0)), (1, .int x1), (2, .int x2)]) (hM : B_M_heading_0 x1 x2 u = some res) : W p l e rm_M_heading s m args below meth c H locs 0 0 (MQ below (Qwi D cl9 (tyy cI cJ cZ) (cM cI cJ cZ bd) A res) args s 0 0 A) (F0 m 0 ls []) := by
  have C0 := C
  obtain ⟨hx, hb, hr, hml, hown, hts, hlocks, hK, hA⟩ := C
  replace C := C0
  unfold B_M_heading_0 at hM
  refine lv_aload_n hx hb d_M_heading_0 rfl (lv_at hl 0 rfl) ?_
  refine lv_iconst (v := (0 : Int32)) hx hb d_M_heading_1 (by decide) ?_
  refine va_put (D := D) (ci := 3) (v := .int (0 : Int32)) (ty := .int) (C := R_M) (T := T_M) (N := 21) hx hb hts in_M ty_M tk_M nm_M hown hK hP hD hS 0 rfl rfl 0 (by decide) (hts _ mm_349) (fun _ h9 => h9) rfl (by decide +kernel) rfl rfl (Nat.le_of_ble_eq_true rfl) d_M_heading_2 (fun H locs hP hD hS => ?_)
  have hP : va_P D cl9 ((cM cI cJ cZ bd) (m_th_w u (0 : Int32))) H := reP (zcM_th cI cJ cZ bd u (0 : Int32)) hP
  have hD : va_D A ((cM cI cJ cZ bd) (m_th_w u (0 : Int32))) := reD (zcM_th cI cJ cZ bd u (0 : Int32)) hD
  refine lv_aload_n hx hb d_M_heading_5 rfl (lv_at hl 0 rfl) ?_
  obtain ⟨v1, hq1, hM⟩ := bd_some hM
  refine fw_v (F := (cM cI cJ cZ bd)) (u := (m_th_w u (0 : Int32))) (res := v1) (va_runV (As := []) (rest := []) ⟨hx, hb, hml, hown, hts⟩ (c_M_all l D cI cJ cZ bd H.size (m_th_w u (0 : Int32)) v1 hq1) (cwV 0 hts (gV mm_434 mm_436 (ms_ 16 rfl rfl) mm_30 mm_437) rfl rfl rfl hd_M_all ⟨Nat.le_of_ble_eq_true rfl, Nat.le_of_ble_eq_true rfl⟩) (pv_ (F := (cM cI cJ cZ bd)) (u := (m_th_w u (0 : Int32))) hK hP hD (va_recv hK hP (ci := 3) (q0 := 0) rfl rfl)) rfl rfl hl.1 rfl (lv_room (Nat.le_of_ble_eq_true rfl)) d_M_heading_6 ⟨Nat.le_of_ble_eq_true rfl, Nat.le_of_ble_eq_true rfl⟩) hS (fa_ hD hS hA) (fun H locs hP hD hS => ?_)
  refine lv_iconst (v := (0 : Int32)) hx hb d_M_heading_9 (by decide) ?_
  refine lv_istore_n (lv' := [(3, .int (0 : Int32)), (0, .ref (bd 0)), (1, .int x1), (2, .int x2)]) hx hb d_M_heading_10 rfl hl (by decide) rfl (fun ls hl => ?_)
  refine lv_iconst (v := (1 : Int32)) hx hb d_M_heading_11 (by decide) ?_
  refine lv_istore (lv' := [(4, .int (1 : Int32)), (3, .int (0 : Int32)), (0, .ref (bd 0)), (1, .int x1), (2, .int x2)]) hx hb d_M_heading_12 hl (by decide) rfl (fun ls hl => ?_)
  exact w_M_heading_14 C FU x1 x2 (0 : Int32) (1 : Int32) v1 H locs ls hP hD hS (lv_sub hl [2, 3, 4, 1, 0] rfl) hM
end
set_option maxRecDepth 100000 in
theorem c_M_heading (l : Launch) (D : va_G) (cI cJ cZ : ClassId) (bd : Nat → Nat) (sz : Nat) (x1 : Int32) (x2 : Int32) (u : Mod) (res : (Int32 × Mod)) (hM : B_M_heading_0 x1 x2 u = some res) : Met l y_M_heading ws_M_heading rm_M_heading (va_Pc [.ref (bd 0), .int x1, .int x2] (pr_ D cl9 (tyy cI cJ cZ) (cM cI cJ cZ bd) u sz)) (Qwi D cl9 (tyy cI cJ cZ) (cM cI cJ cZ bd) (va_A ((cM cI cJ cZ bd) u) sz) res) 0 0 (va_A ((cM cI cJ cZ bd) u) sz) := by
  refine Met.ofW (cc := prog_5_method_21_code) (maxL := 5) (ret := (Option.some FieldType.int)) (by decide) rfl ?_
  intro p e s m args below meth c s₁ B hml hv
  obtain ⟨rfl, hsz, hP, hK, hD0⟩ := hv
  subst hsz
  have hts0 := atoms_spec (ws := ws_M_heading) B.pre
  have hl := lv_entry ([.ref (bd 0), .int x1, .int x2]) (n := 5) (Nat.le_of_ble_eq_true rfl)
  rw [lg_entry_eq]
  generalize (lg_sl ([.ref (bd 0), .int x1, .int x2]) ++ List.replicate (5 - (lg_sl ([.ref (bd 0), .int x1, .int x2])).length) Slot.unset).toArray = ls at hl ⊢
  exact w_M_heading_0 ⟨B.exec, B.bytes, B.returns, hml, findClass_of_methodNamed B.named, fun w h => hts0 w (List.mem_cons_of_mem _ h), B.notSynchronized, hK, fun q h => Or.inr h⟩ x1 x2 u s.heap [] ls hP hD0.self va_S.rf hl hM
section
variable {p : Program} {l : Launch} {e : Env} {s : State} {m : MethodId} {args : Array Value} {below : List Frame} {meth : Method} {c : Code} {D : va_G} {cI cJ cZ : ClassId} {A : Nat → Prop} {bd : Nat → Nat}
set_option maxHeartbeats 4000000 in
set_option maxRecDepth 100000 in
theorem w_M_question_93 {k39 : Int32 → Int32 → Int32 → Mod → Option (Int32 × Mod)} {res : (Int32 × Mod)} (C : Cx p s m args meth c prog_5_method_22_code 4 (Option.some FieldType.int) "PlainLibraryModel" tb D cl9 (tyy cI cJ cZ) A) (hk39 : ∀ (x1 : Int32) (x2 : Int32) (x3 : Int32) (u : Mod) (H : Heap) (locs : List Loc) (ls : Array Slot), va_P D cl9 ((cM cI cJ cZ bd) u) H → va_D A ((cM cI cJ cZ bd) u) → va_S A s.heap H locs → lv_has ls 4 [(0, .ref (bd 0)), (1, .int x1), (2, .int x2), (3, .int x3)] → k39 x1 x2 x3 u = some res → W p l e rm_M_question s m args below meth c H locs 0 0 (MQ below (Qwi D cl9 (tyy cI cJ cZ) (cM cI cJ cZ bd) A res) args s 0 0 A) (F0 m 39 ls [])) (x1 : Int32) (x2 : Int32) (x3 : Int32) (u : Mod) (H : Heap) (locs : List Loc) (ls : Array Slot) (hP : va_P D cl9 ((cM cI cJ cZ bd) u) H) (hD : va_D A ((cM cI cJ cZ bd) u)) (hS : va_S A s.heap H locs) (hl : lv_has ls 4 [(0, .ref (bd 0)), (1, .int x1), (2, .int x2), (3, .int x3)]) (hM : B_M_question_93 k39 x1 x2 x3 u = some res) : W p l e rm_M_question s m args below meth c H locs 0 0 (MQ below (Qwi D cl9 (tyy cI cJ cZ) (cM cI cJ cZ bd) A res) args s 0 0 A) (F0 m 93 ls []) := by
  have C0 := C
  obtain ⟨hx, hb, hr, hml, hown, hts, hlocks, hK, hA⟩ := C
  replace C := C0
  unfold B_M_question_93 at hM
  refine lv_iinc (v := (x3 + (1 : Int32))) (lv' := [(3, .int (x3 + (1 : Int32))), (0, .ref (bd 0)), (1, .int x1), (2, .int x2)]) hx hb d_M_question_93 hl (k := 3) rfl rfl (by decide) rfl (fun ls hl => ?_)
  refine lv_goto (tgt := 39) hx hb d_M_question_96 (by decide) ?_
  exact hk39 x1 x2 (x3 + (1 : Int32)) u H locs ls hP hD hS (lv_sub hl [1, 2, 3, 0] rfl) hM
set_option maxHeartbeats 4000000 in
set_option maxRecDepth 100000 in
theorem w_M_question_39s {res : (Int32 × Mod)} (C : Cx p s m args meth c prog_5_method_22_code 4 (Option.some FieldType.int) "PlainLibraryModel" tb D cl9 (tyy cI cJ cZ) A) {k39 : Int32 → Int32 → Int32 → Mod → Option (Int32 × Mod)} (hk39 : ∀ (x1 : Int32) (x2 : Int32) (x3 : Int32) (u : Mod) (H : Heap) (locs : List Loc) (ls : Array Slot), va_P D cl9 ((cM cI cJ cZ bd) u) H → va_D A ((cM cI cJ cZ bd) u) → va_S A s.heap H locs → lv_has ls 4 [(0, .ref (bd 0)), (1, .int x1), (2, .int x2), (3, .int x3)] → k39 x1 x2 x3 u = some res → W p l e rm_M_question s m args below meth c H locs 0 0 (MQ below (Qwi D cl9 (tyy cI cJ cZ) (cM cI cJ cZ bd) A res) args s 0 0 A) (F0 m 39 ls [])) (x1 : Int32) (x2 : Int32) (x3 : Int32) (u : Mod) (H : Heap) (locs : List Loc) (ls : Array Slot) (hP : va_P D cl9 ((cM cI cJ cZ bd) u) H) (hD : va_D A ((cM cI cJ cZ bd) u)) (hS : va_S A s.heap H locs) (hl : lv_has ls 4 [(0, .ref (bd 0)), (1, .int x1), (2, .int x2), (3, .int x3)]) (hM : B_M_question_39s k39 x1 x2 x3 u = some res) : W p l e rm_M_question s m args below meth c H locs 0 0 (MQ below (Qwi D cl9 (tyy cI cJ cZ) (cM cI cJ cZ bd) A res) args s 0 0 A) (F0 m 39 ls []) := by
  have C0 := C
  obtain ⟨hx, hb, hr, hml, hown, hts, hlocks, hK, hA⟩ := C
  replace C := C0
  unfold B_M_question_39s at hM
  refine lv_iload_n hx hb d_M_question_39 rfl (lv_at hl 3 rfl) ?_
  refine lv_bipush (v := (21 : Int32)) hx hb d_M_question_40 (by decide) ?_
  refine lv_icmp_ge (tgt := 99) hx hb d_M_question_42 (by decide) (fun c1 => ?_) (fun c1 => ?_)
  · replace hM := it_t c1 hM
    refine lv_aload_n hx hb d_M_question_99 rfl (lv_at hl 0 rfl) ?_
    refine va_get (D := D) (ci := 3) (v := .int (m_hc u)) (C := R_M) (T := T_M) (N := 21) hx hb hts in_M hown hK hP 0 rfl rfl 20 (by decide) (hts _ mm_369) (fun _ h9 => h9) rfl d_M_question_100 ?_
    obtain rfl := Option.some.inj hM
    exact W.iret (v := (m_hc u)) hx hb hr (fun t ht hW => ⟨⟨(m_hc u), u, rfl, rfl, by rw [ht]; exact hP, va_K.moved hW.alike hK, hD⟩, hS.F ht⟩) hS.2.2 d_M_question_103
  · replace hM := it_f c1 hM
    refine lv_aload_n hx hb d_M_question_45 rfl (lv_at hl 0 rfl) ?_
    refine va_get (D := D) (ci := 3) (v := .ref (bd 5)) (C := R_M) (T := T_M) (N := 21) hx hb hts in_M hown hK hP 0 rfl rfl 6 (by decide) (hts _ mm_355) (fun _ h9 => h9) rfl d_M_question_46 ?_
    refine lv_bipush (v := (100 : Int32)) hx hb d_M_question_49 (by decide) ?_
    refine lv_iload_n hx hb d_M_question_51 rfl (lv_at hl 3 rfl) ?_
    refine lv_imul hx hb d_M_question_52 ?_
    refine lv_iload_n hx hb d_M_question_53 rfl (lv_at hl 1 rfl) ?_
    refine lv_iadd hx hb d_M_question_54 ?_
    obtain ⟨h2, hM⟩ := gd_some hM
    refine va_zald hx hb hK hP 5 2 rfl rfl (vp_in_iff.mpr h2) d_M_question_55 ?_
    refine lv_if_eq (tgt := 93) hx hb d_M_question_56 (by decide) (fun c3 => ?_) (fun c3 => ?_)
    · replace hM := it_t c3 hM
      exact w_M_question_93 C hk39 x1 x2 x3 u H locs ls hP hD hS (lv_sub hl [0, 1, 2, 3] rfl) hM
    · replace hM := it_f c3 hM
      refine lv_aload_n hx hb d_M_question_59 rfl (lv_at hl 0 rfl) ?_
      refine va_get (D := D) (ci := 3) (v := .ref (bd 5)) (C := R_M) (T := T_M) (N := 21) hx hb hts in_M hown hK hP 0 rfl rfl 6 (by decide) (hts _ mm_355) (fun _ h9 => h9) rfl d_M_question_60 ?_
      refine lv_bipush (v := (100 : Int32)) hx hb d_M_question_63 (by decide) ?_
      refine lv_iload_n hx hb d_M_question_65 rfl (lv_at hl 3 rfl) ?_
      refine lv_imul hx hb d_M_question_66 ?_
      refine lv_iload_n hx hb d_M_question_67 rfl (lv_at hl 2 rfl) ?_
      refine lv_iadd hx hb d_M_question_68 ?_
      obtain ⟨h4, hM⟩ := gd_some hM
      refine va_zald hx hb hK hP 5 2 rfl rfl (vp_in_iff.mpr h4) d_M_question_69 ?_
      refine lv_if_ne (tgt := 93) hx hb d_M_question_70 (by decide) (fun c5 => ?_) (fun c5 => ?_)
      · replace hM := it_f c5 hM
        exact w_M_question_93 C hk39 x1 x2 x3 u H locs ls hP hD hS (lv_sub hl [0, 1, 2, 3] rfl) hM
      · replace hM := it_t c5 hM
        refine lv_aload_n hx hb d_M_question_73 rfl (lv_at hl 0 rfl) ?_
        refine va_get (D := D) (ci := 3) (v := .ref (bd 16)) (C := R_M) (T := T_M) (N := 21) hx hb hts in_M hown hK hP 0 rfl rfl 19 (by decide) (hts _ mm_368) (fun _ h9 => h9) rfl d_M_question_74 ?_
        refine lv_aload_n hx hb d_M_question_77 rfl (lv_at hl 0 rfl) ?_
        refine va_get (D := D) (ci := 3) (v := .int (m_hc u)) (C := R_M) (T := T_M) (N := 21) hx hb hts in_M hown hK hP 0 rfl rfl 20 (by decide) (hts _ mm_369) (fun _ h9 => h9) rfl d_M_question_78 ?_
        refine lv_iload_n hx hb d_M_question_81 rfl (lv_at hl 3 rfl) ?_
        obtain ⟨h6, hM⟩ := gd_some hM
        refine va_iast hx hb hK hP hD hS 16 0 rfl rfl (vp_in_iff.mpr h6) d_M_question_82 (fun H locs hP hD hS => ?_)
        have hP : va_P D cl9 ((cM cI cJ cZ bd) (m_hit_w u (upd (m_hit u) (m_hc u).toNatClampNeg x3))) H := reP (zcM_hit cI cJ cZ bd u (upd (m_hit u) (m_hc u).toNatClampNeg x3)) hP
        have hD : va_D A ((cM cI cJ cZ bd) (m_hit_w u (upd (m_hit u) (m_hc u).toNatClampNeg x3))) := reD (zcM_hit cI cJ cZ bd u (upd (m_hit u) (m_hc u).toNatClampNeg x3)) hD
        refine lv_aload_n hx hb d_M_question_83 rfl (lv_at hl 0 rfl) ?_
        refine lv_dup hx hb d_M_question_84 rfl ?_
        refine va_get (D := D) (ci := 3) (v := .int (m_hc (m_hit_w u (upd (m_hit u) (m_hc u).toNatClampNeg x3)))) (C := R_M) (T := T_M) (N := 21) hx hb hts in_M hown hK hP 0 rfl rfl 20 (by decide) (hts _ mm_369) (fun _ h9 => h9) rfl d_M_question_85 ?_
        refine lv_iconst (v := (1 : Int32)) hx hb d_M_question_88 (by decide) ?_
        refine lv_iadd hx hb d_M_question_89 ?_
        refine va_put (D := D) (ci := 3) (v := .int ((m_hc (m_hit_w u (upd (m_hit u) (m_hc u).toNatClampNeg x3))) + (1 : Int32))) (ty := .int) (C := R_M) (T := T_M) (N := 21) hx hb hts in_M ty_M tk_M nm_M hown hK hP hD hS 0 rfl rfl 20 (by decide) (hts _ mm_369) (fun _ h9 => h9) rfl (by decide +kernel) rfl rfl (Nat.le_of_ble_eq_true rfl) d_M_question_90 (fun H locs hP hD hS => ?_)
        have hP : va_P D cl9 ((cM cI cJ cZ bd) (m_hc_w (m_hit_w u (upd (m_hit u) (m_hc u).toNatClampNeg x3)) ((m_hc (m_hit_w u (upd (m_hit u) (m_hc u).toNatClampNeg x3))) + (1 : Int32)))) H := reP (zcM_hc cI cJ cZ bd (m_hit_w u (upd (m_hit u) (m_hc u).toNatClampNeg x3)) ((m_hc (m_hit_w u (upd (m_hit u) (m_hc u).toNatClampNeg x3))) + (1 : Int32))) hP
        have hD : va_D A ((cM cI cJ cZ bd) (m_hc_w (m_hit_w u (upd (m_hit u) (m_hc u).toNatClampNeg x3)) ((m_hc (m_hit_w u (upd (m_hit u) (m_hc u).toNatClampNeg x3))) + (1 : Int32)))) := reD (zcM_hc cI cJ cZ bd (m_hit_w u (upd (m_hit u) (m_hc u).toNatClampNeg x3)) ((m_hc (m_hit_w u (upd (m_hit u) (m_hc u).toNatClampNeg x3))) + (1 : Int32))) hD
        obtain ⟨u7, hu7, hM⟩ := bd_some hM
        rw [Option.some.inj hu7] at hP hD
        exact w_M_question_93 C hk39 x1 x2 x3 u7 H locs ls hP hD hS (lv_sub hl [0, 1, 2, 3] rfl) hM
theorem w_M_question_39 {res : (Int32 × Mod)} (C : Cx p s m args meth c prog_5_method_22_code 4 (Option.some FieldType.int) "PlainLibraryModel" tb D cl9 (tyy cI cJ cZ) A) : ∀ (fu : Nat) (x1 : Int32) (x2 : Int32) (x3 : Int32) (u : Mod) (H : Heap) (locs : List Loc) (ls : Array Slot), va_P D cl9 ((cM cI cJ cZ bd) u) H → va_D A ((cM cI cJ cZ bd) u) → va_S A s.heap H locs → lv_has ls 4 [(0, .ref (bd 0)), (1, .int x1), (2, .int x2), (3, .int x3)] → B_M_question_39 fu x1 x2 x3 u = some res → W p l e rm_M_question s m args below meth c H locs 0 0 (MQ below (Qwi D cl9 (tyy cI cJ cZ) (cM cI cJ cZ bd) A res) args s 0 0 A) (F0 m 39 ls []) := by
  intro fu
  induction fu with
  | zero =>
    intro x1 x2 x3 u H locs ls hP hD hS hl hM
    have hM : (none : Option (Int32 × Mod)) = some res := hM
    cases hM
  | succ fu ih =>
    intro x1 x2 x3 u H locs ls hP hD hS hl hM
    exact w_M_question_39s C ih x1 x2 x3 u H locs ls hP hD hS hl hM
set_option maxHeartbeats 4000000 in
set_option maxRecDepth 100000 in
theorem w_M_question_0 {res : (Int32 × Mod)} (C : Cx p s m args meth c prog_5_method_22_code 4 (Option.some FieldType.int) "PlainLibraryModel" tb D cl9 (tyy cI cJ cZ) A) (x1 : Int32) (x2 : Int32) (u : Mod) (H : Heap) (locs : List Loc) (ls : Array Slot) (hP : va_P D cl9 ((cM cI cJ cZ bd) u) H) (hD : va_D A ((cM cI cJ cZ bd) u)) (hS : va_S A s.heap H locs) (hl : lv_has ls 4 [(0, .ref (bd 0)), (1, .int x1), (2, .int x2)]) (hM : B_M_question_0 x1 x2 u = some res) : W p l e rm_M_question s m args below meth c H locs 0 0 (MQ below (Qwi D cl9 (tyy cI cJ cZ) (cM cI cJ cZ bd) A res) args s 0 0 A) (F0 m 0 ls []) := by
  have C0 := C
  obtain ⟨hx, hb, hr, hml, hown, hts, hlocks, hK, hA⟩ := C
  replace C := C0
  unfold B_M_question_0 at hM
  refine lv_aload_n hx hb d_M_question_0 rfl (lv_at hl 0 rfl) ?_
  refine lv_iconst (v := (0 : Int32)) hx hb d_M_question_1 (by decide) ?_
  refine va_put (D := D) (ci := 3) (v := .int (0 : Int32)) (ty := .int) (C := R_M) (T := T_M) (N := 21) hx hb hts in_M ty_M tk_M nm_M hown hK hP hD hS 0 rfl rfl 0 (by decide) (hts _ mm_349) (fun _ h9 => h9) rfl (by decide +kernel) rfl rfl (Nat.le_of_ble_eq_true rfl) d_M_question_2 (fun H locs hP hD hS => ?_)
  have hP : va_P D cl9 ((cM cI cJ cZ bd) (m_th_w u (0 : Int32))) H := reP (zcM_th cI cJ cZ bd u (0 : Int32)) hP
  have hD : va_D A ((cM cI cJ cZ bd) (m_th_w u (0 : Int32))) := reD (zcM_th cI cJ cZ bd u (0 : Int32)) hD
  refine lv_iload_n hx hb d_M_question_5 rfl (lv_at hl 1 rfl) ?_
  refine lv_iconst (v := (1 : Int32)) hx hb d_M_question_6 (by decide) ?_
  refine lv_icmp_lt (tgt := 26) hx hb d_M_question_7 (by decide) (fun c1 => ?_) (fun c1 => ?_)
  · replace hM := it_t c1 hM
    refine lv_iconst (v := (-1 : Int32)) hx hb d_M_question_26 (by decide) ?_
    obtain rfl := Option.some.inj hM
    exact W.iret (v := (-1 : Int32)) hx hb hr (fun t ht hW => ⟨⟨(-1 : Int32), (m_th_w u (0 : Int32)), rfl, rfl, by rw [ht]; exact hP, va_K.moved hW.alike hK, hD⟩, hS.F ht⟩) hS.2.2 d_M_question_27
  · replace hM := it_f c1 hM
    refine lv_iload_n hx hb d_M_question_10 rfl (lv_at hl 1 rfl) ?_
    refine lv_bipush (v := (99 : Int32)) hx hb d_M_question_11 (by decide) ?_
    refine lv_icmp_gt (tgt := 26) hx hb d_M_question_13 (by decide) (fun c2 => ?_) (fun c2 => ?_)
    · replace hM := it_t c2 hM
      refine lv_iconst (v := (-1 : Int32)) hx hb d_M_question_26 (by decide) ?_
      obtain rfl := Option.some.inj hM
      exact W.iret (v := (-1 : Int32)) hx hb hr (fun t ht hW => ⟨⟨(-1 : Int32), (m_th_w u (0 : Int32)), rfl, rfl, by rw [ht]; exact hP, va_K.moved hW.alike hK, hD⟩, hS.F ht⟩) hS.2.2 d_M_question_27
    · replace hM := it_f c2 hM
      refine lv_iload_n hx hb d_M_question_16 rfl (lv_at hl 2 rfl) ?_
      refine lv_if_lt (tgt := 26) hx hb d_M_question_17 (by decide) (fun c3 => ?_) (fun c3 => ?_)
      · replace hM := it_t c3 hM
        refine lv_iconst (v := (-1 : Int32)) hx hb d_M_question_26 (by decide) ?_
        obtain rfl := Option.some.inj hM
        exact W.iret (v := (-1 : Int32)) hx hb hr (fun t ht hW => ⟨⟨(-1 : Int32), (m_th_w u (0 : Int32)), rfl, rfl, by rw [ht]; exact hP, va_K.moved hW.alike hK, hD⟩, hS.F ht⟩) hS.2.2 d_M_question_27
      · replace hM := it_f c3 hM
        refine lv_iload_n hx hb d_M_question_20 rfl (lv_at hl 2 rfl) ?_
        refine lv_bipush (v := (99 : Int32)) hx hb d_M_question_21 (by decide) ?_
        refine lv_icmp_le (tgt := 28) hx hb d_M_question_23 (by decide) (fun c4 => ?_) (fun c4 => ?_)
        · replace hM := it_t c4 hM
          refine lv_aload_n hx hb d_M_question_28 rfl (lv_at hl 0 rfl) ?_
          obtain ⟨v5, hq5, hM⟩ := bd_some hM
          refine fw_v (F := (cM cI cJ cZ bd)) (u := (m_th_w u (0 : Int32))) (res := v5) (va_runV (As := []) (rest := []) ⟨hx, hb, hml, hown, hts⟩ (c_M_all l D cI cJ cZ bd H.size (m_th_w u (0 : Int32)) v5 hq5) (cwV 0 hts (gV mm_434 mm_436 (ms_ 16 rfl rfl) mm_30 mm_437) rfl rfl rfl hd_M_all ⟨Nat.le_of_ble_eq_true rfl, Nat.le_of_ble_eq_true rfl⟩) (pv_ (F := (cM cI cJ cZ bd)) (u := (m_th_w u (0 : Int32))) hK hP hD (va_recv hK hP (ci := 3) (q0 := 0) rfl rfl)) rfl rfl hl.1 rfl (lv_room (Nat.le_of_ble_eq_true rfl)) d_M_question_29 ⟨Nat.le_of_ble_eq_true rfl, Nat.le_of_ble_eq_true rfl⟩) hS (fa_ hD hS hA) (fun H locs hP hD hS => ?_)
          refine lv_aload_n hx hb d_M_question_32 rfl (lv_at hl 0 rfl) ?_
          refine lv_iconst (v := (0 : Int32)) hx hb d_M_question_33 (by decide) ?_
          refine va_put (D := D) (ci := 3) (v := .int (0 : Int32)) (ty := .int) (C := R_M) (T := T_M) (N := 21) hx hb hts in_M ty_M tk_M nm_M hown hK hP hD hS 0 rfl rfl 20 (by decide) (hts _ mm_369) (fun _ h9 => h9) rfl (by decide +kernel) rfl rfl (Nat.le_of_ble_eq_true rfl) d_M_question_34 (fun H locs hP hD hS => ?_)
          have hP : va_P D cl9 ((cM cI cJ cZ bd) (m_hc_w v5 (0 : Int32))) H := reP (zcM_hc cI cJ cZ bd v5 (0 : Int32)) hP
          have hD : va_D A ((cM cI cJ cZ bd) (m_hc_w v5 (0 : Int32))) := reD (zcM_hc cI cJ cZ bd v5 (0 : Int32)) hD
          refine lv_iconst (v := (1 : Int32)) hx hb d_M_question_37 (by decide) ?_
          refine lv_istore_n (lv' := [(3, .int (1 : Int32)), (0, .ref (bd 0)), (1, .int x1), (2, .int x2)]) hx hb d_M_question_38 rfl hl (by decide) rfl (fun ls hl => ?_)
          exact w_M_question_39 C FU x1 x2 (1 : Int32) (m_hc_w v5 (0 : Int32)) H locs ls hP hD hS (lv_sub hl [1, 2, 3, 0] rfl) hM
        · replace hM := it_f c4 hM
          refine lv_iconst (v := (-1 : Int32)) hx hb d_M_question_26 (by decide) ?_
          obtain rfl := Option.some.inj hM
          exact W.iret (v := (-1 : Int32)) hx hb hr (fun t ht hW => ⟨⟨(-1 : Int32), (m_th_w u (0 : Int32)), rfl, rfl, by rw [ht]; exact hP, va_K.moved hW.alike hK, hD⟩, hS.F ht⟩) hS.2.2 d_M_question_27
end
set_option maxRecDepth 100000 in
theorem c_M_question (l : Launch) (D : va_G) (cI cJ cZ : ClassId) (bd : Nat → Nat) (sz : Nat) (x1 : Int32) (x2 : Int32) (u : Mod) (res : (Int32 × Mod)) (hM : B_M_question_0 x1 x2 u = some res) : Met l y_M_question ws_M_question rm_M_question (va_Pc [.ref (bd 0), .int x1, .int x2] (pr_ D cl9 (tyy cI cJ cZ) (cM cI cJ cZ bd) u sz)) (Qwi D cl9 (tyy cI cJ cZ) (cM cI cJ cZ bd) (va_A ((cM cI cJ cZ bd) u) sz) res) 0 0 (va_A ((cM cI cJ cZ bd) u) sz) := by
  refine Met.ofW (cc := prog_5_method_22_code) (maxL := 4) (ret := (Option.some FieldType.int)) (by decide) rfl ?_
  intro p e s m args below meth c s₁ B hml hv
  obtain ⟨rfl, hsz, hP, hK, hD0⟩ := hv
  subst hsz
  have hts0 := atoms_spec (ws := ws_M_question) B.pre
  have hl := lv_entry ([.ref (bd 0), .int x1, .int x2]) (n := 4) (Nat.le_of_ble_eq_true rfl)
  rw [lg_entry_eq]
  generalize (lg_sl ([.ref (bd 0), .int x1, .int x2]) ++ List.replicate (4 - (lg_sl ([.ref (bd 0), .int x1, .int x2])).length) Slot.unset).toArray = ls at hl ⊢
  exact w_M_question_0 ⟨B.exec, B.bytes, B.returns, hml, findClass_of_methodNamed B.named, fun w h => hts0 w (List.mem_cons_of_mem _ h), B.notSynchronized, hK, fun q h => Or.inr h⟩ x1 x2 u s.heap [] ls hP hD0.self va_S.rf hl hM
section
variable {p : Program} {l : Launch} {e : Env} {s : State} {m : MethodId} {args : Array Value} {below : List Frame} {meth : Method} {c : Code} {D : va_G} {cI cJ cZ : ClassId} {A : Nat → Prop} {bd : Nat → Nat}
set_option maxHeartbeats 4000000 in
set_option maxRecDepth 100000 in
theorem w_M_hit_17 {res : (Int32 × Mod)} (C : Cx p s m args meth c prog_5_method_23_code 2 (Option.some FieldType.int) "PlainLibraryModel" tb D cl9 (tyy cI cJ cZ) A) (u : Mod) (H : Heap) (locs : List Loc) (ls : Array Slot) (hP : va_P D cl9 ((cM cI cJ cZ bd) u) H) (hD : va_D A ((cM cI cJ cZ bd) u)) (hS : va_S A s.heap H locs) (hl : lv_has ls 2 []) (hM : B_M_hit_17 u = some res) : W p l e rm_M_hit s m args below meth c H locs 0 0 (MQ below (Qwi D cl9 (tyy cI cJ cZ) (cM cI cJ cZ bd) A res) args s 0 0 A) (F0 m 17 ls []) := by
  have C0 := C
  obtain ⟨hx, hb, hr, hml, hown, hts, hlocks, hK, hA⟩ := C
  replace C := C0
  unfold B_M_hit_17 at hM
  refine lv_iconst (v := (-1 : Int32)) hx hb d_M_hit_17 (by decide) ?_
  refine lv_goto (tgt := 27) hx hb d_M_hit_18 (by decide) ?_
  obtain rfl := Option.some.inj hM
  exact W.iret (v := (-1 : Int32)) hx hb hr (fun t ht hW => ⟨⟨(-1 : Int32), u, rfl, rfl, by rw [ht]; exact hP, va_K.moved hW.alike hK, hD⟩, hS.F ht⟩) hS.2.2 d_M_hit_27
set_option maxHeartbeats 4000000 in
set_option maxRecDepth 100000 in
theorem w_M_hit_0 {res : (Int32 × Mod)} (C : Cx p s m args meth c prog_5_method_23_code 2 (Option.some FieldType.int) "PlainLibraryModel" tb D cl9 (tyy cI cJ cZ) A) (x1 : Int32) (u : Mod) (H : Heap) (locs : List Loc) (ls : Array Slot) (hP : va_P D cl9 ((cM cI cJ cZ bd) u) H) (hD : va_D A ((cM cI cJ cZ bd) u)) (hS : va_S A s.heap H locs) (hl : lv_has ls 2 [(0, .ref (bd 0)), (1, .int x1)]) (hM : B_M_hit_0 x1 u = some res) : W p l e rm_M_hit s m args below meth c H locs 0 0 (MQ below (Qwi D cl9 (tyy cI cJ cZ) (cM cI cJ cZ bd) A res) args s 0 0 A) (F0 m 0 ls []) := by
  have C0 := C
  obtain ⟨hx, hb, hr, hml, hown, hts, hlocks, hK, hA⟩ := C
  replace C := C0
  unfold B_M_hit_0 at hM
  refine lv_aload_n hx hb d_M_hit_0 rfl (lv_at hl 0 rfl) ?_
  refine lv_iconst (v := (0 : Int32)) hx hb d_M_hit_1 (by decide) ?_
  refine va_put (D := D) (ci := 3) (v := .int (0 : Int32)) (ty := .int) (C := R_M) (T := T_M) (N := 21) hx hb hts in_M ty_M tk_M nm_M hown hK hP hD hS 0 rfl rfl 0 (by decide) (hts _ mm_349) (fun _ h9 => h9) rfl (by decide +kernel) rfl rfl (Nat.le_of_ble_eq_true rfl) d_M_hit_2 (fun H locs hP hD hS => ?_)
  have hP : va_P D cl9 ((cM cI cJ cZ bd) (m_th_w u (0 : Int32))) H := reP (zcM_th cI cJ cZ bd u (0 : Int32)) hP
  have hD : va_D A ((cM cI cJ cZ bd) (m_th_w u (0 : Int32))) := reD (zcM_th cI cJ cZ bd u (0 : Int32)) hD
  refine lv_iload_n hx hb d_M_hit_5 rfl (lv_at hl 1 rfl) ?_
  refine lv_if_lt (tgt := 17) hx hb d_M_hit_6 (by decide) (fun c1 => ?_) (fun c1 => ?_)
  · replace hM := it_t c1 hM
    exact w_M_hit_17 C (m_th_w u (0 : Int32)) H locs ls hP hD hS (lv_sub hl [] rfl) hM
  · replace hM := it_f c1 hM
    refine lv_iload_n hx hb d_M_hit_9 rfl (lv_at hl 1 rfl) ?_
    refine lv_aload_n hx hb d_M_hit_10 rfl (lv_at hl 0 rfl) ?_
    refine va_get (D := D) (ci := 3) (v := .int (m_hc (m_th_w u (0 : Int32)))) (C := R_M) (T := T_M) (N := 21) hx hb hts in_M hown hK hP 0 rfl rfl 20 (by decide) (hts _ mm_369) (fun _ h9 => h9) rfl d_M_hit_11 ?_
    refine lv_icmp_lt (tgt := 21) hx hb d_M_hit_14 (by decide) (fun c2 => ?_) (fun c2 => ?_)
    · replace hM := it_t c2 hM
      refine lv_aload_n hx hb d_M_hit_21 rfl (lv_at hl 0 rfl) ?_
      refine va_get (D := D) (ci := 3) (v := .ref (bd 16)) (C := R_M) (T := T_M) (N := 21) hx hb hts in_M hown hK hP 0 rfl rfl 19 (by decide) (hts _ mm_368) (fun _ h9 => h9) rfl d_M_hit_22 ?_
      refine lv_iload_n hx hb d_M_hit_25 rfl (lv_at hl 1 rfl) ?_
      obtain ⟨h3, hM⟩ := gd_some hM
      refine va_iald hx hb hK hP 16 0 rfl rfl (vp_in_iff.mpr h3) d_M_hit_26 ?_
      obtain rfl := Option.some.inj hM
      exact W.iret (v := ((m_hit (m_th_w u (0 : Int32))) x1.toNatClampNeg)) hx hb hr (fun t ht hW => ⟨⟨((m_hit (m_th_w u (0 : Int32))) x1.toNatClampNeg), (m_th_w u (0 : Int32)), rfl, rfl, by rw [ht]; exact hP, va_K.moved hW.alike hK, hD⟩, hS.F ht⟩) hS.2.2 d_M_hit_27
    · replace hM := it_f c2 hM
      exact w_M_hit_17 C (m_th_w u (0 : Int32)) H locs ls hP hD hS (lv_sub hl [] rfl) hM
end
set_option maxRecDepth 100000 in
theorem c_M_hit (l : Launch) (D : va_G) (cI cJ cZ : ClassId) (bd : Nat → Nat) (sz : Nat) (x1 : Int32) (u : Mod) (res : (Int32 × Mod)) (hM : B_M_hit_0 x1 u = some res) : Met l y_M_hit ws_M_hit rm_M_hit (va_Pc [.ref (bd 0), .int x1] (pr_ D cl9 (tyy cI cJ cZ) (cM cI cJ cZ bd) u sz)) (Qwi D cl9 (tyy cI cJ cZ) (cM cI cJ cZ bd) (va_A ((cM cI cJ cZ bd) u) sz) res) 0 0 (va_A ((cM cI cJ cZ bd) u) sz) := by
  refine Met.ofW (cc := prog_5_method_23_code) (maxL := 2) (ret := (Option.some FieldType.int)) (by decide) rfl ?_
  intro p e s m args below meth c s₁ B hml hv
  obtain ⟨rfl, hsz, hP, hK, hD0⟩ := hv
  subst hsz
  have hts0 := atoms_spec (ws := ws_M_hit) B.pre
  have hl := lv_entry ([.ref (bd 0), .int x1]) (n := 2) (Nat.le_of_ble_eq_true rfl)
  rw [lg_entry_eq]
  generalize (lg_sl ([.ref (bd 0), .int x1]) ++ List.replicate (2 - (lg_sl ([.ref (bd 0), .int x1])).length) Slot.unset).toArray = ls at hl ⊢
  exact w_M_hit_0 ⟨B.exec, B.bytes, B.returns, hml, findClass_of_methodNamed B.named, fun w h => hts0 w (List.mem_cons_of_mem _ h), B.notSynchronized, hK, fun q h => Or.inr h⟩ x1 u s.heap [] ls hP hD0.self va_S.rf hl hM
section
variable {p : Program} {l : Launch} {e : Env} {s : State} {m : MethodId} {args : Array Value} {below : List Frame} {meth : Method} {c : Code} {D : va_G} {cI cJ cZ : ClassId} {A : Nat → Prop} {bd : Nat → Nat}
set_option maxHeartbeats 4000000 in
set_option maxRecDepth 100000 in
theorem w_M_due_0 {res : (Int64 × Mod)} (C : Cx p s m args meth c prog_5_method_24_code 2 (Option.some FieldType.long) "PlainLibraryModel" tb D cl9 (tyy cI cJ cZ) A) (x1 : Int32) (u : Mod) (H : Heap) (locs : List Loc) (ls : Array Slot) (hP : va_P D cl9 ((cM cI cJ cZ bd) u) H) (hD : va_D A ((cM cI cJ cZ bd) u)) (hS : va_S A s.heap H locs) (hl : lv_has ls 2 [(0, .ref (bd 0)), (1, .int x1)]) (hM : B_M_due_0 x1 u = some res) : W p l e rm_M_due s m args below meth c H locs 0 0 (MQ below (Qwl D cl9 (tyy cI cJ cZ) (cM cI cJ cZ bd) A res) args s 0 0 A) (F0 m 0 ls []) := by
  have C0 := C
  obtain ⟨hx, hb, hr, hml, hown, hts, hlocks, hK, hA⟩ := C
  replace C := C0
  unfold B_M_due_0 at hM
  refine lv_aload_n hx hb d_M_due_0 rfl (lv_at hl 0 rfl) ?_
  refine lv_iconst (v := (0 : Int32)) hx hb d_M_due_1 (by decide) ?_
  refine va_put (D := D) (ci := 3) (v := .int (0 : Int32)) (ty := .int) (C := R_M) (T := T_M) (N := 21) hx hb hts in_M ty_M tk_M nm_M hown hK hP hD hS 0 rfl rfl 0 (by decide) (hts _ mm_349) (fun _ h9 => h9) rfl (by decide +kernel) rfl rfl (Nat.le_of_ble_eq_true rfl) d_M_due_2 (fun H locs hP hD hS => ?_)
  have hP : va_P D cl9 ((cM cI cJ cZ bd) (m_th_w u (0 : Int32))) H := reP (zcM_th cI cJ cZ bd u (0 : Int32)) hP
  have hD : va_D A ((cM cI cJ cZ bd) (m_th_w u (0 : Int32))) := reD (zcM_th cI cJ cZ bd u (0 : Int32)) hD
  refine lv_aload_n hx hb d_M_due_5 rfl (lv_at hl 0 rfl) ?_
  obtain ⟨v1, hq1, hM⟩ := bd_some hM
  refine fw_v (F := (cM cI cJ cZ bd)) (u := (m_th_w u (0 : Int32))) (res := v1) (va_runV (As := []) (rest := []) ⟨hx, hb, hml, hown, hts⟩ (c_M_all l D cI cJ cZ bd H.size (m_th_w u (0 : Int32)) v1 hq1) (cwV 0 hts (gV mm_434 mm_436 (ms_ 16 rfl rfl) mm_30 mm_437) rfl rfl rfl hd_M_all ⟨Nat.le_of_ble_eq_true rfl, Nat.le_of_ble_eq_true rfl⟩) (pv_ (F := (cM cI cJ cZ bd)) (u := (m_th_w u (0 : Int32))) hK hP hD (va_recv hK hP (ci := 3) (q0 := 0) rfl rfl)) rfl rfl hl.1 rfl (lv_room (Nat.le_of_ble_eq_true rfl)) d_M_due_6 ⟨Nat.le_of_ble_eq_true rfl, Nat.le_of_ble_eq_true rfl⟩) hS (fa_ hD hS hA) (fun H locs hP hD hS => ?_)
  refine lv_iload_n hx hb d_M_due_9 rfl (lv_at hl 1 rfl) ?_
  obtain ⟨v2, hq2, hM⟩ := bd_some hM
  refine fr_i (res := v2) (va_runS (As := [.int x1]) (rest := []) ⟨hx, hb, hml, hown, hts⟩ (c_M_isNumber l D cI cJ cZ H.size x1 v2 hq2) (va_cwS 1 hts (gS mm_487 mm_488 mm_30 mm_489) rfl rfl rfl hs_M_isNumber ⟨Nat.le_of_ble_eq_true rfl, Nat.le_of_ble_eq_true rfl⟩) (ps_ (F := nW) (u := ()) hK nP (nD (A := fun _ => True))) rfl rfl hl.1 rfl (lv_room (Nat.le_of_ble_eq_true rfl)) d_M_due_10 ⟨Nat.le_of_ble_eq_true rfl, Nat.le_of_ble_eq_true rfl⟩) hP hS hA (fun H locs hP hS => ?_)
  refine lv_if_eq (tgt := 34) hx hb d_M_due_13 (by decide) (fun c3 => ?_) (fun c3 => ?_)
  · replace hM := it_t c3 hM
    refine lv_ldc2 (v := (-1 : Int64)) hx hb hown (hts _ mm_506) d_M_due_34 ?_
    obtain rfl := Option.some.inj hM
    exact W.lret (v := (-1 : Int64)) hx hb hr (fun t ht hW => ⟨⟨(-1 : Int64), v1, rfl, rfl, by rw [ht]; exact hP, va_K.moved hW.alike hK, hD⟩, hS.F ht⟩) hS.2.2 d_M_due_37
  · replace hM := it_f c3 hM
    refine lv_aload_n hx hb d_M_due_16 rfl (lv_at hl 0 rfl) ?_
    refine va_get (D := D) (ci := 3) (v := .ref (bd 7)) (C := R_M) (T := T_M) (N := 21) hx hb hts in_M hown hK hP 0 rfl rfl 8 (by decide) (hts _ mm_357) (fun _ h9 => h9) rfl d_M_due_17 ?_
    refine lv_iload_n hx hb d_M_due_20 rfl (lv_at hl 1 rfl) ?_
    obtain ⟨h4, hM⟩ := gd_some hM
    refine va_iald hx hb hK hP 7 0 rfl rfl (vp_in_iff.mpr h4) d_M_due_21 ?_
    refine lv_if_eq (tgt := 34) hx hb d_M_due_22 (by decide) (fun c5 => ?_) (fun c5 => ?_)
    · replace hM := it_t c5 hM
      refine lv_ldc2 (v := (-1 : Int64)) hx hb hown (hts _ mm_506) d_M_due_34 ?_
      obtain rfl := Option.some.inj hM
      exact W.lret (v := (-1 : Int64)) hx hb hr (fun t ht hW => ⟨⟨(-1 : Int64), v1, rfl, rfl, by rw [ht]; exact hP, va_K.moved hW.alike hK, hD⟩, hS.F ht⟩) hS.2.2 d_M_due_37
    · replace hM := it_f c5 hM
      refine lv_aload_n hx hb d_M_due_25 rfl (lv_at hl 0 rfl) ?_
      refine va_get (D := D) (ci := 3) (v := .ref (bd 8)) (C := R_M) (T := T_M) (N := 21) hx hb hts in_M hown hK hP 0 rfl rfl 9 (by decide) (hts _ mm_358) (fun _ h9 => h9) rfl d_M_due_26 ?_
      refine lv_iload_n hx hb d_M_due_29 rfl (lv_at hl 1 rfl) ?_
      obtain ⟨h6, hM⟩ := gd_some hM
      refine va_lald hx hb hK hP 8 1 rfl rfl (vp_in_iff.mpr h6) d_M_due_30 ?_
      refine lv_goto (tgt := 37) hx hb d_M_due_31 (by decide) ?_
      obtain rfl := Option.some.inj hM
      exact W.lret (v := ((m_due v1) x1.toNatClampNeg)) hx hb hr (fun t ht hW => ⟨⟨((m_due v1) x1.toNatClampNeg), v1, rfl, rfl, by rw [ht]; exact hP, va_K.moved hW.alike hK, hD⟩, hS.F ht⟩) hS.2.2 d_M_due_37
end
set_option maxRecDepth 100000 in
theorem c_M_due (l : Launch) (D : va_G) (cI cJ cZ : ClassId) (bd : Nat → Nat) (sz : Nat) (x1 : Int32) (u : Mod) (res : (Int64 × Mod)) (hM : B_M_due_0 x1 u = some res) : Met l y_M_due ws_M_due rm_M_due (va_Pc [.ref (bd 0), .int x1] (pr_ D cl9 (tyy cI cJ cZ) (cM cI cJ cZ bd) u sz)) (Qwl D cl9 (tyy cI cJ cZ) (cM cI cJ cZ bd) (va_A ((cM cI cJ cZ bd) u) sz) res) 0 0 (va_A ((cM cI cJ cZ bd) u) sz) := by
  refine Met.ofW (cc := prog_5_method_24_code) (maxL := 2) (ret := (Option.some FieldType.long)) (by decide) rfl ?_
  intro p e s m args below meth c s₁ B hml hv
  obtain ⟨rfl, hsz, hP, hK, hD0⟩ := hv
  subst hsz
  have hts0 := atoms_spec (ws := ws_M_due) B.pre
  have hl := lv_entry ([.ref (bd 0), .int x1]) (n := 2) (Nat.le_of_ble_eq_true rfl)
  rw [lg_entry_eq]
  generalize (lg_sl ([.ref (bd 0), .int x1]) ++ List.replicate (2 - (lg_sl ([.ref (bd 0), .int x1])).length) Slot.unset).toArray = ls at hl ⊢
  exact w_M_due_0 ⟨B.exec, B.bytes, B.returns, hml, findClass_of_methodNamed B.named, fun w h => hts0 w (List.mem_cons_of_mem _ h), B.notSynchronized, hK, fun q h => Or.inr h⟩ x1 u s.heap [] ls hP hD0.self va_S.rf hl hM
section
variable {p : Program} {l : Launch} {e : Env} {s : State} {m : MethodId} {args : Array Value} {below : List Frame} {meth : Method} {c : Code} {D : va_G} {cI cJ cZ : ClassId} {A : Nat → Prop} {bd : Nat → Nat}
set_option maxHeartbeats 4000000 in
set_option maxRecDepth 100000 in
theorem w_M_queue_30 {res : (Int32 × Mod)} (C : Cx p s m args meth c prog_5_method_25_code 3 (Option.some FieldType.int) "PlainLibraryModel" tb D cl9 (tyy cI cJ cZ) A) (u : Mod) (H : Heap) (locs : List Loc) (ls : Array Slot) (hP : va_P D cl9 ((cM cI cJ cZ bd) u) H) (hD : va_D A ((cM cI cJ cZ bd) u)) (hS : va_S A s.heap H locs) (hl : lv_has ls 3 []) (hM : B_M_queue_30 u = some res) : W p l e rm_M_queue s m args below meth c H locs 0 0 (MQ below (Qwi D cl9 (tyy cI cJ cZ) (cM cI cJ cZ bd) A res) args s 0 0 A) (F0 m 30 ls []) := by
  have C0 := C
  obtain ⟨hx, hb, hr, hml, hown, hts, hlocks, hK, hA⟩ := C
  replace C := C0
  unfold B_M_queue_30 at hM
  refine lv_iconst (v := (-1 : Int32)) hx hb d_M_queue_30 (by decide) ?_
  refine lv_goto (tgt := 45) hx hb d_M_queue_31 (by decide) ?_
  obtain rfl := Option.some.inj hM
  exact W.iret (v := (-1 : Int32)) hx hb hr (fun t ht hW => ⟨⟨(-1 : Int32), u, rfl, rfl, by rw [ht]; exact hP, va_K.moved hW.alike hK, hD⟩, hS.F ht⟩) hS.2.2 d_M_queue_45
set_option maxHeartbeats 4000000 in
set_option maxRecDepth 100000 in
theorem w_M_queue_0 {res : (Int32 × Mod)} (C : Cx p s m args meth c prog_5_method_25_code 3 (Option.some FieldType.int) "PlainLibraryModel" tb D cl9 (tyy cI cJ cZ) A) (x1 : Int32) (x2 : Int32) (u : Mod) (H : Heap) (locs : List Loc) (ls : Array Slot) (hP : va_P D cl9 ((cM cI cJ cZ bd) u) H) (hD : va_D A ((cM cI cJ cZ bd) u)) (hS : va_S A s.heap H locs) (hl : lv_has ls 3 [(0, .ref (bd 0)), (1, .int x1), (2, .int x2)]) (hM : B_M_queue_0 x1 x2 u = some res) : W p l e rm_M_queue s m args below meth c H locs 0 0 (MQ below (Qwi D cl9 (tyy cI cJ cZ) (cM cI cJ cZ bd) A res) args s 0 0 A) (F0 m 0 ls []) := by
  have C0 := C
  obtain ⟨hx, hb, hr, hml, hown, hts, hlocks, hK, hA⟩ := C
  replace C := C0
  unfold B_M_queue_0 at hM
  refine lv_aload_n hx hb d_M_queue_0 rfl (lv_at hl 0 rfl) ?_
  refine lv_iconst (v := (0 : Int32)) hx hb d_M_queue_1 (by decide) ?_
  refine va_put (D := D) (ci := 3) (v := .int (0 : Int32)) (ty := .int) (C := R_M) (T := T_M) (N := 21) hx hb hts in_M ty_M tk_M nm_M hown hK hP hD hS 0 rfl rfl 0 (by decide) (hts _ mm_349) (fun _ h9 => h9) rfl (by decide +kernel) rfl rfl (Nat.le_of_ble_eq_true rfl) d_M_queue_2 (fun H locs hP hD hS => ?_)
  have hP : va_P D cl9 ((cM cI cJ cZ bd) (m_th_w u (0 : Int32))) H := reP (zcM_th cI cJ cZ bd u (0 : Int32)) hP
  have hD : va_D A ((cM cI cJ cZ bd) (m_th_w u (0 : Int32))) := reD (zcM_th cI cJ cZ bd u (0 : Int32)) hD
  refine lv_aload_n hx hb d_M_queue_5 rfl (lv_at hl 0 rfl) ?_
  obtain ⟨v1, hq1, hM⟩ := bd_some hM
  refine fw_v (F := (cM cI cJ cZ bd)) (u := (m_th_w u (0 : Int32))) (res := v1) (va_runV (As := []) (rest := []) ⟨hx, hb, hml, hown, hts⟩ (c_M_all l D cI cJ cZ bd H.size (m_th_w u (0 : Int32)) v1 hq1) (cwV 0 hts (gV mm_434 mm_436 (ms_ 16 rfl rfl) mm_30 mm_437) rfl rfl rfl hd_M_all ⟨Nat.le_of_ble_eq_true rfl, Nat.le_of_ble_eq_true rfl⟩) (pv_ (F := (cM cI cJ cZ bd)) (u := (m_th_w u (0 : Int32))) hK hP hD (va_recv hK hP (ci := 3) (q0 := 0) rfl rfl)) rfl rfl hl.1 rfl (lv_room (Nat.le_of_ble_eq_true rfl)) d_M_queue_6 ⟨Nat.le_of_ble_eq_true rfl, Nat.le_of_ble_eq_true rfl⟩) hS (fa_ hD hS hA) (fun H locs hP hD hS => ?_)
  refine lv_iload_n hx hb d_M_queue_9 rfl (lv_at hl 1 rfl) ?_
  obtain ⟨v2, hq2, hM⟩ := bd_some hM
  refine fr_i (res := v2) (va_runS (As := [.int x1]) (rest := []) ⟨hx, hb, hml, hown, hts⟩ (c_M_isNumber l D cI cJ cZ H.size x1 v2 hq2) (va_cwS 1 hts (gS mm_487 mm_488 mm_30 mm_489) rfl rfl rfl hs_M_isNumber ⟨Nat.le_of_ble_eq_true rfl, Nat.le_of_ble_eq_true rfl⟩) (ps_ (F := nW) (u := ()) hK nP (nD (A := fun _ => True))) rfl rfl hl.1 rfl (lv_room (Nat.le_of_ble_eq_true rfl)) d_M_queue_10 ⟨Nat.le_of_ble_eq_true rfl, Nat.le_of_ble_eq_true rfl⟩) hP hS hA (fun H locs hP hS => ?_)
  refine lv_if_eq (tgt := 30) hx hb d_M_queue_13 (by decide) (fun c3 => ?_) (fun c3 => ?_)
  · replace hM := it_t c3 hM
    exact w_M_queue_30 C v1 H locs ls hP hD hS (lv_sub hl [] rfl) hM
  · replace hM := it_f c3 hM
    refine lv_iload_n hx hb d_M_queue_16 rfl (lv_at hl 2 rfl) ?_
    refine lv_if_lt (tgt := 30) hx hb d_M_queue_17 (by decide) (fun c4 => ?_) (fun c4 => ?_)
    · replace hM := it_t c4 hM
      exact w_M_queue_30 C v1 H locs ls hP hD hS (lv_sub hl [] rfl) hM
    · replace hM := it_f c4 hM
      refine lv_iload_n hx hb d_M_queue_20 rfl (lv_at hl 2 rfl) ?_
      refine lv_aload_n hx hb d_M_queue_21 rfl (lv_at hl 0 rfl) ?_
      refine va_get (D := D) (ci := 3) (v := .ref (bd 10)) (C := R_M) (T := T_M) (N := 21) hx hb hts in_M hown hK hP 0 rfl rfl 11 (by decide) (hts _ mm_360) (fun _ h9 => h9) rfl d_M_queue_22 ?_
      refine lv_iload_n hx hb d_M_queue_25 rfl (lv_at hl 1 rfl) ?_
      obtain ⟨h5, hM⟩ := gd_some hM
      refine va_iald hx hb hK hP 10 0 rfl rfl (vp_in_iff.mpr h5) d_M_queue_26 ?_
      refine lv_icmp_lt (tgt := 34) hx hb d_M_queue_27 (by decide) (fun c6 => ?_) (fun c6 => ?_)
      · replace hM := it_t c6 hM
        refine lv_aload_n hx hb d_M_queue_34 rfl (lv_at hl 0 rfl) ?_
        refine va_get (D := D) (ci := 3) (v := .ref (bd 9)) (C := R_M) (T := T_M) (N := 21) hx hb hts in_M hown hK hP 0 rfl rfl 10 (by decide) (hts _ mm_359) (fun _ h9 => h9) rfl d_M_queue_35 ?_
        refine lv_bipush (v := (20 : Int32)) hx hb d_M_queue_38 (by decide) ?_
        refine lv_iload_n hx hb d_M_queue_40 rfl (lv_at hl 1 rfl) ?_
        refine lv_imul hx hb d_M_queue_41 ?_
        refine lv_iload_n hx hb d_M_queue_42 rfl (lv_at hl 2 rfl) ?_
        refine lv_iadd hx hb d_M_queue_43 ?_
        obtain ⟨h7, hM⟩ := gd_some hM
        refine va_iald hx hb hK hP 9 0 rfl rfl (vp_in_iff.mpr h7) d_M_queue_44 ?_
        obtain rfl := Option.some.inj hM
        exact W.iret (v := ((m_qd v1) (((20 : Int32) * x1) + x2).toNatClampNeg)) hx hb hr (fun t ht hW => ⟨⟨((m_qd v1) (((20 : Int32) * x1) + x2).toNatClampNeg), v1, rfl, rfl, by rw [ht]; exact hP, va_K.moved hW.alike hK, hD⟩, hS.F ht⟩) hS.2.2 d_M_queue_45
      · replace hM := it_f c6 hM
        exact w_M_queue_30 C v1 H locs ls hP hD hS (lv_sub hl [] rfl) hM
end
set_option maxRecDepth 100000 in
theorem c_M_queue (l : Launch) (D : va_G) (cI cJ cZ : ClassId) (bd : Nat → Nat) (sz : Nat) (x1 : Int32) (x2 : Int32) (u : Mod) (res : (Int32 × Mod)) (hM : B_M_queue_0 x1 x2 u = some res) : Met l y_M_queue ws_M_queue rm_M_queue (va_Pc [.ref (bd 0), .int x1, .int x2] (pr_ D cl9 (tyy cI cJ cZ) (cM cI cJ cZ bd) u sz)) (Qwi D cl9 (tyy cI cJ cZ) (cM cI cJ cZ bd) (va_A ((cM cI cJ cZ bd) u) sz) res) 0 0 (va_A ((cM cI cJ cZ bd) u) sz) := by
  refine Met.ofW (cc := prog_5_method_25_code) (maxL := 3) (ret := (Option.some FieldType.int)) (by decide) rfl ?_
  intro p e s m args below meth c s₁ B hml hv
  obtain ⟨rfl, hsz, hP, hK, hD0⟩ := hv
  subst hsz
  have hts0 := atoms_spec (ws := ws_M_queue) B.pre
  have hl := lv_entry ([.ref (bd 0), .int x1, .int x2]) (n := 3) (Nat.le_of_ble_eq_true rfl)
  rw [lg_entry_eq]
  generalize (lg_sl ([.ref (bd 0), .int x1, .int x2]) ++ List.replicate (3 - (lg_sl ([.ref (bd 0), .int x1, .int x2])).length) Slot.unset).toArray = ls at hl ⊢
  exact w_M_queue_0 ⟨B.exec, B.bytes, B.returns, hml, findClass_of_methodNamed B.named, fun w h => hts0 w (List.mem_cons_of_mem _ h), B.notSynchronized, hK, fun q h => Or.inr h⟩ x1 x2 u s.heap [] ls hP hD0.self va_S.rf hl hM
section
variable {p : Program} {l : Launch} {e : Env} {s : State} {m : MethodId} {args : Array Value} {below : List Frame} {meth : Method} {c : Code} {D : va_G} {cI cJ cZ : ClassId} {A : Nat → Prop} {bd : Nat → Nat}
set_option maxHeartbeats 4000000 in
set_option maxRecDepth 100000 in
theorem w_M_poll_55 {k26 : Int32 → Int32 → Int32 → Int32 → Mod → Option (Int32 × Mod)} {res : (Int32 × Mod)} (C : Cx p s m args meth c prog_5_method_26_code 7 (Option.some FieldType.int) "PlainLibraryModel" tb D cl9 (tyy cI cJ cZ) A) (hk26 : ∀ (x1 : Int32) (x2 : Int32) (x3 : Int32) (x4 : Int32) (u : Mod) (H : Heap) (locs : List Loc) (ls : Array Slot), va_P D cl9 ((cM cI cJ cZ bd) u) H → va_D A ((cM cI cJ cZ bd) u) → va_S A s.heap H locs → lv_has ls 7 [(0, .ref (bd 0)), (1, .int x1), (2, .int x2), (3, .int x3), (4, .int x4)] → k26 x1 x2 x3 x4 u = some res → W p l e rm_M_poll s m args below meth c H locs 0 0 (MQ below (Qwi D cl9 (tyy cI cJ cZ) (cM cI cJ cZ bd) A res) args s 0 0 A) (F0 m 26 ls [])) (x1 : Int32) (x3 : Int32) (x4 : Int32) (t0 : Int32) (t1 : Int32) (u : Mod) (H : Heap) (locs : List Loc) (ls : Array Slot) (hP : va_P D cl9 ((cM cI cJ cZ bd) u) H) (hD : va_D A ((cM cI cJ cZ bd) u)) (hS : va_S A s.heap H locs) (hl : lv_has ls 7 [(0, .ref (bd 0)), (1, .int x1), (3, .int x3), (4, .int x4)]) (hM : B_M_poll_55 k26 x1 x3 x4 t0 t1 u = some res) : W p l e rm_M_poll s m args below meth c H locs 0 0 (MQ below (Qwi D cl9 (tyy cI cJ cZ) (cM cI cJ cZ bd) A res) args s 0 0 A) (F0 m 55 ls [.int t0, .int t1]) := by
  have C0 := C
  obtain ⟨hx, hb, hr, hml, hown, hts, hlocks, hK, hA⟩ := C
  replace C := C0
  unfold B_M_poll_55 at hM
  refine lv_iadd hx hb d_M_poll_55 ?_
  refine lv_istore_n (lv' := [(2, .int (t1 + t0)), (0, .ref (bd 0)), (1, .int x1), (3, .int x3), (4, .int x4)]) hx hb d_M_poll_56 rfl hl (by decide) rfl (fun ls hl => ?_)
  refine lv_iinc (v := (x4 + (1 : Int32))) (lv' := [(4, .int (x4 + (1 : Int32))), (2, .int (t1 + t0)), (0, .ref (bd 0)), (1, .int x1), (3, .int x3)]) hx hb d_M_poll_57 hl (k := 4) rfl rfl (by decide) rfl (fun ls hl => ?_)
  refine lv_goto (tgt := 26) hx hb d_M_poll_60 (by decide) ?_
  exact hk26 x1 (t1 + t0) x3 (x4 + (1 : Int32)) u H locs ls hP hD hS (lv_sub hl [2, 3, 1, 4, 0] rfl) hM
set_option maxHeartbeats 4000000 in
set_option maxRecDepth 100000 in
theorem w_M_poll_110 {k66 : Int32 → Int32 → Int32 → Int32 → Mod → Option (Int32 × Mod)} {k79 : Int32 → Int32 → Int32 → Int32 → Int32 → Int32 → Mod → Option (Int32 × Mod)} {res : (Int32 × Mod)} (C : Cx p s m args meth c prog_5_method_26_code 7 (Option.some FieldType.int) "PlainLibraryModel" tb D cl9 (tyy cI cJ cZ) A) (hk66 : ∀ (x1 : Int32) (x2 : Int32) (x3 : Int32) (x4 : Int32) (u : Mod) (H : Heap) (locs : List Loc) (ls : Array Slot), va_P D cl9 ((cM cI cJ cZ bd) u) H → va_D A ((cM cI cJ cZ bd) u) → va_S A s.heap H locs → lv_has ls 7 [(0, .ref (bd 0)), (1, .int x1), (2, .int x2), (3, .int x3), (4, .int x4)] → k66 x1 x2 x3 x4 u = some res → W p l e rm_M_poll s m args below meth c H locs 0 0 (MQ below (Qwi D cl9 (tyy cI cJ cZ) (cM cI cJ cZ bd) A res) args s 0 0 A) (F0 m 66 ls [])) (hk79 : ∀ (x1 : Int32) (x2 : Int32) (x3 : Int32) (x4 : Int32) (x5 : Int32) (x6 : Int32) (u : Mod) (H : Heap) (locs : List Loc) (ls : Array Slot), va_P D cl9 ((cM cI cJ cZ bd) u) H → va_D A ((cM cI cJ cZ bd) u) → va_S A s.heap H locs → lv_has ls 7 [(0, .ref (bd 0)), (1, .int x1), (2, .int x2), (3, .int x3), (4, .int x4), (5, .int x5), (6, .int x6)] → k79 x1 x2 x3 x4 x5 x6 u = some res → W p l e rm_M_poll s m args below meth c H locs 0 0 (MQ below (Qwi D cl9 (tyy cI cJ cZ) (cM cI cJ cZ bd) A res) args s 0 0 A) (F0 m 79 ls [])) (x1 : Int32) (x2 : Int32) (x3 : Int32) (x4 : Int32) (x6 : Int32) (t0 : Int32) (t1 : Int32) (u : Mod) (H : Heap) (locs : List Loc) (ls : Array Slot) (hP : va_P D cl9 ((cM cI cJ cZ bd) u) H) (hD : va_D A ((cM cI cJ cZ bd) u)) (hS : va_S A s.heap H locs) (hl : lv_has ls 7 [(0, .ref (bd 0)), (1, .int x1), (2, .int x2), (3, .int x3), (4, .int x4), (6, .int x6)]) (hM : B_M_poll_110 k66 k79 x1 x2 x3 x4 x6 t0 t1 u = some res) : W p l e rm_M_poll s m args below meth c H locs 0 0 (MQ below (Qwi D cl9 (tyy cI cJ cZ) (cM cI cJ cZ bd) A res) args s 0 0 A) (F0 m 110 ls [.int t0, .int t1]) := by
  have C0 := C
  obtain ⟨hx, hb, hr, hml, hown, hts, hlocks, hK, hA⟩ := C
  replace C := C0
  unfold B_M_poll_110 at hM
  refine lv_iadd hx hb d_M_poll_110 ?_
  refine lv_istore (lv' := [(5, .int (t1 + t0)), (0, .ref (bd 0)), (1, .int x1), (2, .int x2), (3, .int x3), (4, .int x4), (6, .int x6)]) hx hb d_M_poll_111 hl (by decide) rfl (fun ls hl => ?_)
  refine lv_iinc (v := (x6 + (1 : Int32))) (lv' := [(6, .int (x6 + (1 : Int32))), (5, .int (t1 + t0)), (0, .ref (bd 0)), (1, .int x1), (2, .int x2), (3, .int x3), (4, .int x4)]) hx hb d_M_poll_113 hl (k := 6) rfl rfl (by decide) rfl (fun ls hl => ?_)
  refine lv_goto (tgt := 79) hx hb d_M_poll_116 (by decide) ?_
  exact hk79 x1 x2 x3 x4 (t1 + t0) (x6 + (1 : Int32)) u H locs ls hP hD hS (lv_sub hl [2, 3, 4, 5, 6, 1, 0] rfl) hM
set_option maxHeartbeats 4000000 in
set_option maxRecDepth 100000 in
theorem w_M_poll_133 {k66 : Int32 → Int32 → Int32 → Int32 → Mod → Option (Int32 × Mod)} {res : (Int32 × Mod)} (C : Cx p s m args meth c prog_5_method_26_code 7 (Option.some FieldType.int) "PlainLibraryModel" tb D cl9 (tyy cI cJ cZ) A) (hk66 : ∀ (x1 : Int32) (x2 : Int32) (x3 : Int32) (x4 : Int32) (u : Mod) (H : Heap) (locs : List Loc) (ls : Array Slot), va_P D cl9 ((cM cI cJ cZ bd) u) H → va_D A ((cM cI cJ cZ bd) u) → va_S A s.heap H locs → lv_has ls 7 [(0, .ref (bd 0)), (1, .int x1), (2, .int x2), (3, .int x3), (4, .int x4)] → k66 x1 x2 x3 x4 u = some res → W p l e rm_M_poll s m args below meth c H locs 0 0 (MQ below (Qwi D cl9 (tyy cI cJ cZ) (cM cI cJ cZ bd) A res) args s 0 0 A) (F0 m 66 ls [])) (x1 : Int32) (x2 : Int32) (x4 : Int32) (t0 : Int32) (u : Mod) (H : Heap) (locs : List Loc) (ls : Array Slot) (hP : va_P D cl9 ((cM cI cJ cZ bd) u) H) (hD : va_D A ((cM cI cJ cZ bd) u)) (hS : va_S A s.heap H locs) (hl : lv_has ls 7 [(0, .ref (bd 0)), (1, .int x1), (2, .int x2), (4, .int x4)]) (hM : B_M_poll_133 k66 x1 x2 x4 t0 u = some res) : W p l e rm_M_poll s m args below meth c H locs 0 0 (MQ below (Qwi D cl9 (tyy cI cJ cZ) (cM cI cJ cZ bd) A res) args s 0 0 A) (F0 m 133 ls [.int t0]) := by
  have C0 := C
  obtain ⟨hx, hb, hr, hml, hown, hts, hlocks, hK, hA⟩ := C
  replace C := C0
  unfold B_M_poll_133 at hM
  refine lv_istore_n (lv' := [(3, .int t0), (0, .ref (bd 0)), (1, .int x1), (2, .int x2), (4, .int x4)]) hx hb d_M_poll_133 rfl hl (by decide) rfl (fun ls hl => ?_)
  refine lv_iinc (v := (x4 + (1 : Int32))) (lv' := [(4, .int (x4 + (1 : Int32))), (3, .int t0), (0, .ref (bd 0)), (1, .int x1), (2, .int x2)]) hx hb d_M_poll_134 hl (k := 4) rfl rfl (by decide) rfl (fun ls hl => ?_)
  refine lv_goto (tgt := 66) hx hb d_M_poll_137 (by decide) ?_
  exact hk66 x1 x2 t0 (x4 + (1 : Int32)) u H locs ls hP hD hS (lv_sub hl [2, 3, 4, 1, 0] rfl) hM
set_option maxHeartbeats 4000000 in
set_option maxRecDepth 100000 in
theorem w_M_poll_79s {k66 : Int32 → Int32 → Int32 → Int32 → Mod → Option (Int32 × Mod)} {res : (Int32 × Mod)} (C : Cx p s m args meth c prog_5_method_26_code 7 (Option.some FieldType.int) "PlainLibraryModel" tb D cl9 (tyy cI cJ cZ) A) {k79 : Int32 → Int32 → Int32 → Int32 → Int32 → Int32 → Mod → Option (Int32 × Mod)} (hk66 : ∀ (x1 : Int32) (x2 : Int32) (x3 : Int32) (x4 : Int32) (u : Mod) (H : Heap) (locs : List Loc) (ls : Array Slot), va_P D cl9 ((cM cI cJ cZ bd) u) H → va_D A ((cM cI cJ cZ bd) u) → va_S A s.heap H locs → lv_has ls 7 [(0, .ref (bd 0)), (1, .int x1), (2, .int x2), (3, .int x3), (4, .int x4)] → k66 x1 x2 x3 x4 u = some res → W p l e rm_M_poll s m args below meth c H locs 0 0 (MQ below (Qwi D cl9 (tyy cI cJ cZ) (cM cI cJ cZ bd) A res) args s 0 0 A) (F0 m 66 ls [])) (hk79 : ∀ (x1 : Int32) (x2 : Int32) (x3 : Int32) (x4 : Int32) (x5 : Int32) (x6 : Int32) (u : Mod) (H : Heap) (locs : List Loc) (ls : Array Slot), va_P D cl9 ((cM cI cJ cZ bd) u) H → va_D A ((cM cI cJ cZ bd) u) → va_S A s.heap H locs → lv_has ls 7 [(0, .ref (bd 0)), (1, .int x1), (2, .int x2), (3, .int x3), (4, .int x4), (5, .int x5), (6, .int x6)] → k79 x1 x2 x3 x4 x5 x6 u = some res → W p l e rm_M_poll s m args below meth c H locs 0 0 (MQ below (Qwi D cl9 (tyy cI cJ cZ) (cM cI cJ cZ bd) A res) args s 0 0 A) (F0 m 79 ls [])) (x1 : Int32) (x2 : Int32) (x3 : Int32) (x4 : Int32) (x5 : Int32) (x6 : Int32) (u : Mod) (H : Heap) (locs : List Loc) (ls : Array Slot) (hP : va_P D cl9 ((cM cI cJ cZ bd) u) H) (hD : va_D A ((cM cI cJ cZ bd) u)) (hS : va_S A s.heap H locs) (hl : lv_has ls 7 [(0, .ref (bd 0)), (1, .int x1), (2, .int x2), (3, .int x3), (4, .int x4), (5, .int x5), (6, .int x6)]) (hM : B_M_poll_79s k66 k79 x1 x2 x3 x4 x5 x6 u = some res) : W p l e rm_M_poll s m args below meth c H locs 0 0 (MQ below (Qwi D cl9 (tyy cI cJ cZ) (cM cI cJ cZ bd) A res) args s 0 0 A) (F0 m 79 ls []) := by
  have C0 := C
  obtain ⟨hx, hb, hr, hml, hown, hts, hlocks, hK, hA⟩ := C
  replace C := C0
  unfold B_M_poll_79s at hM
  refine lv_iload hx hb d_M_poll_79 (lv_at hl 6 rfl) ?_
  refine lv_bipush (v := (6 : Int32)) hx hb d_M_poll_81 (by decide) ?_
  refine lv_icmp_ge (tgt := 119) hx hb d_M_poll_83 (by decide) (fun c1 => ?_) (fun c1 => ?_)
  · replace hM := it_t c1 hM
    refine lv_iconst (v := (2 : Int32)) hx hb d_M_poll_119 (by decide) ?_
    refine lv_iload hx hb d_M_poll_120 (lv_at hl 5 rfl) ?_
    refine lv_imul hx hb d_M_poll_122 ?_
    refine lv_iload_n hx hb d_M_poll_123 rfl (lv_at hl 2 rfl) ?_
    refine lv_icmp_le (tgt := 132) hx hb d_M_poll_124 (by decide) (fun c2 => ?_) (fun c2 => ?_)
    · replace hM := it_t c2 hM
      refine lv_iload_n hx hb d_M_poll_132 rfl (lv_at hl 3 rfl) ?_
      exact w_M_poll_133 C hk66 x1 x2 x4 x3 u H locs ls hP hD hS (lv_sub hl [0, 1, 2, 4] rfl) hM
    · replace hM := it_f c2 hM
      refine lv_iload hx hb d_M_poll_127 (lv_at hl 4 rfl) ?_
      refine lv_goto (tgt := 133) hx hb d_M_poll_129 (by decide) ?_
      exact w_M_poll_133 C hk66 x1 x2 x4 x4 u H locs ls hP hD hS (lv_sub hl [0, 1, 2, 4] rfl) hM
  · replace hM := it_f c1 hM
    refine lv_iload hx hb d_M_poll_86 (lv_at hl 5 rfl) ?_
    refine lv_aload_n hx hb d_M_poll_88 rfl (lv_at hl 0 rfl) ?_
    refine va_get (D := D) (ci := 3) (v := .ref (bd 11)) (C := R_M) (T := T_M) (N := 21) hx hb hts in_M hown hK hP 0 rfl rfl 12 (by decide) (hts _ mm_361) (fun _ h9 => h9) rfl d_M_poll_89 ?_
    refine lv_bipush (v := (6 : Int32)) hx hb d_M_poll_92 (by decide) ?_
    refine lv_iload_n hx hb d_M_poll_94 rfl (lv_at hl 1 rfl) ?_
    refine lv_imul hx hb d_M_poll_95 ?_
    refine lv_iload hx hb d_M_poll_96 (lv_at hl 6 rfl) ?_
    refine lv_iadd hx hb d_M_poll_98 ?_
    obtain ⟨h3, hM⟩ := gd_some hM
    refine va_iald hx hb hK hP 11 0 rfl rfl (vp_in_iff.mpr h3) d_M_poll_99 ?_
    refine lv_iload hx hb d_M_poll_100 (lv_at hl 4 rfl) ?_
    refine lv_icmp_ne (tgt := 109) hx hb d_M_poll_102 (by decide) (fun c4 => ?_) (fun c4 => ?_)
    · replace hM := it_f c4 hM
      refine lv_iconst (v := (0 : Int32)) hx hb d_M_poll_109 (by decide) ?_
      exact w_M_poll_110 C hk66 hk79 x1 x2 x3 x4 x6 (0 : Int32) x5 u H locs ls hP hD hS (lv_sub hl [0, 1, 2, 3, 4, 6] rfl) hM
    · replace hM := it_t c4 hM
      refine lv_iconst (v := (1 : Int32)) hx hb d_M_poll_105 (by decide) ?_
      refine lv_goto (tgt := 110) hx hb d_M_poll_106 (by decide) ?_
      exact w_M_poll_110 C hk66 hk79 x1 x2 x3 x4 x6 (1 : Int32) x5 u H locs ls hP hD hS (lv_sub hl [0, 1, 2, 3, 4, 6] rfl) hM
theorem w_M_poll_79 {k66 : Int32 → Int32 → Int32 → Int32 → Mod → Option (Int32 × Mod)} {res : (Int32 × Mod)} (C : Cx p s m args meth c prog_5_method_26_code 7 (Option.some FieldType.int) "PlainLibraryModel" tb D cl9 (tyy cI cJ cZ) A) (hk66 : ∀ (x1 : Int32) (x2 : Int32) (x3 : Int32) (x4 : Int32) (u : Mod) (H : Heap) (locs : List Loc) (ls : Array Slot), va_P D cl9 ((cM cI cJ cZ bd) u) H → va_D A ((cM cI cJ cZ bd) u) → va_S A s.heap H locs → lv_has ls 7 [(0, .ref (bd 0)), (1, .int x1), (2, .int x2), (3, .int x3), (4, .int x4)] → k66 x1 x2 x3 x4 u = some res → W p l e rm_M_poll s m args below meth c H locs 0 0 (MQ below (Qwi D cl9 (tyy cI cJ cZ) (cM cI cJ cZ bd) A res) args s 0 0 A) (F0 m 66 ls [])) : ∀ (fu : Nat) (x1 : Int32) (x2 : Int32) (x3 : Int32) (x4 : Int32) (x5 : Int32) (x6 : Int32) (u : Mod) (H : Heap) (locs : List Loc) (ls : Array Slot), va_P D cl9 ((cM cI cJ cZ bd) u) H → va_D A ((cM cI cJ cZ bd) u) → va_S A s.heap H locs → lv_has ls 7 [(0, .ref (bd 0)), (1, .int x1), (2, .int x2), (3, .int x3), (4, .int x4), (5, .int x5), (6, .int x6)] → B_M_poll_79 k66 fu x1 x2 x3 x4 x5 x6 u = some res → W p l e rm_M_poll s m args below meth c H locs 0 0 (MQ below (Qwi D cl9 (tyy cI cJ cZ) (cM cI cJ cZ bd) A res) args s 0 0 A) (F0 m 79 ls []) := by
  intro fu
  induction fu with
  | zero =>
    intro x1 x2 x3 x4 x5 x6 u H locs ls hP hD hS hl hM
    have hM : (none : Option (Int32 × Mod)) = some res := hM
    cases hM
  | succ fu ih =>
    intro x1 x2 x3 x4 x5 x6 u H locs ls hP hD hS hl hM
    exact w_M_poll_79s C hk66 ih x1 x2 x3 x4 x5 x6 u H locs ls hP hD hS hl hM
set_option maxHeartbeats 4000000 in
set_option maxRecDepth 100000 in
theorem w_M_poll_66s {res : (Int32 × Mod)} (C : Cx p s m args meth c prog_5_method_26_code 7 (Option.some FieldType.int) "PlainLibraryModel" tb D cl9 (tyy cI cJ cZ) A) {k66 : Int32 → Int32 → Int32 → Int32 → Mod → Option (Int32 × Mod)} (hk66 : ∀ (x1 : Int32) (x2 : Int32) (x3 : Int32) (x4 : Int32) (u : Mod) (H : Heap) (locs : List Loc) (ls : Array Slot), va_P D cl9 ((cM cI cJ cZ bd) u) H → va_D A ((cM cI cJ cZ bd) u) → va_S A s.heap H locs → lv_has ls 7 [(0, .ref (bd 0)), (1, .int x1), (2, .int x2), (3, .int x3), (4, .int x4)] → k66 x1 x2 x3 x4 u = some res → W p l e rm_M_poll s m args below meth c H locs 0 0 (MQ below (Qwi D cl9 (tyy cI cJ cZ) (cM cI cJ cZ bd) A res) args s 0 0 A) (F0 m 66 ls [])) (x1 : Int32) (x2 : Int32) (x3 : Int32) (x4 : Int32) (u : Mod) (H : Heap) (locs : List Loc) (ls : Array Slot) (hP : va_P D cl9 ((cM cI cJ cZ bd) u) H) (hD : va_D A ((cM cI cJ cZ bd) u)) (hS : va_S A s.heap H locs) (hl : lv_has ls 7 [(0, .ref (bd 0)), (1, .int x1), (2, .int x2), (3, .int x3), (4, .int x4)]) (hM : B_M_poll_66s k66 x1 x2 x3 x4 u = some res) : W p l e rm_M_poll s m args below meth c H locs 0 0 (MQ below (Qwi D cl9 (tyy cI cJ cZ) (cM cI cJ cZ bd) A res) args s 0 0 A) (F0 m 66 ls []) := by
  have C0 := C
  obtain ⟨hx, hb, hr, hml, hown, hts, hlocks, hK, hA⟩ := C
  replace C := C0
  unfold B_M_poll_66s at hM
  refine lv_iload hx hb d_M_poll_66 (lv_at hl 4 rfl) ?_
  refine lv_bipush (v := (7 : Int32)) hx hb d_M_poll_68 (by decide) ?_
  refine lv_icmp_ge (tgt := 140) hx hb d_M_poll_70 (by decide) (fun c1 => ?_) (fun c1 => ?_)
  · replace hM := it_t c1 hM
    refine lv_iload_n hx hb d_M_poll_140 rfl (lv_at hl 2 rfl) ?_
    refine lv_if_ne (tgt := 148) hx hb d_M_poll_141 (by decide) (fun c2 => ?_) (fun c2 => ?_)
    · replace hM := it_f c2 hM
      refine lv_iload_n hx hb d_M_poll_148 rfl (lv_at hl 3 rfl) ?_
      obtain rfl := Option.some.inj hM
      exact W.iret (v := x3) hx hb hr (fun t ht hW => ⟨⟨x3, u, rfl, rfl, by rw [ht]; exact hP, va_K.moved hW.alike hK, hD⟩, hS.F ht⟩) hS.2.2 d_M_poll_149
    · replace hM := it_t c2 hM
      refine lv_iconst (v := (-1 : Int32)) hx hb d_M_poll_144 (by decide) ?_
      refine lv_goto (tgt := 149) hx hb d_M_poll_145 (by decide) ?_
      obtain rfl := Option.some.inj hM
      exact W.iret (v := (-1 : Int32)) hx hb hr (fun t ht hW => ⟨⟨(-1 : Int32), u, rfl, rfl, by rw [ht]; exact hP, va_K.moved hW.alike hK, hD⟩, hS.F ht⟩) hS.2.2 d_M_poll_149
  · replace hM := it_f c1 hM
    refine lv_iconst (v := (0 : Int32)) hx hb d_M_poll_73 (by decide) ?_
    refine lv_istore (lv' := [(5, .int (0 : Int32)), (0, .ref (bd 0)), (1, .int x1), (2, .int x2), (3, .int x3), (4, .int x4)]) hx hb d_M_poll_74 hl (by decide) rfl (fun ls hl => ?_)
    refine lv_iconst (v := (1 : Int32)) hx hb d_M_poll_76 (by decide) ?_
    refine lv_istore (lv' := [(6, .int (1 : Int32)), (5, .int (0 : Int32)), (0, .ref (bd 0)), (1, .int x1), (2, .int x2), (3, .int x3), (4, .int x4)]) hx hb d_M_poll_77 hl (by decide) rfl (fun ls hl => ?_)
    exact w_M_poll_79 C hk66 FU x1 x2 x3 x4 (0 : Int32) (1 : Int32) u H locs ls hP hD hS (lv_sub hl [2, 3, 4, 5, 6, 1, 0] rfl) hM
theorem w_M_poll_66 {res : (Int32 × Mod)} (C : Cx p s m args meth c prog_5_method_26_code 7 (Option.some FieldType.int) "PlainLibraryModel" tb D cl9 (tyy cI cJ cZ) A) : ∀ (fu : Nat) (x1 : Int32) (x2 : Int32) (x3 : Int32) (x4 : Int32) (u : Mod) (H : Heap) (locs : List Loc) (ls : Array Slot), va_P D cl9 ((cM cI cJ cZ bd) u) H → va_D A ((cM cI cJ cZ bd) u) → va_S A s.heap H locs → lv_has ls 7 [(0, .ref (bd 0)), (1, .int x1), (2, .int x2), (3, .int x3), (4, .int x4)] → B_M_poll_66 fu x1 x2 x3 x4 u = some res → W p l e rm_M_poll s m args below meth c H locs 0 0 (MQ below (Qwi D cl9 (tyy cI cJ cZ) (cM cI cJ cZ bd) A res) args s 0 0 A) (F0 m 66 ls []) := by
  intro fu
  induction fu with
  | zero =>
    intro x1 x2 x3 x4 u H locs ls hP hD hS hl hM
    have hM : (none : Option (Int32 × Mod)) = some res := hM
    cases hM
  | succ fu ih =>
    intro x1 x2 x3 x4 u H locs ls hP hD hS hl hM
    exact w_M_poll_66s C ih x1 x2 x3 x4 u H locs ls hP hD hS hl hM
set_option maxHeartbeats 4000000 in
set_option maxRecDepth 100000 in
theorem w_M_poll_26s {res : (Int32 × Mod)} (C : Cx p s m args meth c prog_5_method_26_code 7 (Option.some FieldType.int) "PlainLibraryModel" tb D cl9 (tyy cI cJ cZ) A) {k26 : Int32 → Int32 → Int32 → Int32 → Mod → Option (Int32 × Mod)} (hk26 : ∀ (x1 : Int32) (x2 : Int32) (x3 : Int32) (x4 : Int32) (u : Mod) (H : Heap) (locs : List Loc) (ls : Array Slot), va_P D cl9 ((cM cI cJ cZ bd) u) H → va_D A ((cM cI cJ cZ bd) u) → va_S A s.heap H locs → lv_has ls 7 [(0, .ref (bd 0)), (1, .int x1), (2, .int x2), (3, .int x3), (4, .int x4)] → k26 x1 x2 x3 x4 u = some res → W p l e rm_M_poll s m args below meth c H locs 0 0 (MQ below (Qwi D cl9 (tyy cI cJ cZ) (cM cI cJ cZ bd) A res) args s 0 0 A) (F0 m 26 ls [])) (x1 : Int32) (x2 : Int32) (x3 : Int32) (x4 : Int32) (u : Mod) (H : Heap) (locs : List Loc) (ls : Array Slot) (hP : va_P D cl9 ((cM cI cJ cZ bd) u) H) (hD : va_D A ((cM cI cJ cZ bd) u)) (hS : va_S A s.heap H locs) (hl : lv_has ls 7 [(0, .ref (bd 0)), (1, .int x1), (2, .int x2), (3, .int x3), (4, .int x4)]) (hM : B_M_poll_26s k26 x1 x2 x3 x4 u = some res) : W p l e rm_M_poll s m args below meth c H locs 0 0 (MQ below (Qwi D cl9 (tyy cI cJ cZ) (cM cI cJ cZ bd) A res) args s 0 0 A) (F0 m 26 ls []) := by
  have C0 := C
  obtain ⟨hx, hb, hr, hml, hown, hts, hlocks, hK, hA⟩ := C
  replace C := C0
  unfold B_M_poll_26s at hM
  refine lv_iload hx hb d_M_poll_26 (lv_at hl 4 rfl) ?_
  refine lv_bipush (v := (6 : Int32)) hx hb d_M_poll_28 (by decide) ?_
  refine lv_icmp_ge (tgt := 63) hx hb d_M_poll_30 (by decide) (fun c1 => ?_) (fun c1 => ?_)
  · replace hM := it_t c1 hM
    refine lv_iconst (v := (0 : Int32)) hx hb d_M_poll_63 (by decide) ?_
    refine lv_istore (lv' := [(4, .int (0 : Int32)), (0, .ref (bd 0)), (1, .int x1), (2, .int x2), (3, .int x3)]) hx hb d_M_poll_64 hl (by decide) rfl (fun ls hl => ?_)
    exact w_M_poll_66 C FU x1 x2 x3 (0 : Int32) u H locs ls hP hD hS (lv_sub hl [1, 2, 3, 4, 0] rfl) hM
  · replace hM := it_f c1 hM
    refine lv_iload_n hx hb d_M_poll_33 rfl (lv_at hl 2 rfl) ?_
    refine lv_aload_n hx hb d_M_poll_34 rfl (lv_at hl 0 rfl) ?_
    refine va_get (D := D) (ci := 3) (v := .ref (bd 11)) (C := R_M) (T := T_M) (N := 21) hx hb hts in_M hown hK hP 0 rfl rfl 12 (by decide) (hts _ mm_361) (fun _ h9 => h9) rfl d_M_poll_35 ?_
    refine lv_bipush (v := (6 : Int32)) hx hb d_M_poll_38 (by decide) ?_
    refine lv_iload_n hx hb d_M_poll_40 rfl (lv_at hl 1 rfl) ?_
    refine lv_imul hx hb d_M_poll_41 ?_
    refine lv_iload hx hb d_M_poll_42 (lv_at hl 4 rfl) ?_
    refine lv_iadd hx hb d_M_poll_44 ?_
    obtain ⟨h2, hM⟩ := gd_some hM
    refine va_iald hx hb hK hP 11 0 rfl rfl (vp_in_iff.mpr h2) d_M_poll_45 ?_
    refine lv_iconst (v := (-1 : Int32)) hx hb d_M_poll_46 (by decide) ?_
    refine lv_icmp_ne (tgt := 54) hx hb d_M_poll_47 (by decide) (fun c3 => ?_) (fun c3 => ?_)
    · replace hM := it_f c3 hM
      refine lv_iconst (v := (1 : Int32)) hx hb d_M_poll_54 (by decide) ?_
      exact w_M_poll_55 C hk26 x1 x3 x4 (1 : Int32) x2 u H locs ls hP hD hS (lv_sub hl [0, 1, 3, 4] rfl) hM
    · replace hM := it_t c3 hM
      refine lv_iconst (v := (0 : Int32)) hx hb d_M_poll_50 (by decide) ?_
      refine lv_goto (tgt := 55) hx hb d_M_poll_51 (by decide) ?_
      exact w_M_poll_55 C hk26 x1 x3 x4 (0 : Int32) x2 u H locs ls hP hD hS (lv_sub hl [0, 1, 3, 4] rfl) hM
theorem w_M_poll_26 {res : (Int32 × Mod)} (C : Cx p s m args meth c prog_5_method_26_code 7 (Option.some FieldType.int) "PlainLibraryModel" tb D cl9 (tyy cI cJ cZ) A) : ∀ (fu : Nat) (x1 : Int32) (x2 : Int32) (x3 : Int32) (x4 : Int32) (u : Mod) (H : Heap) (locs : List Loc) (ls : Array Slot), va_P D cl9 ((cM cI cJ cZ bd) u) H → va_D A ((cM cI cJ cZ bd) u) → va_S A s.heap H locs → lv_has ls 7 [(0, .ref (bd 0)), (1, .int x1), (2, .int x2), (3, .int x3), (4, .int x4)] → B_M_poll_26 fu x1 x2 x3 x4 u = some res → W p l e rm_M_poll s m args below meth c H locs 0 0 (MQ below (Qwi D cl9 (tyy cI cJ cZ) (cM cI cJ cZ bd) A res) args s 0 0 A) (F0 m 26 ls []) := by
  intro fu
  induction fu with
  | zero =>
    intro x1 x2 x3 x4 u H locs ls hP hD hS hl hM
    have hM : (none : Option (Int32 × Mod)) = some res := hM
    cases hM
  | succ fu ih =>
    intro x1 x2 x3 x4 u H locs ls hP hD hS hl hM
    exact w_M_poll_26s C ih x1 x2 x3 x4 u H locs ls hP hD hS hl hM
set_option maxHeartbeats 4000000 in
set_option maxRecDepth 100000 in
theorem w_M_poll_0 {res : (Int32 × Mod)} (C : Cx p s m args meth c prog_5_method_26_code 7 (Option.some FieldType.int) "PlainLibraryModel" tb D cl9 (tyy cI cJ cZ) A) (x1 : Int32) (u : Mod) (H : Heap) (locs : List Loc) (ls : Array Slot) (hP : va_P D cl9 ((cM cI cJ cZ bd) u) H) (hD : va_D A ((cM cI cJ cZ bd) u)) (hS : va_S A s.heap H locs) (hl : lv_has ls 7 [(0, .ref (bd 0)), (1, .int x1)]) (hM : B_M_poll_0 x1 u = some res) : W p l e rm_M_poll s m args below meth c H locs 0 0 (MQ below (Qwi D cl9 (tyy cI cJ cZ) (cM cI cJ cZ bd) A res) args s 0 0 A) (F0 m 0 ls []) := by
  have C0 := C
  obtain ⟨hx, hb, hr, hml, hown, hts, hlocks, hK, hA⟩ := C
  replace C := C0
  unfold B_M_poll_0 at hM
  refine lv_aload_n hx hb d_M_poll_0 rfl (lv_at hl 0 rfl) ?_
  refine lv_iconst (v := (0 : Int32)) hx hb d_M_poll_1 (by decide) ?_
  refine va_put (D := D) (ci := 3) (v := .int (0 : Int32)) (ty := .int) (C := R_M) (T := T_M) (N := 21) hx hb hts in_M ty_M tk_M nm_M hown hK hP hD hS 0 rfl rfl 0 (by decide) (hts _ mm_349) (fun _ h9 => h9) rfl (by decide +kernel) rfl rfl (Nat.le_of_ble_eq_true rfl) d_M_poll_2 (fun H locs hP hD hS => ?_)
  have hP : va_P D cl9 ((cM cI cJ cZ bd) (m_th_w u (0 : Int32))) H := reP (zcM_th cI cJ cZ bd u (0 : Int32)) hP
  have hD : va_D A ((cM cI cJ cZ bd) (m_th_w u (0 : Int32))) := reD (zcM_th cI cJ cZ bd u (0 : Int32)) hD
  refine lv_iload_n hx hb d_M_poll_5 rfl (lv_at hl 1 rfl) ?_
  obtain ⟨v1, hq1, hM⟩ := bd_some hM
  refine fr_i (res := v1) (va_runS (As := [.int x1]) (rest := []) ⟨hx, hb, hml, hown, hts⟩ (c_M_isNumber l D cI cJ cZ H.size x1 v1 hq1) (va_cwS 1 hts (gS mm_487 mm_488 mm_30 mm_489) rfl rfl rfl hs_M_isNumber ⟨Nat.le_of_ble_eq_true rfl, Nat.le_of_ble_eq_true rfl⟩) (ps_ (F := nW) (u := ()) hK nP (nD (A := fun _ => True))) rfl rfl hl.1 rfl (lv_room (Nat.le_of_ble_eq_true rfl)) d_M_poll_6 ⟨Nat.le_of_ble_eq_true rfl, Nat.le_of_ble_eq_true rfl⟩) hP hS hA (fun H locs hP hS => ?_)
  refine lv_if_ne (tgt := 14) hx hb d_M_poll_9 (by decide) (fun c2 => ?_) (fun c2 => ?_)
  · replace hM := it_f c2 hM
    refine lv_aload_n hx hb d_M_poll_14 rfl (lv_at hl 0 rfl) ?_
    obtain ⟨v3, hq3, hM⟩ := bd_some hM
    refine fw_v (F := (cM cI cJ cZ bd)) (u := (m_th_w u (0 : Int32))) (res := v3) (va_runV (As := []) (rest := []) ⟨hx, hb, hml, hown, hts⟩ (c_M_all l D cI cJ cZ bd H.size (m_th_w u (0 : Int32)) v3 hq3) (cwV 0 hts (gV mm_434 mm_436 (ms_ 16 rfl rfl) mm_30 mm_437) rfl rfl rfl hd_M_all ⟨Nat.le_of_ble_eq_true rfl, Nat.le_of_ble_eq_true rfl⟩) (pv_ (F := (cM cI cJ cZ bd)) (u := (m_th_w u (0 : Int32))) hK hP hD (va_recv hK hP (ci := 3) (q0 := 0) rfl rfl)) rfl rfl hl.1 rfl (lv_room (Nat.le_of_ble_eq_true rfl)) d_M_poll_15 ⟨Nat.le_of_ble_eq_true rfl, Nat.le_of_ble_eq_true rfl⟩) hS (fa_ hD hS hA) (fun H locs hP hD hS => ?_)
    refine lv_iconst (v := (0 : Int32)) hx hb d_M_poll_18 (by decide) ?_
    refine lv_istore_n (lv' := [(2, .int (0 : Int32)), (0, .ref (bd 0)), (1, .int x1)]) hx hb d_M_poll_19 rfl hl (by decide) rfl (fun ls hl => ?_)
    refine lv_bipush (v := (7 : Int32)) hx hb d_M_poll_20 (by decide) ?_
    refine lv_istore_n (lv' := [(3, .int (7 : Int32)), (2, .int (0 : Int32)), (0, .ref (bd 0)), (1, .int x1)]) hx hb d_M_poll_22 rfl hl (by decide) rfl (fun ls hl => ?_)
    refine lv_iconst (v := (1 : Int32)) hx hb d_M_poll_23 (by decide) ?_
    refine lv_istore (lv' := [(4, .int (1 : Int32)), (3, .int (7 : Int32)), (2, .int (0 : Int32)), (0, .ref (bd 0)), (1, .int x1)]) hx hb d_M_poll_24 hl (by decide) rfl (fun ls hl => ?_)
    exact w_M_poll_26 C FU x1 (0 : Int32) (7 : Int32) (1 : Int32) v3 H locs ls hP hD hS (lv_sub hl [3, 4, 2, 1, 0] rfl) hM
  · replace hM := it_t c2 hM
    refine lv_iconst (v := (-1 : Int32)) hx hb d_M_poll_12 (by decide) ?_
    obtain rfl := Option.some.inj hM
    exact W.iret (v := (-1 : Int32)) hx hb hr (fun t ht hW => ⟨⟨(-1 : Int32), (m_th_w u (0 : Int32)), rfl, rfl, by rw [ht]; exact hP, va_K.moved hW.alike hK, hD⟩, hS.F ht⟩) hS.2.2 d_M_poll_13
end
set_option maxRecDepth 100000 in
theorem c_M_poll (l : Launch) (D : va_G) (cI cJ cZ : ClassId) (bd : Nat → Nat) (sz : Nat) (x1 : Int32) (u : Mod) (res : (Int32 × Mod)) (hM : B_M_poll_0 x1 u = some res) : Met l y_M_poll ws_M_poll rm_M_poll (va_Pc [.ref (bd 0), .int x1] (pr_ D cl9 (tyy cI cJ cZ) (cM cI cJ cZ bd) u sz)) (Qwi D cl9 (tyy cI cJ cZ) (cM cI cJ cZ bd) (va_A ((cM cI cJ cZ bd) u) sz) res) 0 0 (va_A ((cM cI cJ cZ bd) u) sz) := by
  refine Met.ofW (cc := prog_5_method_26_code) (maxL := 7) (ret := (Option.some FieldType.int)) (by decide) rfl ?_
  intro p e s m args below meth c s₁ B hml hv
  obtain ⟨rfl, hsz, hP, hK, hD0⟩ := hv
  subst hsz
  have hts0 := atoms_spec (ws := ws_M_poll) B.pre
  have hl := lv_entry ([.ref (bd 0), .int x1]) (n := 7) (Nat.le_of_ble_eq_true rfl)
  rw [lg_entry_eq]
  generalize (lg_sl ([.ref (bd 0), .int x1]) ++ List.replicate (7 - (lg_sl ([.ref (bd 0), .int x1])).length) Slot.unset).toArray = ls at hl ⊢
  exact w_M_poll_0 ⟨B.exec, B.bytes, B.returns, hml, findClass_of_methodNamed B.named, fun w h => hts0 w (List.mem_cons_of_mem _ h), B.notSynchronized, hK, fun q h => Or.inr h⟩ x1 u s.heap [] ls hP hD0.self va_S.rf hl hM
section
variable {p : Program} {l : Launch} {e : Env} {s : State} {m : MethodId} {args : Array Value} {below : List Frame} {meth : Method} {c : Code} {D : va_G} {cI cJ cZ : ClassId} {A : Nat → Prop} {bd : Nat → Nat}
set_option maxHeartbeats 4000000 in
set_option maxRecDepth 100000 in
theorem w_M_kept_90 {k15 : Int32 → Int32 → Int64 → Int32 → Int32 → Int32 → Mod → Option (Int32 × Mod)} {res : (Int32 × Mod)} (C : Cx p s m args meth c prog_5_method_27_code 8 (Option.some FieldType.int) "PlainLibraryModel" tb D cl9 (tyy cI cJ cZ) A) (hk15 : ∀ (x1 : Int32) (x2 : Int32) (y3 : Int64) (x5 : Int32) (x6 : Int32) (x7 : Int32) (u : Mod) (H : Heap) (locs : List Loc) (ls : Array Slot), va_P D cl9 ((cM cI cJ cZ bd) u) H → va_D A ((cM cI cJ cZ bd) u) → va_S A s.heap H locs → lv_has ls 8 [(0, .ref (bd 0)), (1, .int x1), (2, .int x2), (3, .long y3), (5, .int x5), (6, .int x6), (7, .int x7)] → k15 x1 x2 y3 x5 x6 x7 u = some res → W p l e rm_M_kept s m args below meth c H locs 0 0 (MQ below (Qwi D cl9 (tyy cI cJ cZ) (cM cI cJ cZ bd) A res) args s 0 0 A) (F0 m 15 ls [])) (x1 : Int32) (x2 : Int32) (y3 : Int64) (x5 : Int32) (x6 : Int32) (x7 : Int32) (u : Mod) (H : Heap) (locs : List Loc) (ls : Array Slot) (hP : va_P D cl9 ((cM cI cJ cZ bd) u) H) (hD : va_D A ((cM cI cJ cZ bd) u)) (hS : va_S A s.heap H locs) (hl : lv_has ls 8 [(0, .ref (bd 0)), (1, .int x1), (2, .int x2), (3, .long y3), (5, .int x5), (6, .int x6), (7, .int x7)]) (hM : B_M_kept_90 k15 x1 x2 y3 x5 x6 x7 u = some res) : W p l e rm_M_kept s m args below meth c H locs 0 0 (MQ below (Qwi D cl9 (tyy cI cJ cZ) (cM cI cJ cZ bd) A res) args s 0 0 A) (F0 m 90 ls []) := by
  have C0 := C
  obtain ⟨hx, hb, hr, hml, hown, hts, hlocks, hK, hA⟩ := C
  replace C := C0
  unfold B_M_kept_90 at hM
  refine lv_iinc (v := (x7 + (1 : Int32))) (lv' := [(7, .int (x7 + (1 : Int32))), (0, .ref (bd 0)), (1, .int x1), (2, .int x2), (3, .long y3), (5, .int x5), (6, .int x6)]) hx hb d_M_kept_90 hl (k := 6) rfl rfl (by decide) rfl (fun ls hl => ?_)
  refine lv_goto (tgt := 15) hx hb d_M_kept_93 (by decide) ?_
  exact hk15 x1 x2 y3 x5 x6 (x7 + (1 : Int32)) u H locs ls hP hD hS (lv_sub hl [1, 2, 3, 4, 5, 6, 0] rfl) hM
set_option maxHeartbeats 4000000 in
set_option maxRecDepth 100000 in
theorem w_M_kept_15s {res : (Int32 × Mod)} (C : Cx p s m args meth c prog_5_method_27_code 8 (Option.some FieldType.int) "PlainLibraryModel" tb D cl9 (tyy cI cJ cZ) A) {k15 : Int32 → Int32 → Int64 → Int32 → Int32 → Int32 → Mod → Option (Int32 × Mod)} (hk15 : ∀ (x1 : Int32) (x2 : Int32) (y3 : Int64) (x5 : Int32) (x6 : Int32) (x7 : Int32) (u : Mod) (H : Heap) (locs : List Loc) (ls : Array Slot), va_P D cl9 ((cM cI cJ cZ bd) u) H → va_D A ((cM cI cJ cZ bd) u) → va_S A s.heap H locs → lv_has ls 8 [(0, .ref (bd 0)), (1, .int x1), (2, .int x2), (3, .long y3), (5, .int x5), (6, .int x6), (7, .int x7)] → k15 x1 x2 y3 x5 x6 x7 u = some res → W p l e rm_M_kept s m args below meth c H locs 0 0 (MQ below (Qwi D cl9 (tyy cI cJ cZ) (cM cI cJ cZ bd) A res) args s 0 0 A) (F0 m 15 ls [])) (x1 : Int32) (x2 : Int32) (y3 : Int64) (x5 : Int32) (x6 : Int32) (x7 : Int32) (u : Mod) (H : Heap) (locs : List Loc) (ls : Array Slot) (hP : va_P D cl9 ((cM cI cJ cZ bd) u) H) (hD : va_D A ((cM cI cJ cZ bd) u)) (hS : va_S A s.heap H locs) (hl : lv_has ls 8 [(0, .ref (bd 0)), (1, .int x1), (2, .int x2), (3, .long y3), (5, .int x5), (6, .int x6), (7, .int x7)]) (hM : B_M_kept_15s k15 x1 x2 y3 x5 x6 x7 u = some res) : W p l e rm_M_kept s m args below meth c H locs 0 0 (MQ below (Qwi D cl9 (tyy cI cJ cZ) (cM cI cJ cZ bd) A res) args s 0 0 A) (F0 m 15 ls []) := by
  have C0 := C
  obtain ⟨hx, hb, hr, hml, hown, hts, hlocks, hK, hA⟩ := C
  replace C := C0
  unfold B_M_kept_15s at hM
  refine lv_iload hx hb d_M_kept_15 (lv_at hl 6 rfl) ?_
  refine lv_aload_n hx hb d_M_kept_17 rfl (lv_at hl 0 rfl) ?_
  refine va_get (D := D) (ci := 3) (v := .int (m_ct u)) (C := R_M) (T := T_M) (N := 21) hx hb hts in_M hown hK hP 0 rfl rfl 5 (by decide) (hts _ mm_354) (fun _ h9 => h9) rfl d_M_kept_18 ?_
  refine lv_icmp_ge (tgt := 96) hx hb d_M_kept_21 (by decide) (fun c1 => ?_) (fun c1 => ?_)
  · replace hM := it_t c1 hM
    refine lv_iconst (v := (-1 : Int32)) hx hb d_M_kept_96 (by decide) ?_
    obtain rfl := Option.some.inj hM
    exact W.iret (v := (-1 : Int32)) hx hb hr (fun t ht hW => ⟨⟨(-1 : Int32), u, rfl, rfl, by rw [ht]; exact hP, va_K.moved hW.alike hK, hD⟩, hS.F ht⟩) hS.2.2 d_M_kept_97
  · replace hM := it_f c1 hM
    refine lv_iload_n hx hb d_M_kept_24 rfl (lv_at hl 1 rfl) ?_
    obtain ⟨v2, hq2, hM⟩ := bd_some hM
    refine fr_i (res := v2) (va_runS (As := [.int x1]) (rest := []) ⟨hx, hb, hml, hown, hts⟩ (c_M_isNumber l D cI cJ cZ H.size x1 v2 hq2) (va_cwS 1 hts (gS mm_487 mm_488 mm_30 mm_489) rfl rfl rfl hs_M_isNumber ⟨Nat.le_of_ble_eq_true rfl, Nat.le_of_ble_eq_true rfl⟩) (ps_ (F := nW) (u := ()) hK nP (nD (A := fun _ => True))) rfl rfl hl.1 rfl (lv_room (Nat.le_of_ble_eq_true rfl)) d_M_kept_25 ⟨Nat.le_of_ble_eq_true rfl, Nat.le_of_ble_eq_true rfl⟩) hP hS hA (fun H locs hP hS => ?_)
    refine lv_if_eq (tgt := 96) hx hb d_M_kept_28 (by decide) (fun c3 => ?_) (fun c3 => ?_)
    · replace hM := it_t c3 hM
      refine lv_iconst (v := (-1 : Int32)) hx hb d_M_kept_96 (by decide) ?_
      obtain rfl := Option.some.inj hM
      exact W.iret (v := (-1 : Int32)) hx hb hr (fun t ht hW => ⟨⟨(-1 : Int32), u, rfl, rfl, by rw [ht]; exact hP, va_K.moved hW.alike hK, hD⟩, hS.F ht⟩) hS.2.2 d_M_kept_97
    · replace hM := it_f c3 hM
      refine lv_iload_n hx hb d_M_kept_31 rfl (lv_at hl 2 rfl) ?_
      refine lv_if_lt (tgt := 96) hx hb d_M_kept_32 (by decide) (fun c4 => ?_) (fun c4 => ?_)
      · replace hM := it_t c4 hM
        refine lv_iconst (v := (-1 : Int32)) hx hb d_M_kept_96 (by decide) ?_
        obtain rfl := Option.some.inj hM
        exact W.iret (v := (-1 : Int32)) hx hb hr (fun t ht hW => ⟨⟨(-1 : Int32), u, rfl, rfl, by rw [ht]; exact hP, va_K.moved hW.alike hK, hD⟩, hS.F ht⟩) hS.2.2 d_M_kept_97
      · replace hM := it_f c4 hM
        refine lv_aload_n hx hb d_M_kept_35 rfl (lv_at hl 0 rfl) ?_
        refine va_get (D := D) (ci := 3) (v := .ref (bd 1)) (C := R_M) (T := T_M) (N := 21) hx hb hts in_M hown hK hP 0 rfl rfl 1 (by decide) (hts _ mm_350) (fun _ h9 => h9) rfl d_M_kept_36 ?_
        refine lv_iload hx hb d_M_kept_39 (lv_at hl 6 rfl) ?_
        obtain ⟨h5, hM⟩ := gd_some hM
        refine va_iald hx hb hK hP 1 0 rfl rfl (vp_in_iff.mpr h5) d_M_kept_41 ?_
        refine lv_iconst (v := (4 : Int32)) hx hb d_M_kept_42 (by decide) ?_
        refine lv_icmp_ne (tgt := 90) hx hb d_M_kept_43 (by decide) (fun c6 => ?_) (fun c6 => ?_)
        · replace hM := it_f c6 hM
          exact w_M_kept_90 C hk15 x1 x2 y3 x5 x6 x7 u H locs ls hP hD hS (lv_sub hl [0, 1, 2, 3, 4, 5, 6] rfl) hM
        · replace hM := it_t c6 hM
          refine lv_aload_n hx hb d_M_kept_46 rfl (lv_at hl 0 rfl) ?_
          refine va_get (D := D) (ci := 3) (v := .ref (bd 15)) (C := R_M) (T := T_M) (N := 21) hx hb hts in_M hown hK hP 0 rfl rfl 16 (by decide) (hts _ mm_365) (fun _ h9 => h9) rfl d_M_kept_47 ?_
          refine lv_iload hx hb d_M_kept_50 (lv_at hl 6 rfl) ?_
          obtain ⟨h7, hM⟩ := gd_some hM
          refine va_iald hx hb hK hP 15 0 rfl rfl (vp_in_iff.mpr h7) d_M_kept_52 ?_
          refine lv_iload_n hx hb d_M_kept_53 rfl (lv_at hl 1 rfl) ?_
          refine lv_icmp_ne (tgt := 90) hx hb d_M_kept_54 (by decide) (fun c8 => ?_) (fun c8 => ?_)
          · replace hM := it_f c8 hM
            exact w_M_kept_90 C hk15 x1 x2 y3 x5 x6 x7 u H locs ls hP hD hS (lv_sub hl [0, 1, 2, 3, 4, 5, 6] rfl) hM
          · replace hM := it_t c8 hM
            refine lv_aload_n hx hb d_M_kept_57 rfl (lv_at hl 0 rfl) ?_
            refine va_get (D := D) (ci := 3) (v := .ref (bd 4)) (C := R_M) (T := T_M) (N := 21) hx hb hts in_M hown hK hP 0 rfl rfl 4 (by decide) (hts _ mm_353) (fun _ h9 => h9) rfl d_M_kept_58 ?_
            refine lv_iload hx hb d_M_kept_61 (lv_at hl 6 rfl) ?_
            obtain ⟨h9, hM⟩ := gd_some hM
            refine va_lald hx hb hK hP 4 1 rfl rfl (vp_in_iff.mpr h9) d_M_kept_63 ?_
            refine lv_iload hx hb d_M_kept_64 (lv_at hl 4 rfl) ?_
            refine lv_i2l (v := x5.toInt64) hx hb d_M_kept_66 rfl ?_
            refine lv_ladd hx hb d_M_kept_67 ?_
            refine lv_lload_n hx hb d_M_kept_68 rfl (lv_at hl 3 rfl) ?_
            refine W.lcmp hx hb d_M_kept_69 ?_
            refine lv_if_lt (tgt := 90) hx hb d_M_kept_70 (by decide) (fun c10 => ?_) (fun c10 => ?_)
            · replace hM := it_t c10 hM
              exact w_M_kept_90 C hk15 x1 x2 y3 x5 x6 x7 u H locs ls hP hD hS (lv_sub hl [0, 1, 2, 3, 4, 5, 6] rfl) hM
            · replace hM := it_f c10 hM
              refine lv_iload hx hb d_M_kept_73 (lv_at hl 5 rfl) ?_
              refine lv_iload_n hx hb d_M_kept_75 rfl (lv_at hl 2 rfl) ?_
              refine lv_icmp_ne (tgt := 87) hx hb d_M_kept_76 (by decide) (fun c11 => ?_) (fun c11 => ?_)
              · replace hM := it_f c11 hM
                refine lv_iinc (v := (x6 + (1 : Int32))) (lv' := [(6, .int (x6 + (1 : Int32))), (0, .ref (bd 0)), (1, .int x1), (2, .int x2), (3, .long y3), (5, .int x5), (7, .int x7)]) hx hb d_M_kept_87 hl (k := 5) rfl rfl (by decide) rfl (fun ls hl => ?_)
                exact w_M_kept_90 C hk15 x1 x2 y3 x5 (x6 + (1 : Int32)) x7 u H locs ls hP hD hS (lv_sub hl [1, 2, 3, 4, 5, 0, 6] rfl) hM
              · replace hM := it_t c11 hM
                refine lv_aload_n hx hb d_M_kept_79 rfl (lv_at hl 0 rfl) ?_
                refine va_get (D := D) (ci := 3) (v := .ref (bd 2)) (C := R_M) (T := T_M) (N := 21) hx hb hts in_M hown hK hP 0 rfl rfl 2 (by decide) (hts _ mm_351) (fun _ h9 => h9) rfl d_M_kept_80 ?_
                refine lv_iload hx hb d_M_kept_83 (lv_at hl 6 rfl) ?_
                obtain ⟨h12, hM⟩ := gd_some hM
                refine va_iald hx hb hK hP 2 0 rfl rfl (vp_in_iff.mpr h12) d_M_kept_85 ?_
                obtain rfl := Option.some.inj hM
                exact W.iret (v := ((m_as u) x7.toNatClampNeg)) hx hb hr (fun t ht hW => ⟨⟨((m_as u) x7.toNatClampNeg), u, rfl, rfl, by rw [ht]; exact hP, va_K.moved hW.alike hK, hD⟩, hS.F ht⟩) hS.2.2 d_M_kept_86
theorem w_M_kept_15 {res : (Int32 × Mod)} (C : Cx p s m args meth c prog_5_method_27_code 8 (Option.some FieldType.int) "PlainLibraryModel" tb D cl9 (tyy cI cJ cZ) A) : ∀ (fu : Nat) (x1 : Int32) (x2 : Int32) (y3 : Int64) (x5 : Int32) (x6 : Int32) (x7 : Int32) (u : Mod) (H : Heap) (locs : List Loc) (ls : Array Slot), va_P D cl9 ((cM cI cJ cZ bd) u) H → va_D A ((cM cI cJ cZ bd) u) → va_S A s.heap H locs → lv_has ls 8 [(0, .ref (bd 0)), (1, .int x1), (2, .int x2), (3, .long y3), (5, .int x5), (6, .int x6), (7, .int x7)] → B_M_kept_15 fu x1 x2 y3 x5 x6 x7 u = some res → W p l e rm_M_kept s m args below meth c H locs 0 0 (MQ below (Qwi D cl9 (tyy cI cJ cZ) (cM cI cJ cZ bd) A res) args s 0 0 A) (F0 m 15 ls []) := by
  intro fu
  induction fu with
  | zero =>
    intro x1 x2 y3 x5 x6 x7 u H locs ls hP hD hS hl hM
    have hM : (none : Option (Int32 × Mod)) = some res := hM
    cases hM
  | succ fu ih =>
    intro x1 x2 y3 x5 x6 x7 u H locs ls hP hD hS hl hM
    exact w_M_kept_15s C ih x1 x2 y3 x5 x6 x7 u H locs ls hP hD hS hl hM
set_option maxHeartbeats 4000000 in
set_option maxRecDepth 100000 in
theorem w_M_kept_0 {res : (Int32 × Mod)} (C : Cx p s m args meth c prog_5_method_27_code 8 (Option.some FieldType.int) "PlainLibraryModel" tb D cl9 (tyy cI cJ cZ) A) (x1 : Int32) (x2 : Int32) (y3 : Int64) (x5 : Int32) (u : Mod) (H : Heap) (locs : List Loc) (ls : Array Slot) (hP : va_P D cl9 ((cM cI cJ cZ bd) u) H) (hD : va_D A ((cM cI cJ cZ bd) u)) (hS : va_S A s.heap H locs) (hl : lv_has ls 8 [(0, .ref (bd 0)), (1, .int x1), (2, .int x2), (3, .long y3), (5, .int x5)]) (hM : B_M_kept_0 x1 x2 y3 x5 u = some res) : W p l e rm_M_kept s m args below meth c H locs 0 0 (MQ below (Qwi D cl9 (tyy cI cJ cZ) (cM cI cJ cZ bd) A res) args s 0 0 A) (F0 m 0 ls []) := by
  have C0 := C
  obtain ⟨hx, hb, hr, hml, hown, hts, hlocks, hK, hA⟩ := C
  replace C := C0
  unfold B_M_kept_0 at hM
  refine lv_aload_n hx hb d_M_kept_0 rfl (lv_at hl 0 rfl) ?_
  refine lv_iconst (v := (0 : Int32)) hx hb d_M_kept_1 (by decide) ?_
  refine va_put (D := D) (ci := 3) (v := .int (0 : Int32)) (ty := .int) (C := R_M) (T := T_M) (N := 21) hx hb hts in_M ty_M tk_M nm_M hown hK hP hD hS 0 rfl rfl 0 (by decide) (hts _ mm_349) (fun _ h9 => h9) rfl (by decide +kernel) rfl rfl (Nat.le_of_ble_eq_true rfl) d_M_kept_2 (fun H locs hP hD hS => ?_)
  have hP : va_P D cl9 ((cM cI cJ cZ bd) (m_th_w u (0 : Int32))) H := reP (zcM_th cI cJ cZ bd u (0 : Int32)) hP
  have hD : va_D A ((cM cI cJ cZ bd) (m_th_w u (0 : Int32))) := reD (zcM_th cI cJ cZ bd u (0 : Int32)) hD
  refine lv_aload_n hx hb d_M_kept_5 rfl (lv_at hl 0 rfl) ?_
  obtain ⟨v1, hq1, hM⟩ := bd_some hM
  refine fw_v (F := (cM cI cJ cZ bd)) (u := (m_th_w u (0 : Int32))) (res := v1) (va_runV (As := []) (rest := []) ⟨hx, hb, hml, hown, hts⟩ (c_M_all l D cI cJ cZ bd H.size (m_th_w u (0 : Int32)) v1 hq1) (cwV 0 hts (gV mm_434 mm_436 (ms_ 16 rfl rfl) mm_30 mm_437) rfl rfl rfl hd_M_all ⟨Nat.le_of_ble_eq_true rfl, Nat.le_of_ble_eq_true rfl⟩) (pv_ (F := (cM cI cJ cZ bd)) (u := (m_th_w u (0 : Int32))) hK hP hD (va_recv hK hP (ci := 3) (q0 := 0) rfl rfl)) rfl rfl hl.1 rfl (lv_room (Nat.le_of_ble_eq_true rfl)) d_M_kept_6 ⟨Nat.le_of_ble_eq_true rfl, Nat.le_of_ble_eq_true rfl⟩) hS (fa_ hD hS hA) (fun H locs hP hD hS => ?_)
  refine lv_iconst (v := (0 : Int32)) hx hb d_M_kept_9 (by decide) ?_
  refine lv_istore (lv' := [(6, .int (0 : Int32)), (0, .ref (bd 0)), (1, .int x1), (2, .int x2), (3, .long y3), (5, .int x5)]) hx hb d_M_kept_10 hl (by decide) rfl (fun ls hl => ?_)
  refine lv_iconst (v := (0 : Int32)) hx hb d_M_kept_12 (by decide) ?_
  refine lv_istore (lv' := [(7, .int (0 : Int32)), (6, .int (0 : Int32)), (0, .ref (bd 0)), (1, .int x1), (2, .int x2), (3, .long y3), (5, .int x5)]) hx hb d_M_kept_13 hl (by decide) rfl (fun ls hl => ?_)
  exact w_M_kept_15 C FU x1 x2 y3 x5 (0 : Int32) (0 : Int32) v1 H locs ls hP hD hS (lv_sub hl [2, 3, 4, 5, 6, 1, 0] rfl) hM
end
set_option maxRecDepth 100000 in
theorem c_M_kept (l : Launch) (D : va_G) (cI cJ cZ : ClassId) (bd : Nat → Nat) (sz : Nat) (x1 : Int32) (x2 : Int32) (y3 : Int64) (x5 : Int32) (u : Mod) (res : (Int32 × Mod)) (hM : B_M_kept_0 x1 x2 y3 x5 u = some res) : Met l y_M_kept ws_M_kept rm_M_kept (va_Pc [.ref (bd 0), .int x1, .int x2, .long y3, .int x5] (pr_ D cl9 (tyy cI cJ cZ) (cM cI cJ cZ bd) u sz)) (Qwi D cl9 (tyy cI cJ cZ) (cM cI cJ cZ bd) (va_A ((cM cI cJ cZ bd) u) sz) res) 0 0 (va_A ((cM cI cJ cZ bd) u) sz) := by
  refine Met.ofW (cc := prog_5_method_27_code) (maxL := 8) (ret := (Option.some FieldType.int)) (by decide) rfl ?_
  intro p e s m args below meth c s₁ B hml hv
  obtain ⟨rfl, hsz, hP, hK, hD0⟩ := hv
  subst hsz
  have hts0 := atoms_spec (ws := ws_M_kept) B.pre
  have hl := lv_entry ([.ref (bd 0), .int x1, .int x2, .long y3, .int x5]) (n := 8) (Nat.le_of_ble_eq_true rfl)
  rw [lg_entry_eq]
  generalize (lg_sl ([.ref (bd 0), .int x1, .int x2, .long y3, .int x5]) ++ List.replicate (8 - (lg_sl ([.ref (bd 0), .int x1, .int x2, .long y3, .int x5])).length) Slot.unset).toArray = ls at hl ⊢
  exact w_M_kept_0 ⟨B.exec, B.bytes, B.returns, hml, findClass_of_methodNamed B.named, fun w h => hts0 w (List.mem_cons_of_mem _ h), B.notSynchronized, hK, fun q h => Or.inr h⟩ x1 x2 y3 x5 u s.heap [] ls hP hD0.self va_S.rf hl hM
section
variable {p : Program} {l : Launch} {e : Env} {s : State} {m : MethodId} {args : Array Value} {below : List Frame} {meth : Method} {c : Code} {D : va_G} {cI cJ cZ : ClassId} {A : Nat → Prop} {bd : Nat → Nat}
set_option maxHeartbeats 4000000 in
set_option maxRecDepth 100000 in
theorem w_M_most_0 {res : (Int32 × Mod)} (C : Cx p s m args meth c prog_5_method_28_code 2 (Option.some FieldType.int) "PlainLibraryModel" tb D cl9 (tyy cI cJ cZ) A) (x1 : Int32) (u : Mod) (H : Heap) (locs : List Loc) (ls : Array Slot) (hP : va_P D cl9 ((cM cI cJ cZ bd) u) H) (hD : va_D A ((cM cI cJ cZ bd) u)) (hS : va_S A s.heap H locs) (hl : lv_has ls 2 [(0, .ref (bd 0)), (1, .int x1)]) (hM : B_M_most_0 x1 u = some res) : W p l e rm_M_most s m args below meth c H locs 0 0 (MQ below (Qwi D cl9 (tyy cI cJ cZ) (cM cI cJ cZ bd) A res) args s 0 0 A) (F0 m 0 ls []) := by
  have C0 := C
  obtain ⟨hx, hb, hr, hml, hown, hts, hlocks, hK, hA⟩ := C
  replace C := C0
  unfold B_M_most_0 at hM
  refine lv_aload_n hx hb d_M_most_0 rfl (lv_at hl 0 rfl) ?_
  refine lv_iconst (v := (0 : Int32)) hx hb d_M_most_1 (by decide) ?_
  refine va_put (D := D) (ci := 3) (v := .int (0 : Int32)) (ty := .int) (C := R_M) (T := T_M) (N := 21) hx hb hts in_M ty_M tk_M nm_M hown hK hP hD hS 0 rfl rfl 0 (by decide) (hts _ mm_349) (fun _ h9 => h9) rfl (by decide +kernel) rfl rfl (Nat.le_of_ble_eq_true rfl) d_M_most_2 (fun H locs hP hD hS => ?_)
  have hP : va_P D cl9 ((cM cI cJ cZ bd) (m_th_w u (0 : Int32))) H := reP (zcM_th cI cJ cZ bd u (0 : Int32)) hP
  have hD : va_D A ((cM cI cJ cZ bd) (m_th_w u (0 : Int32))) := reD (zcM_th cI cJ cZ bd u (0 : Int32)) hD
  refine lv_iload_n hx hb d_M_most_5 rfl (lv_at hl 1 rfl) ?_
  obtain ⟨v1, hq1, hM⟩ := bd_some hM
  refine fr_i (res := v1) (va_runS (As := [.int x1]) (rest := []) ⟨hx, hb, hml, hown, hts⟩ (c_M_isNumber l D cI cJ cZ H.size x1 v1 hq1) (va_cwS 1 hts (gS mm_487 mm_488 mm_30 mm_489) rfl rfl rfl hs_M_isNumber ⟨Nat.le_of_ble_eq_true rfl, Nat.le_of_ble_eq_true rfl⟩) (ps_ (F := nW) (u := ()) hK nP (nD (A := fun _ => True))) rfl rfl hl.1 rfl (lv_room (Nat.le_of_ble_eq_true rfl)) d_M_most_6 ⟨Nat.le_of_ble_eq_true rfl, Nat.le_of_ble_eq_true rfl⟩) hP hS hA (fun H locs hP hS => ?_)
  refine lv_if_ne (tgt := 14) hx hb d_M_most_9 (by decide) (fun c2 => ?_) (fun c2 => ?_)
  · replace hM := it_f c2 hM
    refine lv_aload_n hx hb d_M_most_14 rfl (lv_at hl 0 rfl) ?_
    refine va_get (D := D) (ci := 3) (v := .int (m_ct (m_th_w u (0 : Int32)))) (C := R_M) (T := T_M) (N := 21) hx hb hts in_M hown hK hP 0 rfl rfl 5 (by decide) (hts _ mm_354) (fun _ h9 => h9) rfl d_M_most_15 ?_
    refine lv_bipush (v := (100 : Int32)) hx hb d_M_most_18 (by decide) ?_
    refine lv_icmp_le (tgt := 26) hx hb d_M_most_20 (by decide) (fun c3 => ?_) (fun c3 => ?_)
    · replace hM := it_t c3 hM
      refine lv_aload_n hx hb d_M_most_26 rfl (lv_at hl 0 rfl) ?_
      refine lv_ldc2 (v := (1000000 : Int64)) hx hb hown (hts _ mm_429) d_M_most_27 ?_
      refine lv_iconst (v := (-1 : Int32)) hx hb d_M_most_30 (by decide) ?_
      refine lv_iconst (v := (-1 : Int32)) hx hb d_M_most_31 (by decide) ?_
      refine lv_iload_n hx hb d_M_most_32 rfl (lv_at hl 1 rfl) ?_
      obtain ⟨v4, hq4, hM⟩ := bd_some hM
      refine fw_v (F := (cM cI cJ cZ bd)) (u := (m_th_w u (0 : Int32))) (res := v4) (va_runV (As := [.long (1000000 : Int64), .int (-1 : Int32), .int (-1 : Int32), .int x1]) (rest := []) ⟨hx, hb, hml, hown, hts⟩ (c_M_go l D cI cJ cZ bd H.size (1000000 : Int64) (-1 : Int32) (-1 : Int32) x1 (m_th_w u (0 : Int32)) v4 hq4) (cwV 4 hts (gV mm_438 mm_440 (ms_ 17 rfl rfl) mm_30 mm_441) rfl rfl rfl hd_M_go ⟨Nat.le_of_ble_eq_true rfl, Nat.le_of_ble_eq_true rfl⟩) (pv_ (F := (cM cI cJ cZ bd)) (u := (m_th_w u (0 : Int32))) hK hP hD (va_recv hK hP (ci := 3) (q0 := 0) rfl rfl)) rfl rfl hl.1 rfl (lv_room (Nat.le_of_ble_eq_true rfl)) d_M_most_33 ⟨Nat.le_of_ble_eq_true rfl, Nat.le_of_ble_eq_true rfl⟩) hS (fa_ hD hS hA) (fun H locs hP hD hS => ?_)
      refine lv_aload_n hx hb d_M_most_36 rfl (lv_at hl 0 rfl) ?_
      refine va_get (D := D) (ci := 3) (v := .int (m_pk v4)) (C := R_M) (T := T_M) (N := 21) hx hb hts in_M hown hK hP 0 rfl rfl 18 (by decide) (hts _ mm_367) (fun _ h9 => h9) rfl d_M_most_37 ?_
      obtain rfl := Option.some.inj hM
      exact W.iret (v := (m_pk v4)) hx hb hr (fun t ht hW => ⟨⟨(m_pk v4), v4, rfl, rfl, by rw [ht]; exact hP, va_K.moved hW.alike hK, hD⟩, hS.F ht⟩) hS.2.2 d_M_most_40
    · replace hM := it_f c3 hM
      refine lv_bipush (v := (-9 : Int32)) hx hb d_M_most_23 (by decide) ?_
      obtain rfl := Option.some.inj hM
      exact W.iret (v := (-9 : Int32)) hx hb hr (fun t ht hW => ⟨⟨(-9 : Int32), (m_th_w u (0 : Int32)), rfl, rfl, by rw [ht]; exact hP, va_K.moved hW.alike hK, hD⟩, hS.F ht⟩) hS.2.2 d_M_most_25
  · replace hM := it_t c2 hM
    refine lv_iconst (v := (-1 : Int32)) hx hb d_M_most_12 (by decide) ?_
    obtain rfl := Option.some.inj hM
    exact W.iret (v := (-1 : Int32)) hx hb hr (fun t ht hW => ⟨⟨(-1 : Int32), (m_th_w u (0 : Int32)), rfl, rfl, by rw [ht]; exact hP, va_K.moved hW.alike hK, hD⟩, hS.F ht⟩) hS.2.2 d_M_most_13
end
set_option maxRecDepth 100000 in
theorem c_M_most (l : Launch) (D : va_G) (cI cJ cZ : ClassId) (bd : Nat → Nat) (sz : Nat) (x1 : Int32) (u : Mod) (res : (Int32 × Mod)) (hM : B_M_most_0 x1 u = some res) : Met l y_M_most ws_M_most rm_M_most (va_Pc [.ref (bd 0), .int x1] (pr_ D cl9 (tyy cI cJ cZ) (cM cI cJ cZ bd) u sz)) (Qwi D cl9 (tyy cI cJ cZ) (cM cI cJ cZ bd) (va_A ((cM cI cJ cZ bd) u) sz) res) 0 0 (va_A ((cM cI cJ cZ bd) u) sz) := by
  refine Met.ofW (cc := prog_5_method_28_code) (maxL := 2) (ret := (Option.some FieldType.int)) (by decide) rfl ?_
  intro p e s m args below meth c s₁ B hml hv
  obtain ⟨rfl, hsz, hP, hK, hD0⟩ := hv
  subst hsz
  have hts0 := atoms_spec (ws := ws_M_most) B.pre
  have hl := lv_entry ([.ref (bd 0), .int x1]) (n := 2) (Nat.le_of_ble_eq_true rfl)
  rw [lg_entry_eq]
  generalize (lg_sl ([.ref (bd 0), .int x1]) ++ List.replicate (2 - (lg_sl ([.ref (bd 0), .int x1])).length) Slot.unset).toArray = ls at hl ⊢
  exact w_M_most_0 ⟨B.exec, B.bytes, B.returns, hml, findClass_of_methodNamed B.named, fun w h => hts0 w (List.mem_cons_of_mem _ h), B.notSynchronized, hK, fun q h => Or.inr h⟩ x1 u s.heap [] ls hP hD0.self va_S.rf hl hM
section
variable {p : Program} {l : Launch} {e : Env} {s : State} {m : MethodId} {args : Array Value} {below : List Frame} {meth : Method} {c : Code} {D : va_G} {cI cJ cZ : ClassId} {A : Nat → Prop} {bd : Nat → Nat}
set_option maxHeartbeats 4000000 in
set_option maxRecDepth 100000 in
theorem w_M_least_94 {k21 : Int32 → Int32 → Mod → Option (Int32 × Mod)} {k31 : Int32 → Int32 → Int32 → Mod → Option (Int32 × Mod)} {res : (Int32 × Mod)} (C : Cx p s m args meth c prog_5_method_29_code 5 (Option.some FieldType.int) "PlainLibraryModel" tb D cl9 (tyy cI cJ cZ) A) (hk21 : ∀ (x1 : Int32) (x2 : Int32) (u : Mod) (H : Heap) (locs : List Loc) (ls : Array Slot), va_P D cl9 ((cM cI cJ cZ bd) u) H → va_D A ((cM cI cJ cZ bd) u) → va_S A s.heap H locs → lv_has ls 5 [(0, .ref (bd 0)), (1, .int x1), (2, .int x2)] → k21 x1 x2 u = some res → W p l e rm_M_least s m args below meth c H locs 0 0 (MQ below (Qwi D cl9 (tyy cI cJ cZ) (cM cI cJ cZ bd) A res) args s 0 0 A) (F0 m 21 ls [])) (hk31 : ∀ (x1 : Int32) (x2 : Int32) (x3 : Int32) (u : Mod) (H : Heap) (locs : List Loc) (ls : Array Slot), va_P D cl9 ((cM cI cJ cZ bd) u) H → va_D A ((cM cI cJ cZ bd) u) → va_S A s.heap H locs → lv_has ls 5 [(0, .ref (bd 0)), (1, .int x1), (2, .int x2), (3, .int x3)] → k31 x1 x2 x3 u = some res → W p l e rm_M_least s m args below meth c H locs 0 0 (MQ below (Qwi D cl9 (tyy cI cJ cZ) (cM cI cJ cZ bd) A res) args s 0 0 A) (F0 m 31 ls [])) (x1 : Int32) (x2 : Int32) (x3 : Int32) (u : Mod) (H : Heap) (locs : List Loc) (ls : Array Slot) (hP : va_P D cl9 ((cM cI cJ cZ bd) u) H) (hD : va_D A ((cM cI cJ cZ bd) u)) (hS : va_S A s.heap H locs) (hl : lv_has ls 5 [(0, .ref (bd 0)), (1, .int x1), (2, .int x2), (3, .int x3)]) (hM : B_M_least_94 k21 k31 x1 x2 x3 u = some res) : W p l e rm_M_least s m args below meth c H locs 0 0 (MQ below (Qwi D cl9 (tyy cI cJ cZ) (cM cI cJ cZ bd) A res) args s 0 0 A) (F0 m 94 ls []) := by
  have C0 := C
  obtain ⟨hx, hb, hr, hml, hown, hts, hlocks, hK, hA⟩ := C
  replace C := C0
  unfold B_M_least_94 at hM
  refine lv_iinc (v := (x3 + (1 : Int32))) (lv' := [(3, .int (x3 + (1 : Int32))), (0, .ref (bd 0)), (1, .int x1), (2, .int x2)]) hx hb d_M_least_94 hl (k := 3) rfl rfl (by decide) rfl (fun ls hl => ?_)
  refine lv_goto (tgt := 31) hx hb d_M_least_97 (by decide) ?_
  exact hk31 x1 x2 (x3 + (1 : Int32)) u H locs ls hP hD hS (lv_sub hl [1, 2, 3, 0] rfl) hM
set_option maxHeartbeats 4000000 in
set_option maxRecDepth 100000 in
theorem w_M_least_93 {k21 : Int32 → Int32 → Mod → Option (Int32 × Mod)} {k31 : Int32 → Int32 → Int32 → Mod → Option (Int32 × Mod)} {res : (Int32 × Mod)} (C : Cx p s m args meth c prog_5_method_29_code 5 (Option.some FieldType.int) "PlainLibraryModel" tb D cl9 (tyy cI cJ cZ) A) (hk21 : ∀ (x1 : Int32) (x2 : Int32) (u : Mod) (H : Heap) (locs : List Loc) (ls : Array Slot), va_P D cl9 ((cM cI cJ cZ bd) u) H → va_D A ((cM cI cJ cZ bd) u) → va_S A s.heap H locs → lv_has ls 5 [(0, .ref (bd 0)), (1, .int x1), (2, .int x2)] → k21 x1 x2 u = some res → W p l e rm_M_least s m args below meth c H locs 0 0 (MQ below (Qwi D cl9 (tyy cI cJ cZ) (cM cI cJ cZ bd) A res) args s 0 0 A) (F0 m 21 ls [])) (hk31 : ∀ (x1 : Int32) (x2 : Int32) (x3 : Int32) (u : Mod) (H : Heap) (locs : List Loc) (ls : Array Slot), va_P D cl9 ((cM cI cJ cZ bd) u) H → va_D A ((cM cI cJ cZ bd) u) → va_S A s.heap H locs → lv_has ls 5 [(0, .ref (bd 0)), (1, .int x1), (2, .int x2), (3, .int x3)] → k31 x1 x2 x3 u = some res → W p l e rm_M_least s m args below meth c H locs 0 0 (MQ below (Qwi D cl9 (tyy cI cJ cZ) (cM cI cJ cZ bd) A res) args s 0 0 A) (F0 m 31 ls [])) (x2 : Int32) (x3 : Int32) (t0 : Int32) (u : Mod) (H : Heap) (locs : List Loc) (ls : Array Slot) (hP : va_P D cl9 ((cM cI cJ cZ bd) u) H) (hD : va_D A ((cM cI cJ cZ bd) u)) (hS : va_S A s.heap H locs) (hl : lv_has ls 5 [(0, .ref (bd 0)), (2, .int x2), (3, .int x3)]) (hM : B_M_least_93 k21 k31 x2 x3 t0 u = some res) : W p l e rm_M_least s m args below meth c H locs 0 0 (MQ below (Qwi D cl9 (tyy cI cJ cZ) (cM cI cJ cZ bd) A res) args s 0 0 A) (F0 m 93 ls [.int t0]) := by
  have C0 := C
  obtain ⟨hx, hb, hr, hml, hown, hts, hlocks, hK, hA⟩ := C
  replace C := C0
  unfold B_M_least_93 at hM
  refine lv_istore_n (lv' := [(1, .int t0), (0, .ref (bd 0)), (2, .int x2), (3, .int x3)]) hx hb d_M_least_93 rfl hl (by decide) rfl (fun ls hl => ?_)
  exact w_M_least_94 C hk21 hk31 t0 x2 x3 u H locs ls hP hD hS (lv_sub hl [1, 0, 2, 3] rfl) hM
set_option maxHeartbeats 4000000 in
set_option maxRecDepth 100000 in
theorem w_M_least_61 {k21 : Int32 → Int32 → Mod → Option (Int32 × Mod)} {k31 : Int32 → Int32 → Int32 → Mod → Option (Int32 × Mod)} {res : (Int32 × Mod)} (C : Cx p s m args meth c prog_5_method_29_code 5 (Option.some FieldType.int) "PlainLibraryModel" tb D cl9 (tyy cI cJ cZ) A) (hk21 : ∀ (x1 : Int32) (x2 : Int32) (u : Mod) (H : Heap) (locs : List Loc) (ls : Array Slot), va_P D cl9 ((cM cI cJ cZ bd) u) H → va_D A ((cM cI cJ cZ bd) u) → va_S A s.heap H locs → lv_has ls 5 [(0, .ref (bd 0)), (1, .int x1), (2, .int x2)] → k21 x1 x2 u = some res → W p l e rm_M_least s m args below meth c H locs 0 0 (MQ below (Qwi D cl9 (tyy cI cJ cZ) (cM cI cJ cZ bd) A res) args s 0 0 A) (F0 m 21 ls [])) (hk31 : ∀ (x1 : Int32) (x2 : Int32) (x3 : Int32) (u : Mod) (H : Heap) (locs : List Loc) (ls : Array Slot), va_P D cl9 ((cM cI cJ cZ bd) u) H → va_D A ((cM cI cJ cZ bd) u) → va_S A s.heap H locs → lv_has ls 5 [(0, .ref (bd 0)), (1, .int x1), (2, .int x2), (3, .int x3)] → k31 x1 x2 x3 u = some res → W p l e rm_M_least s m args below meth c H locs 0 0 (MQ below (Qwi D cl9 (tyy cI cJ cZ) (cM cI cJ cZ bd) A res) args s 0 0 A) (F0 m 31 ls [])) (x1 : Int32) (x2 : Int32) (x3 : Int32) (t0 : Int32) (t1 : Int32) (u : Mod) (H : Heap) (locs : List Loc) (ls : Array Slot) (hP : va_P D cl9 ((cM cI cJ cZ bd) u) H) (hD : va_D A ((cM cI cJ cZ bd) u)) (hS : va_S A s.heap H locs) (hl : lv_has ls 5 [(0, .ref (bd 0)), (1, .int x1), (2, .int x2), (3, .int x3)]) (hM : B_M_least_61 k21 k31 x1 x2 x3 t0 t1 u = some res) : W p l e rm_M_least s m args below meth c H locs 0 0 (MQ below (Qwi D cl9 (tyy cI cJ cZ) (cM cI cJ cZ bd) A res) args s 0 0 A) (F0 m 61 ls [.int t0, .int t1]) := by
  have C0 := C
  obtain ⟨hx, hb, hr, hml, hown, hts, hlocks, hK, hA⟩ := C
  replace C := C0
  unfold B_M_least_61 at hM
  refine lv_iadd hx hb d_M_least_61 ?_
  refine lv_istore (lv' := [(4, .int (t1 + t0)), (0, .ref (bd 0)), (1, .int x1), (2, .int x2), (3, .int x3)]) hx hb d_M_least_62 hl (by decide) rfl (fun ls hl => ?_)
  refine lv_iload hx hb d_M_least_64 (lv_at hl 0 rfl) ?_
  refine lv_iload_n hx hb d_M_least_66 rfl (lv_at hl 2 rfl) ?_
  refine lv_icmp_ge (tgt := 94) hx hb d_M_least_67 (by decide) (fun c1 => ?_) (fun c1 => ?_)
  · replace hM := it_t c1 hM
    exact w_M_least_94 C hk21 hk31 x1 x2 x3 u H locs ls hP hD hS (lv_sub hl [1, 2, 3, 4] rfl) hM
  · replace hM := it_f c1 hM
    refine lv_aload_n hx hb d_M_least_70 rfl (lv_at hl 1 rfl) ?_
    refine lv_ldc2 (v := (1000000 : Int64)) hx hb hown (hts _ mm_429) d_M_least_71 ?_
    refine lv_iload_n hx hb d_M_least_74 rfl (lv_at hl 3 rfl) ?_
    refine lv_iload_n hx hb d_M_least_75 rfl (lv_at hl 4 rfl) ?_
    refine lv_iconst (v := (-1 : Int32)) hx hb d_M_least_76 (by decide) ?_
    obtain ⟨v2, hq2, hM⟩ := bd_some hM
    refine fw_v (F := (cM cI cJ cZ bd)) (u := u) (res := v2) (va_runV (As := [.long (1000000 : Int64), .int x2, .int x3, .int (-1 : Int32)]) (rest := []) ⟨hx, hb, hml, hown, hts⟩ (c_M_go l D cI cJ cZ bd H.size (1000000 : Int64) x2 x3 (-1 : Int32) u v2 hq2) (cwV 4 hts (gV mm_438 mm_440 (ms_ 17 rfl rfl) mm_30 mm_441) rfl rfl rfl hd_M_go ⟨Nat.le_of_ble_eq_true rfl, Nat.le_of_ble_eq_true rfl⟩) (pv_ (F := (cM cI cJ cZ bd)) (u := u) hK hP hD (va_recv hK hP (ci := 3) (q0 := 0) rfl rfl)) rfl rfl hl.1 rfl (lv_room (Nat.le_of_ble_eq_true rfl)) d_M_least_77 ⟨Nat.le_of_ble_eq_true rfl, Nat.le_of_ble_eq_true rfl⟩) hS (fa_ hD hS hA) (fun H locs hP hD hS => ?_)
    refine lv_aload_n hx hb d_M_least_80 rfl (lv_at hl 1 rfl) ?_
    refine va_get (D := D) (ci := 3) (v := .int (m_vd v2)) (C := R_M) (T := T_M) (N := 21) hx hb hts in_M hown hK hP 0 rfl rfl 17 (by decide) (hts _ mm_366) (fun _ h9 => h9) rfl d_M_least_81 ?_
    refine lv_if_ne (tgt := 92) hx hb d_M_least_84 (by decide) (fun c3 => ?_) (fun c3 => ?_)
    · replace hM := it_f c3 hM
      refine lv_iload_n hx hb d_M_least_92 rfl (lv_at hl 2 rfl) ?_
      exact w_M_least_93 C hk21 hk31 x2 x3 x1 v2 H locs ls hP hD hS (lv_sub hl [1, 3, 4] rfl) hM
    · replace hM := it_t c3 hM
      refine lv_iload hx hb d_M_least_87 (lv_at hl 0 rfl) ?_
      refine lv_goto (tgt := 93) hx hb d_M_least_89 (by decide) ?_
      exact w_M_least_93 C hk21 hk31 x2 x3 (t1 + t0) v2 H locs ls hP hD hS (lv_sub hl [1, 3, 4] rfl) hM
set_option maxHeartbeats 4000000 in
set_option maxRecDepth 100000 in
theorem w_M_least_56 {k21 : Int32 → Int32 → Mod → Option (Int32 × Mod)} {k31 : Int32 → Int32 → Int32 → Mod → Option (Int32 × Mod)} {res : (Int32 × Mod)} (C : Cx p s m args meth c prog_5_method_29_code 5 (Option.some FieldType.int) "PlainLibraryModel" tb D cl9 (tyy cI cJ cZ) A) (hk21 : ∀ (x1 : Int32) (x2 : Int32) (u : Mod) (H : Heap) (locs : List Loc) (ls : Array Slot), va_P D cl9 ((cM cI cJ cZ bd) u) H → va_D A ((cM cI cJ cZ bd) u) → va_S A s.heap H locs → lv_has ls 5 [(0, .ref (bd 0)), (1, .int x1), (2, .int x2)] → k21 x1 x2 u = some res → W p l e rm_M_least s m args below meth c H locs 0 0 (MQ below (Qwi D cl9 (tyy cI cJ cZ) (cM cI cJ cZ bd) A res) args s 0 0 A) (F0 m 21 ls [])) (hk31 : ∀ (x1 : Int32) (x2 : Int32) (x3 : Int32) (u : Mod) (H : Heap) (locs : List Loc) (ls : Array Slot), va_P D cl9 ((cM cI cJ cZ bd) u) H → va_D A ((cM cI cJ cZ bd) u) → va_S A s.heap H locs → lv_has ls 5 [(0, .ref (bd 0)), (1, .int x1), (2, .int x2), (3, .int x3)] → k31 x1 x2 x3 u = some res → W p l e rm_M_least s m args below meth c H locs 0 0 (MQ below (Qwi D cl9 (tyy cI cJ cZ) (cM cI cJ cZ bd) A res) args s 0 0 A) (F0 m 31 ls [])) (x1 : Int32) (x2 : Int32) (x3 : Int32) (t0 : Int32) (u : Mod) (H : Heap) (locs : List Loc) (ls : Array Slot) (hP : va_P D cl9 ((cM cI cJ cZ bd) u) H) (hD : va_D A ((cM cI cJ cZ bd) u)) (hS : va_S A s.heap H locs) (hl : lv_has ls 5 [(0, .ref (bd 0)), (1, .int x1), (2, .int x2), (3, .int x3)]) (hM : B_M_least_56 k21 k31 x1 x2 x3 t0 u = some res) : W p l e rm_M_least s m args below meth c H locs 0 0 (MQ below (Qwi D cl9 (tyy cI cJ cZ) (cM cI cJ cZ bd) A res) args s 0 0 A) (F0 m 56 ls [.int t0]) := by
  have C0 := C
  obtain ⟨hx, hb, hr, hml, hown, hts, hlocks, hK, hA⟩ := C
  replace C := C0
  unfold B_M_least_56 at hM
  refine lv_iconst (v := (0 : Int32)) hx hb d_M_least_56 (by decide) ?_
  refine lv_goto (tgt := 61) hx hb d_M_least_57 (by decide) ?_
  exact w_M_least_61 C hk21 hk31 x1 x2 x3 (0 : Int32) t0 u H locs ls hP hD hS (lv_sub hl [0, 1, 2, 3] rfl) hM
set_option maxHeartbeats 4000000 in
set_option maxRecDepth 100000 in
theorem w_M_least_46 {k21 : Int32 → Int32 → Mod → Option (Int32 × Mod)} {k31 : Int32 → Int32 → Int32 → Mod → Option (Int32 × Mod)} {res : (Int32 × Mod)} (C : Cx p s m args meth c prog_5_method_29_code 5 (Option.some FieldType.int) "PlainLibraryModel" tb D cl9 (tyy cI cJ cZ) A) (hk21 : ∀ (x1 : Int32) (x2 : Int32) (u : Mod) (H : Heap) (locs : List Loc) (ls : Array Slot), va_P D cl9 ((cM cI cJ cZ bd) u) H → va_D A ((cM cI cJ cZ bd) u) → va_S A s.heap H locs → lv_has ls 5 [(0, .ref (bd 0)), (1, .int x1), (2, .int x2)] → k21 x1 x2 u = some res → W p l e rm_M_least s m args below meth c H locs 0 0 (MQ below (Qwi D cl9 (tyy cI cJ cZ) (cM cI cJ cZ bd) A res) args s 0 0 A) (F0 m 21 ls [])) (hk31 : ∀ (x1 : Int32) (x2 : Int32) (x3 : Int32) (u : Mod) (H : Heap) (locs : List Loc) (ls : Array Slot), va_P D cl9 ((cM cI cJ cZ bd) u) H → va_D A ((cM cI cJ cZ bd) u) → va_S A s.heap H locs → lv_has ls 5 [(0, .ref (bd 0)), (1, .int x1), (2, .int x2), (3, .int x3)] → k31 x1 x2 x3 u = some res → W p l e rm_M_least s m args below meth c H locs 0 0 (MQ below (Qwi D cl9 (tyy cI cJ cZ) (cM cI cJ cZ bd) A res) args s 0 0 A) (F0 m 31 ls [])) (x1 : Int32) (x2 : Int32) (x3 : Int32) (t0 : Int32) (u : Mod) (H : Heap) (locs : List Loc) (ls : Array Slot) (hP : va_P D cl9 ((cM cI cJ cZ bd) u) H) (hD : va_D A ((cM cI cJ cZ bd) u)) (hS : va_S A s.heap H locs) (hl : lv_has ls 5 [(0, .ref (bd 0)), (1, .int x1), (2, .int x2), (3, .int x3)]) (hM : B_M_least_46 k21 k31 x1 x2 x3 t0 u = some res) : W p l e rm_M_least s m args below meth c H locs 0 0 (MQ below (Qwi D cl9 (tyy cI cJ cZ) (cM cI cJ cZ bd) A res) args s 0 0 A) (F0 m 46 ls [.int t0]) := by
  have C0 := C
  obtain ⟨hx, hb, hr, hml, hown, hts, hlocks, hK, hA⟩ := C
  replace C := C0
  unfold B_M_least_46 at hM
  refine lv_iload_n hx hb d_M_least_46 rfl (lv_at hl 3 rfl) ?_
  refine lv_iconst (v := (-1 : Int32)) hx hb d_M_least_47 (by decide) ?_
  refine lv_icmp_eq (tgt := 56) hx hb d_M_least_48 (by decide) (fun c1 => ?_) (fun c1 => ?_)
  · replace hM := it_t c1 hM
    exact w_M_least_56 C hk21 hk31 x1 x2 x3 t0 u H locs ls hP hD hS (lv_sub hl [0, 1, 2, 3] rfl) hM
  · replace hM := it_f c1 hM
    refine lv_iload_n hx hb d_M_least_51 rfl (lv_at hl 3 rfl) ?_
    refine lv_iload_n hx hb d_M_least_52 rfl (lv_at hl 2 rfl) ?_
    refine lv_icmp_ne (tgt := 60) hx hb d_M_least_53 (by decide) (fun c2 => ?_) (fun c2 => ?_)
    · replace hM := it_f c2 hM
      refine lv_iconst (v := (1 : Int32)) hx hb d_M_least_60 (by decide) ?_
      exact w_M_least_61 C hk21 hk31 x1 x2 x3 (1 : Int32) t0 u H locs ls hP hD hS (lv_sub hl [0, 1, 2, 3] rfl) hM
    · replace hM := it_t c2 hM
      exact w_M_least_56 C hk21 hk31 x1 x2 x3 t0 u H locs ls hP hD hS (lv_sub hl [0, 1, 2, 3] rfl) hM
set_option maxHeartbeats 4000000 in
set_option maxRecDepth 100000 in
theorem w_M_least_31s {k21 : Int32 → Int32 → Mod → Option (Int32 × Mod)} {res : (Int32 × Mod)} (C : Cx p s m args meth c prog_5_method_29_code 5 (Option.some FieldType.int) "PlainLibraryModel" tb D cl9 (tyy cI cJ cZ) A) {k31 : Int32 → Int32 → Int32 → Mod → Option (Int32 × Mod)} (hk21 : ∀ (x1 : Int32) (x2 : Int32) (u : Mod) (H : Heap) (locs : List Loc) (ls : Array Slot), va_P D cl9 ((cM cI cJ cZ bd) u) H → va_D A ((cM cI cJ cZ bd) u) → va_S A s.heap H locs → lv_has ls 5 [(0, .ref (bd 0)), (1, .int x1), (2, .int x2)] → k21 x1 x2 u = some res → W p l e rm_M_least s m args below meth c H locs 0 0 (MQ below (Qwi D cl9 (tyy cI cJ cZ) (cM cI cJ cZ bd) A res) args s 0 0 A) (F0 m 21 ls [])) (hk31 : ∀ (x1 : Int32) (x2 : Int32) (x3 : Int32) (u : Mod) (H : Heap) (locs : List Loc) (ls : Array Slot), va_P D cl9 ((cM cI cJ cZ bd) u) H → va_D A ((cM cI cJ cZ bd) u) → va_S A s.heap H locs → lv_has ls 5 [(0, .ref (bd 0)), (1, .int x1), (2, .int x2), (3, .int x3)] → k31 x1 x2 x3 u = some res → W p l e rm_M_least s m args below meth c H locs 0 0 (MQ below (Qwi D cl9 (tyy cI cJ cZ) (cM cI cJ cZ bd) A res) args s 0 0 A) (F0 m 31 ls [])) (x1 : Int32) (x2 : Int32) (x3 : Int32) (u : Mod) (H : Heap) (locs : List Loc) (ls : Array Slot) (hP : va_P D cl9 ((cM cI cJ cZ bd) u) H) (hD : va_D A ((cM cI cJ cZ bd) u)) (hS : va_S A s.heap H locs) (hl : lv_has ls 5 [(0, .ref (bd 0)), (1, .int x1), (2, .int x2), (3, .int x3)]) (hM : B_M_least_31s k21 k31 x1 x2 x3 u = some res) : W p l e rm_M_least s m args below meth c H locs 0 0 (MQ below (Qwi D cl9 (tyy cI cJ cZ) (cM cI cJ cZ bd) A res) args s 0 0 A) (F0 m 31 ls []) := by
  have C0 := C
  obtain ⟨hx, hb, hr, hml, hown, hts, hlocks, hK, hA⟩ := C
  replace C := C0
  unfold B_M_least_31s at hM
  refine lv_iload_n hx hb d_M_least_31 rfl (lv_at hl 3 rfl) ?_
  refine lv_iload_n hx hb d_M_least_32 rfl (lv_at hl 2 rfl) ?_
  refine lv_icmp_gt (tgt := 100) hx hb d_M_least_33 (by decide) (fun c1 => ?_) (fun c1 => ?_)
  · replace hM := it_t c1 hM
    refine lv_iinc (v := (x2 + (1 : Int32))) (lv' := [(2, .int (x2 + (1 : Int32))), (0, .ref (bd 0)), (1, .int x1), (3, .int x3)]) hx hb d_M_least_100 hl (k := 2) rfl rfl (by decide) rfl (fun ls hl => ?_)
    refine lv_goto (tgt := 21) hx hb d_M_least_103 (by decide) ?_
    exact hk21 x1 (x2 + (1 : Int32)) u H locs ls hP hD hS (lv_sub hl [1, 2, 0] rfl) hM
  · replace hM := it_f c1 hM
    refine lv_iload_n hx hb d_M_least_36 rfl (lv_at hl 2 rfl) ?_
    refine lv_iconst (v := (-1 : Int32)) hx hb d_M_least_37 (by decide) ?_
    refine lv_icmp_ne (tgt := 45) hx hb d_M_least_38 (by decide) (fun c2 => ?_) (fun c2 => ?_)
    · replace hM := it_f c2 hM
      refine lv_iconst (v := (1 : Int32)) hx hb d_M_least_45 (by decide) ?_
      exact w_M_least_46 C hk21 hk31 x1 x2 x3 (1 : Int32) u H locs ls hP hD hS (lv_sub hl [0, 1, 2, 3] rfl) hM
    · replace hM := it_t c2 hM
      refine lv_iconst (v := (0 : Int32)) hx hb d_M_least_41 (by decide) ?_
      refine lv_goto (tgt := 46) hx hb d_M_least_42 (by decide) ?_
      exact w_M_least_46 C hk21 hk31 x1 x2 x3 (0 : Int32) u H locs ls hP hD hS (lv_sub hl [0, 1, 2, 3] rfl) hM
theorem w_M_least_31 {k21 : Int32 → Int32 → Mod → Option (Int32 × Mod)} {res : (Int32 × Mod)} (C : Cx p s m args meth c prog_5_method_29_code 5 (Option.some FieldType.int) "PlainLibraryModel" tb D cl9 (tyy cI cJ cZ) A) (hk21 : ∀ (x1 : Int32) (x2 : Int32) (u : Mod) (H : Heap) (locs : List Loc) (ls : Array Slot), va_P D cl9 ((cM cI cJ cZ bd) u) H → va_D A ((cM cI cJ cZ bd) u) → va_S A s.heap H locs → lv_has ls 5 [(0, .ref (bd 0)), (1, .int x1), (2, .int x2)] → k21 x1 x2 u = some res → W p l e rm_M_least s m args below meth c H locs 0 0 (MQ below (Qwi D cl9 (tyy cI cJ cZ) (cM cI cJ cZ bd) A res) args s 0 0 A) (F0 m 21 ls [])) : ∀ (fu : Nat) (x1 : Int32) (x2 : Int32) (x3 : Int32) (u : Mod) (H : Heap) (locs : List Loc) (ls : Array Slot), va_P D cl9 ((cM cI cJ cZ bd) u) H → va_D A ((cM cI cJ cZ bd) u) → va_S A s.heap H locs → lv_has ls 5 [(0, .ref (bd 0)), (1, .int x1), (2, .int x2), (3, .int x3)] → B_M_least_31 k21 fu x1 x2 x3 u = some res → W p l e rm_M_least s m args below meth c H locs 0 0 (MQ below (Qwi D cl9 (tyy cI cJ cZ) (cM cI cJ cZ bd) A res) args s 0 0 A) (F0 m 31 ls []) := by
  intro fu
  induction fu with
  | zero =>
    intro x1 x2 x3 u H locs ls hP hD hS hl hM
    have hM : (none : Option (Int32 × Mod)) = some res := hM
    cases hM
  | succ fu ih =>
    intro x1 x2 x3 u H locs ls hP hD hS hl hM
    exact w_M_least_31s C hk21 ih x1 x2 x3 u H locs ls hP hD hS hl hM
set_option maxHeartbeats 4000000 in
set_option maxRecDepth 100000 in
theorem w_M_least_21s {res : (Int32 × Mod)} (C : Cx p s m args meth c prog_5_method_29_code 5 (Option.some FieldType.int) "PlainLibraryModel" tb D cl9 (tyy cI cJ cZ) A) {k21 : Int32 → Int32 → Mod → Option (Int32 × Mod)} (hk21 : ∀ (x1 : Int32) (x2 : Int32) (u : Mod) (H : Heap) (locs : List Loc) (ls : Array Slot), va_P D cl9 ((cM cI cJ cZ bd) u) H → va_D A ((cM cI cJ cZ bd) u) → va_S A s.heap H locs → lv_has ls 5 [(0, .ref (bd 0)), (1, .int x1), (2, .int x2)] → k21 x1 x2 u = some res → W p l e rm_M_least s m args below meth c H locs 0 0 (MQ below (Qwi D cl9 (tyy cI cJ cZ) (cM cI cJ cZ bd) A res) args s 0 0 A) (F0 m 21 ls [])) (x1 : Int32) (x2 : Int32) (u : Mod) (H : Heap) (locs : List Loc) (ls : Array Slot) (hP : va_P D cl9 ((cM cI cJ cZ bd) u) H) (hD : va_D A ((cM cI cJ cZ bd) u)) (hS : va_S A s.heap H locs) (hl : lv_has ls 5 [(0, .ref (bd 0)), (1, .int x1), (2, .int x2)]) (hM : B_M_least_21s k21 x1 x2 u = some res) : W p l e rm_M_least s m args below meth c H locs 0 0 (MQ below (Qwi D cl9 (tyy cI cJ cZ) (cM cI cJ cZ bd) A res) args s 0 0 A) (F0 m 21 ls []) := by
  have C0 := C
  obtain ⟨hx, hb, hr, hml, hown, hts, hlocks, hK, hA⟩ := C
  replace C := C0
  unfold B_M_least_21s at hM
  refine lv_iload_n hx hb d_M_least_21 rfl (lv_at hl 2 rfl) ?_
  refine lv_aload_n hx hb d_M_least_22 rfl (lv_at hl 0 rfl) ?_
  refine va_get (D := D) (ci := 3) (v := .int (m_ct u)) (C := R_M) (T := T_M) (N := 21) hx hb hts in_M hown hK hP 0 rfl rfl 5 (by decide) (hts _ mm_354) (fun _ h9 => h9) rfl d_M_least_23 ?_
  refine lv_icmp_ge (tgt := 106) hx hb d_M_least_26 (by decide) (fun c1 => ?_) (fun c1 => ?_)
  · replace hM := it_t c1 hM
    refine lv_iload_n hx hb d_M_least_106 rfl (lv_at hl 1 rfl) ?_
    obtain rfl := Option.some.inj hM
    exact W.iret (v := x1) hx hb hr (fun t ht hW => ⟨⟨x1, u, rfl, rfl, by rw [ht]; exact hP, va_K.moved hW.alike hK, hD⟩, hS.F ht⟩) hS.2.2 d_M_least_107
  · replace hM := it_f c1 hM
    refine lv_iconst (v := (-1 : Int32)) hx hb d_M_least_29 (by decide) ?_
    refine lv_istore_n (lv' := [(3, .int (-1 : Int32)), (0, .ref (bd 0)), (1, .int x1), (2, .int x2)]) hx hb d_M_least_30 rfl hl (by decide) rfl (fun ls hl => ?_)
    exact w_M_least_31 C hk21 FU x1 x2 (-1 : Int32) u H locs ls hP hD hS (lv_sub hl [1, 2, 3, 0] rfl) hM
theorem w_M_least_21 {res : (Int32 × Mod)} (C : Cx p s m args meth c prog_5_method_29_code 5 (Option.some FieldType.int) "PlainLibraryModel" tb D cl9 (tyy cI cJ cZ) A) : ∀ (fu : Nat) (x1 : Int32) (x2 : Int32) (u : Mod) (H : Heap) (locs : List Loc) (ls : Array Slot), va_P D cl9 ((cM cI cJ cZ bd) u) H → va_D A ((cM cI cJ cZ bd) u) → va_S A s.heap H locs → lv_has ls 5 [(0, .ref (bd 0)), (1, .int x1), (2, .int x2)] → B_M_least_21 fu x1 x2 u = some res → W p l e rm_M_least s m args below meth c H locs 0 0 (MQ below (Qwi D cl9 (tyy cI cJ cZ) (cM cI cJ cZ bd) A res) args s 0 0 A) (F0 m 21 ls []) := by
  intro fu
  induction fu with
  | zero =>
    intro x1 x2 u H locs ls hP hD hS hl hM
    have hM : (none : Option (Int32 × Mod)) = some res := hM
    cases hM
  | succ fu ih =>
    intro x1 x2 u H locs ls hP hD hS hl hM
    exact w_M_least_21s C ih x1 x2 u H locs ls hP hD hS hl hM
set_option maxHeartbeats 4000000 in
set_option maxRecDepth 100000 in
theorem w_M_least_0 {res : (Int32 × Mod)} (C : Cx p s m args meth c prog_5_method_29_code 5 (Option.some FieldType.int) "PlainLibraryModel" tb D cl9 (tyy cI cJ cZ) A) (u : Mod) (H : Heap) (locs : List Loc) (ls : Array Slot) (hP : va_P D cl9 ((cM cI cJ cZ bd) u) H) (hD : va_D A ((cM cI cJ cZ bd) u)) (hS : va_S A s.heap H locs) (hl : lv_has ls 5 [(0, .ref (bd 0))]) (hM : B_M_least_0 u = some res) : W p l e rm_M_least s m args below meth c H locs 0 0 (MQ below (Qwi D cl9 (tyy cI cJ cZ) (cM cI cJ cZ bd) A res) args s 0 0 A) (F0 m 0 ls []) := by
  have C0 := C
  obtain ⟨hx, hb, hr, hml, hown, hts, hlocks, hK, hA⟩ := C
  replace C := C0
  unfold B_M_least_0 at hM
  refine lv_aload_n hx hb d_M_least_0 rfl (lv_at hl 0 rfl) ?_
  refine lv_iconst (v := (0 : Int32)) hx hb d_M_least_1 (by decide) ?_
  refine va_put (D := D) (ci := 3) (v := .int (0 : Int32)) (ty := .int) (C := R_M) (T := T_M) (N := 21) hx hb hts in_M ty_M tk_M nm_M hown hK hP hD hS 0 rfl rfl 0 (by decide) (hts _ mm_349) (fun _ h9 => h9) rfl (by decide +kernel) rfl rfl (Nat.le_of_ble_eq_true rfl) d_M_least_2 (fun H locs hP hD hS => ?_)
  have hP : va_P D cl9 ((cM cI cJ cZ bd) (m_th_w u (0 : Int32))) H := reP (zcM_th cI cJ cZ bd u (0 : Int32)) hP
  have hD : va_D A ((cM cI cJ cZ bd) (m_th_w u (0 : Int32))) := reD (zcM_th cI cJ cZ bd u (0 : Int32)) hD
  refine lv_aload_n hx hb d_M_least_5 rfl (lv_at hl 0 rfl) ?_
  refine va_get (D := D) (ci := 3) (v := .int (m_ct (m_th_w u (0 : Int32)))) (C := R_M) (T := T_M) (N := 21) hx hb hts in_M hown hK hP 0 rfl rfl 5 (by decide) (hts _ mm_354) (fun _ h9 => h9) rfl d_M_least_6 ?_
  refine lv_bipush (v := (30 : Int32)) hx hb d_M_least_9 (by decide) ?_
  refine lv_icmp_le (tgt := 17) hx hb d_M_least_11 (by decide) (fun c1 => ?_) (fun c1 => ?_)
  · replace hM := it_t c1 hM
    refine lv_iconst (v := (3 : Int32)) hx hb d_M_least_17 (by decide) ?_
    refine lv_istore_n (lv' := [(1, .int (3 : Int32)), (0, .ref (bd 0))]) hx hb d_M_least_18 rfl hl (by decide) rfl (fun ls hl => ?_)
    refine lv_iconst (v := (-1 : Int32)) hx hb d_M_least_19 (by decide) ?_
    refine lv_istore_n (lv' := [(2, .int (-1 : Int32)), (1, .int (3 : Int32)), (0, .ref (bd 0))]) hx hb d_M_least_20 rfl hl (by decide) rfl (fun ls hl => ?_)
    exact w_M_least_21 C FU (3 : Int32) (-1 : Int32) (m_th_w u (0 : Int32)) H locs ls hP hD hS (lv_sub hl [2, 1, 0] rfl) hM
  · replace hM := it_f c1 hM
    refine lv_bipush (v := (-9 : Int32)) hx hb d_M_least_14 (by decide) ?_
    obtain rfl := Option.some.inj hM
    exact W.iret (v := (-9 : Int32)) hx hb hr (fun t ht hW => ⟨⟨(-9 : Int32), (m_th_w u (0 : Int32)), rfl, rfl, by rw [ht]; exact hP, va_K.moved hW.alike hK, hD⟩, hS.F ht⟩) hS.2.2 d_M_least_16
end
set_option maxRecDepth 100000 in
theorem c_M_least (l : Launch) (D : va_G) (cI cJ cZ : ClassId) (bd : Nat → Nat) (sz : Nat) (u : Mod) (res : (Int32 × Mod)) (hM : B_M_least_0 u = some res) : Met l y_M_least ws_M_least rm_M_least (va_Pc [.ref (bd 0)] (pr_ D cl9 (tyy cI cJ cZ) (cM cI cJ cZ bd) u sz)) (Qwi D cl9 (tyy cI cJ cZ) (cM cI cJ cZ bd) (va_A ((cM cI cJ cZ bd) u) sz) res) 0 0 (va_A ((cM cI cJ cZ bd) u) sz) := by
  refine Met.ofW (cc := prog_5_method_29_code) (maxL := 5) (ret := (Option.some FieldType.int)) (by decide) rfl ?_
  intro p e s m args below meth c s₁ B hml hv
  obtain ⟨rfl, hsz, hP, hK, hD0⟩ := hv
  subst hsz
  have hts0 := atoms_spec (ws := ws_M_least) B.pre
  have hl := lv_entry ([.ref (bd 0)]) (n := 5) (Nat.le_of_ble_eq_true rfl)
  rw [lg_entry_eq]
  generalize (lg_sl ([.ref (bd 0)]) ++ List.replicate (5 - (lg_sl ([.ref (bd 0)])).length) Slot.unset).toArray = ls at hl ⊢
  exact w_M_least_0 ⟨B.exec, B.bytes, B.returns, hml, findClass_of_methodNamed B.named, fun w h => hts0 w (List.mem_cons_of_mem _ h), B.notSynchronized, hK, fun q h => Or.inr h⟩ u s.heap [] ls hP hD0.self va_S.rf hl hM
