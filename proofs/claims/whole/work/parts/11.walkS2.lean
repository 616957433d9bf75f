section
variable {p : Program} {l : Launch} {e : Env} {s : State} {m : MethodId} {args : Array Value} {below : List Frame} {meth : Method} {c : Code} {D : va_G} {cI cJ cZ : ClassId} {A : Nat → Prop} {ad : Nat → Nat}
set_option maxHeartbeats 4000000 in
set_option maxRecDepth 100000 in
theorem w_S_giveBack_0 {res : (Int32 × Lib)} (C : Cx p s m args meth c prog_3_method_22_code 2 (Option.some FieldType.boolean) "PlainLibrary$Shelves" tb D cl9 (tyy cI cJ cZ) A) (x1 : Int32) (u : Lib) (H : Heap) (locs : List Loc) (ls : Array Slot) (hP : va_P D cl9 ((cL cI cJ cZ ad) u) H) (hD : va_D A ((cL cI cJ cZ ad) u)) (hS : va_S A s.heap H locs) (hl : lv_has ls 2 [(0, .ref (ad 6)), (1, .int x1)]) (hM : B_S_giveBack_0 x1 u = some res) : W p l e rm_S_giveBack s m args below meth c H locs 0 0 (MQ below (Qwi D cl9 (tyy cI cJ cZ) (cL cI cJ cZ ad) A res) args s 0 0 A) (F0 m 0 ls []) := by
  have C0 := C
  obtain ⟨hx, hb, hr, hml, hown, hts, hlocks, hK, hA⟩ := C
  replace C := C0
  unfold B_S_giveBack_0 at hM
  refine lv_aload_n hx hb d_S_giveBack_0 rfl (lv_at hl 0 rfl) ?_
  refine va_get (D := D) (ci := 1) (v := .ref (ad 9)) (C := R_S) (T := T_S) (N := 9) hx hb hts in_S hown hK hP 6 rfl rfl 2 (by decide) (hts _ mm_74) (fun _ h9 => h9) rfl d_S_giveBack_1 ?_
  refine lv_iload_n hx hb d_S_giveBack_4 rfl (lv_at hl 1 rfl) ?_
  obtain ⟨h1, hM⟩ := gd_some hM
  refine va_iald hx hb hK hP 9 0 rfl rfl (vp_in_iff.mpr h1) d_S_giveBack_5 ?_
  refine lv_if_ne (tgt := 11) hx hb d_S_giveBack_6 (by decide) (fun c2 => ?_) (fun c2 => ?_)
  · replace hM := it_f c2 hM
    refine lv_aload_n hx hb d_S_giveBack_11 rfl (lv_at hl 0 rfl) ?_
    refine va_get (D := D) (ci := 1) (v := .ref (ad 9)) (C := R_S) (T := T_S) (N := 9) hx hb hts in_S hown hK hP 6 rfl rfl 2 (by decide) (hts _ mm_74) (fun _ h9 => h9) rfl d_S_giveBack_12 ?_
    refine lv_iload_n hx hb d_S_giveBack_15 rfl (lv_at hl 1 rfl) ?_
    refine lv_iconst (v := (0 : Int32)) hx hb d_S_giveBack_16 (by decide) ?_
    obtain ⟨h3, hM⟩ := gd_some hM
    refine va_iast hx hb hK hP hD hS 9 0 rfl rfl (vp_in_iff.mpr h3) d_S_giveBack_17 (fun H locs hP hD hS => ?_)
    have hP : va_P D cl9 ((cL cI cJ cZ ad) (l_per_w u (upd (l_per u) x1.toNatClampNeg (0 : Int32)))) H := reP (zcL_per cI cJ cZ ad u (upd (l_per u) x1.toNatClampNeg (0 : Int32))) hP
    have hD : va_D A ((cL cI cJ cZ ad) (l_per_w u (upd (l_per u) x1.toNatClampNeg (0 : Int32)))) := reD (zcL_per cI cJ cZ ad u (upd (l_per u) x1.toNatClampNeg (0 : Int32))) hD
    refine lv_iconst (v := (1 : Int32)) hx hb d_S_giveBack_18 (by decide) ?_
    obtain rfl := Option.some.inj hM
    exact W.zret (v := (1 : Int32)) hx hb hr rfl (fun t ht hW => ⟨⟨(1 : Int32), (l_per_w u (upd (l_per u) x1.toNatClampNeg (0 : Int32))), rfl, rfl, by rw [ht]; exact hP, va_K.moved hW.alike hK, hD⟩, hS.F ht⟩) hS.2.2 d_S_giveBack_19
  · replace hM := it_t c2 hM
    refine lv_iconst (v := (0 : Int32)) hx hb d_S_giveBack_9 (by decide) ?_
    obtain rfl := Option.some.inj hM
    exact W.zret (v := (0 : Int32)) hx hb hr rfl (fun t ht hW => ⟨⟨(0 : Int32), u, rfl, rfl, by rw [ht]; exact hP, va_K.moved hW.alike hK, hD⟩, hS.F ht⟩) hS.2.2 d_S_giveBack_10
end
set_option maxRecDepth 100000 in
theorem c_S_giveBack (l : Launch) (D : va_G) (cI cJ cZ : ClassId) (ad : Nat → Nat) (sz : Nat) (x1 : Int32) (u : Lib) (res : (Int32 × Lib)) (hM : B_S_giveBack_0 x1 u = some res) : Met l y_S_giveBack ws_S_giveBack rm_S_giveBack (va_Pc [.ref (ad 6), .int x1] (pr_ D cl9 (tyy cI cJ cZ) (cL cI cJ cZ ad) u sz)) (Qwi D cl9 (tyy cI cJ cZ) (cL cI cJ cZ ad) (va_A ((cL cI cJ cZ ad) u) sz) res) 0 0 (va_A ((cL cI cJ cZ ad) u) sz) := by
  refine Met.ofW (cc := prog_3_method_22_code) (maxL := 2) (ret := (Option.some FieldType.boolean)) (by decide) rfl ?_
  intro p e s m args below meth c s₁ B hml hv
  obtain ⟨rfl, hsz, hP, hK, hD0⟩ := hv
  subst hsz
  have hts0 := atoms_spec (ws := ws_S_giveBack) B.pre
  have hl := lv_entry ([.ref (ad 6), .int x1]) (n := 2) (Nat.le_of_ble_eq_true rfl)
  rw [lg_entry_eq]
  generalize (lg_sl ([.ref (ad 6), .int x1]) ++ List.replicate (2 - (lg_sl ([.ref (ad 6), .int x1])).length) Slot.unset).toArray = ls at hl ⊢
  exact w_S_giveBack_0 ⟨B.exec, B.bytes, B.returns, hml, findClass_of_methodNamed B.named, fun w h => hts0 w (List.mem_cons_of_mem _ h), B.notSynchronized, hK, fun q h => Or.inr h⟩ x1 u s.heap [] ls hP hD0.self va_S.rf hl hM
section
variable {p : Program} {l : Launch} {e : Env} {s : State} {m : MethodId} {args : Array Value} {below : List Frame} {meth : Method} {c : Code} {D : va_G} {cI cJ cZ : ClassId} {A : Nat → Prop} {ad : Nat → Nat}
set_option maxHeartbeats 4000000 in
set_option maxRecDepth 100000 in
theorem w_S_joinQueue_0 {res : (Int32 × Lib)} (C : Cx p s m args meth c prog_3_method_24_code 4 (Option.some FieldType.boolean) "PlainLibrary$Shelves" tb D cl9 (tyy cI cJ cZ) A) (x1 : Int32) (x2 : Int32) (u : Lib) (H : Heap) (locs : List Loc) (ls : Array Slot) (hP : va_P D cl9 ((cL cI cJ cZ ad) u) H) (hD : va_D A ((cL cI cJ cZ ad) u)) (hS : va_S A s.heap H locs) (hl : lv_has ls 4 [(0, .ref (ad 6)), (1, .int x1), (2, .int x2)]) (hM : B_S_joinQueue_0 x1 x2 u = some res) : W p l e rm_S_joinQueue s m args below meth c H locs 0 0 (MQ below (Qwi D cl9 (tyy cI cJ cZ) (cL cI cJ cZ ad) A res) args s 0 0 A) (F0 m 0 ls []) := by
  have C0 := C
  obtain ⟨hx, hb, hr, hml, hown, hts, hlocks, hK, hA⟩ := C
  replace C := C0
  unfold B_S_joinQueue_0 at hM
  refine lv_aload_n hx hb d_S_joinQueue_0 rfl (lv_at hl 0 rfl) ?_
  refine va_get (D := D) (ci := 1) (v := .ref (ad 12)) (C := R_S) (T := T_S) (N := 9) hx hb hts in_S hown hK hP 6 rfl rfl 5 (by decide) (hts _ mm_77) (fun _ h9 => h9) rfl d_S_joinQueue_1 ?_
  refine lv_iload_n hx hb d_S_joinQueue_4 rfl (lv_at hl 1 rfl) ?_
  obtain ⟨h1, hM⟩ := gd_some hM
  refine va_iald hx hb hK hP 12 0 rfl rfl (vp_in_iff.mpr h1) d_S_joinQueue_5 ?_
  refine lv_istore_n (lv' := [(3, .int ((l_ql u) x1.toNatClampNeg)), (0, .ref (ad 6)), (1, .int x1), (2, .int x2)]) hx hb d_S_joinQueue_6 rfl hl (by decide) rfl (fun ls hl => ?_)
  refine lv_iload_n hx hb d_S_joinQueue_7 rfl (lv_at hl 0 rfl) ?_
  refine lv_bipush (v := (20 : Int32)) hx hb d_S_joinQueue_8 (by decide) ?_
  refine lv_icmp_ge (tgt := 23) hx hb d_S_joinQueue_10 (by decide) (fun c2 => ?_) (fun c2 => ?_)
  · replace hM := it_t c2 hM
    refine lv_iconst (v := (0 : Int32)) hx hb d_S_joinQueue_23 (by decide) ?_
    obtain rfl := Option.some.inj hM
    exact W.zret (v := (0 : Int32)) hx hb hr rfl (fun t ht hW => ⟨⟨(0 : Int32), u, rfl, rfl, by rw [ht]; exact hP, va_K.moved hW.alike hK, hD⟩, hS.F ht⟩) hS.2.2 d_S_joinQueue_24
  · replace hM := it_f c2 hM
    refine lv_aload_n hx hb d_S_joinQueue_13 rfl (lv_at hl 1 rfl) ?_
    refine lv_iload_n hx hb d_S_joinQueue_14 rfl (lv_at hl 2 rfl) ?_
    refine lv_iload_n hx hb d_S_joinQueue_15 rfl (lv_at hl 3 rfl) ?_
    obtain ⟨v3, hq3, hM⟩ := bd_some hM
    refine fr_i (res := v3) (va_runV (As := [.int x1, .int x2]) (rest := []) ⟨hx, hb, hml, hown, hts⟩ (c_S_placeInQueue l D cI cJ cZ ad H.size x1 x2 u v3 hq3) (cwV 2 hts (gV mm_204 mm_206 (ms_ 6 rfl rfl) mm_29 mm_207) rfl rfl rfl hd_S_placeInQueue ⟨Nat.le_of_ble_eq_true rfl, Nat.le_of_ble_eq_true rfl⟩) (pv_ (F := (cL cI cJ cZ ad)) (u := u) hK hP hD (va_recv hK hP (ci := 1) (q0 := 6) rfl rfl)) rfl rfl hl.1 rfl (lv_room (Nat.le_of_ble_eq_true rfl)) d_S_joinQueue_16 ⟨Nat.le_of_ble_eq_true rfl, Nat.le_of_ble_eq_true rfl⟩) hP hS hA (fun H locs hP hS => ?_)
    refine lv_iconst (v := (-1 : Int32)) hx hb d_S_joinQueue_19 (by decide) ?_
    refine lv_icmp_eq (tgt := 25) hx hb d_S_joinQueue_20 (by decide) (fun c4 => ?_) (fun c4 => ?_)
    · replace hM := it_t c4 hM
      refine lv_aload_n hx hb d_S_joinQueue_25 rfl (lv_at hl 1 rfl) ?_
      refine va_get (D := D) (ci := 1) (v := .ref (ad 11)) (C := R_S) (T := T_S) (N := 9) hx hb hts in_S hown hK hP 6 rfl rfl 4 (by decide) (hts _ mm_76) (fun _ h9 => h9) rfl d_S_joinQueue_26 ?_
      refine lv_iload_n hx hb d_S_joinQueue_29 rfl (lv_at hl 2 rfl) ?_
      refine lv_bipush (v := (20 : Int32)) hx hb d_S_joinQueue_30 (by decide) ?_
      refine lv_imul hx hb d_S_joinQueue_32 ?_
      refine lv_iload_n hx hb d_S_joinQueue_33 rfl (lv_at hl 0 rfl) ?_
      refine lv_iadd hx hb d_S_joinQueue_34 ?_
      refine lv_iload_n hx hb d_S_joinQueue_35 rfl (lv_at hl 3 rfl) ?_
      obtain ⟨h5, hM⟩ := gd_some hM
      refine va_iast hx hb hK hP hD hS 11 0 rfl rfl (vp_in_iff.mpr h5) d_S_joinQueue_36 (fun H locs hP hD hS => ?_)
      have hP : va_P D cl9 ((cL cI cJ cZ ad) (l_qd_w u (upd (l_qd u) ((x1 * (20 : Int32)) + ((l_ql u) x1.toNatClampNeg)).toNatClampNeg x2))) H := reP (zcL_qd cI cJ cZ ad u (upd (l_qd u) ((x1 * (20 : Int32)) + ((l_ql u) x1.toNatClampNeg)).toNatClampNeg x2)) hP
      have hD : va_D A ((cL cI cJ cZ ad) (l_qd_w u (upd (l_qd u) ((x1 * (20 : Int32)) + ((l_ql u) x1.toNatClampNeg)).toNatClampNeg x2))) := reD (zcL_qd cI cJ cZ ad u (upd (l_qd u) ((x1 * (20 : Int32)) + ((l_ql u) x1.toNatClampNeg)).toNatClampNeg x2)) hD
      refine lv_aload_n hx hb d_S_joinQueue_37 rfl (lv_at hl 1 rfl) ?_
      refine va_get (D := D) (ci := 1) (v := .ref (ad 12)) (C := R_S) (T := T_S) (N := 9) hx hb hts in_S hown hK hP 6 rfl rfl 5 (by decide) (hts _ mm_77) (fun _ h9 => h9) rfl d_S_joinQueue_38 ?_
      refine lv_iload_n hx hb d_S_joinQueue_41 rfl (lv_at hl 2 rfl) ?_
      refine lv_iload_n hx hb d_S_joinQueue_42 rfl (lv_at hl 0 rfl) ?_
      refine lv_iconst (v := (1 : Int32)) hx hb d_S_joinQueue_43 (by decide) ?_
      refine lv_iadd hx hb d_S_joinQueue_44 ?_
      obtain ⟨h6, hM⟩ := gd_some hM
      refine va_iast hx hb hK hP hD hS 12 0 rfl rfl (vp_in_iff.mpr h6) d_S_joinQueue_45 (fun H locs hP hD hS => ?_)
      have hP : va_P D cl9 ((cL cI cJ cZ ad) (l_ql_w (l_qd_w u (upd (l_qd u) ((x1 * (20 : Int32)) + ((l_ql u) x1.toNatClampNeg)).toNatClampNeg x2)) (upd (l_ql (l_qd_w u (upd (l_qd u) ((x1 * (20 : Int32)) + ((l_ql u) x1.toNatClampNeg)).toNatClampNeg x2))) x1.toNatClampNeg (((l_ql u) x1.toNatClampNeg) + (1 : Int32))))) H := reP (zcL_ql cI cJ cZ ad (l_qd_w u (upd (l_qd u) ((x1 * (20 : Int32)) + ((l_ql u) x1.toNatClampNeg)).toNatClampNeg x2)) (upd (l_ql (l_qd_w u (upd (l_qd u) ((x1 * (20 : Int32)) + ((l_ql u) x1.toNatClampNeg)).toNatClampNeg x2))) x1.toNatClampNeg (((l_ql u) x1.toNatClampNeg) + (1 : Int32)))) hP
      have hD : va_D A ((cL cI cJ cZ ad) (l_ql_w (l_qd_w u (upd (l_qd u) ((x1 * (20 : Int32)) + ((l_ql u) x1.toNatClampNeg)).toNatClampNeg x2)) (upd (l_ql (l_qd_w u (upd (l_qd u) ((x1 * (20 : Int32)) + ((l_ql u) x1.toNatClampNeg)).toNatClampNeg x2))) x1.toNatClampNeg (((l_ql u) x1.toNatClampNeg) + (1 : Int32))))) := reD (zcL_ql cI cJ cZ ad (l_qd_w u (upd (l_qd u) ((x1 * (20 : Int32)) + ((l_ql u) x1.toNatClampNeg)).toNatClampNeg x2)) (upd (l_ql (l_qd_w u (upd (l_qd u) ((x1 * (20 : Int32)) + ((l_ql u) x1.toNatClampNeg)).toNatClampNeg x2))) x1.toNatClampNeg (((l_ql u) x1.toNatClampNeg) + (1 : Int32)))) hD
      obtain ⟨u7, hu7, hM⟩ := bd_some hM
      rw [Option.some.inj hu7] at hP hD
      refine lv_iconst (v := (1 : Int32)) hx hb d_S_joinQueue_46 (by decide) ?_
      obtain rfl := Option.some.inj hM
      exact W.zret (v := (1 : Int32)) hx hb hr rfl (fun t ht hW => ⟨⟨(1 : Int32), u7, rfl, rfl, by rw [ht]; exact hP, va_K.moved hW.alike hK, hD⟩, hS.F ht⟩) hS.2.2 d_S_joinQueue_47
    · replace hM := it_f c4 hM
      refine lv_iconst (v := (0 : Int32)) hx hb d_S_joinQueue_23 (by decide) ?_
      obtain rfl := Option.some.inj hM
      exact W.zret (v := (0 : Int32)) hx hb hr rfl (fun t ht hW => ⟨⟨(0 : Int32), u, rfl, rfl, by rw [ht]; exact hP, va_K.moved hW.alike hK, hD⟩, hS.F ht⟩) hS.2.2 d_S_joinQueue_24
end
set_option maxRecDepth 100000 in
theorem c_S_joinQueue (l : Launch) (D : va_G) (cI cJ cZ : ClassId) (ad : Nat → Nat) (sz : Nat) (x1 : Int32) (x2 : Int32) (u : Lib) (res : (Int32 × Lib)) (hM : B_S_joinQueue_0 x1 x2 u = some res) : Met l y_S_joinQueue ws_S_joinQueue rm_S_joinQueue (va_Pc [.ref (ad 6), .int x1, .int x2] (pr_ D cl9 (tyy cI cJ cZ) (cL cI cJ cZ ad) u sz)) (Qwi D cl9 (tyy cI cJ cZ) (cL cI cJ cZ ad) (va_A ((cL cI cJ cZ ad) u) sz) res) 0 0 (va_A ((cL cI cJ cZ ad) u) sz) := by
  refine Met.ofW (cc := prog_3_method_24_code) (maxL := 4) (ret := (Option.some FieldType.boolean)) (by decide) rfl ?_
  intro p e s m args below meth c s₁ B hml hv
  obtain ⟨rfl, hsz, hP, hK, hD0⟩ := hv
  subst hsz
  have hts0 := atoms_spec (ws := ws_S_joinQueue) B.pre
  have hl := lv_entry ([.ref (ad 6), .int x1, .int x2]) (n := 4) (Nat.le_of_ble_eq_true rfl)
  rw [lg_entry_eq]
  generalize (lg_sl ([.ref (ad 6), .int x1, .int x2]) ++ List.replicate (4 - (lg_sl ([.ref (ad 6), .int x1, .int x2])).length) Slot.unset).toArray = ls at hl ⊢
  exact w_S_joinQueue_0 ⟨B.exec, B.bytes, B.returns, hml, findClass_of_methodNamed B.named, fun w h => hts0 w (List.mem_cons_of_mem _ h), B.notSynchronized, hK, fun q h => Or.inr h⟩ x1 x2 u s.heap [] ls hP hD0.self va_S.rf hl hM
section
variable {p : Program} {l : Launch} {e : Env} {s : State} {m : MethodId} {args : Array Value} {below : List Frame} {meth : Method} {c : Code} {D : va_G} {cI cJ cZ : ClassId} {A : Nat → Prop}
set_option maxHeartbeats 4000000 in
set_option maxRecDepth 100000 in
theorem w_S_sumIndex_0 {res : Int32} (C : Cx p s m args meth c prog_3_method_15_code 2 (Option.some FieldType.int) "PlainLibrary$Shelves" tb D cl9 (tyy cI cJ cZ) A) (x0 : Int32) (x1 : Int32) (H : Heap) (locs : List Loc) (ls : Array Slot) (hP : va_P D cl9 (nW ()) H) (hD : va_D (fun _ => True) (nW ())) (hS : va_S A s.heap H locs) (hl : lv_has ls 2 [(0, .int x0), (1, .int x1)]) (hM : B_S_sumIndex_0 x0 x1 = some res) : W p l e rm_S_sumIndex s m args below meth c H locs 0 0 (MQ below (Qri A res) args s 0 0 A) (F0 m 0 ls []) := by
  have C0 := C
  obtain ⟨hx, hb, hr, hml, hown, hts, hlocks, hK, hA⟩ := C
  replace C := C0
  unfold B_S_sumIndex_0 at hM
  refine lv_iload_n hx hb d_S_sumIndex_0 rfl (lv_at hl 0 rfl) ?_
  refine lv_bipush (v := (6 : Int32)) hx hb d_S_sumIndex_1 (by decide) ?_
  refine lv_imul hx hb d_S_sumIndex_3 ?_
  refine lv_iload_n hx hb d_S_sumIndex_4 rfl (lv_at hl 1 rfl) ?_
  refine lv_iadd hx hb d_S_sumIndex_5 ?_
  obtain rfl := Option.some.inj hM
  exact W.iret (v := ((x0 * (6 : Int32)) + x1)) hx hb hr (fun t ht hW => ⟨⟨((x0 * (6 : Int32)) + x1), (), rfl, rfl, trivial⟩, hS.F ht⟩) hS.2.2 d_S_sumIndex_6
end
set_option maxRecDepth 100000 in
theorem c_S_sumIndex (l : Launch) (D : va_G) (cI cJ cZ : ClassId) (sz : Nat) (x0 : Int32) (x1 : Int32) (res : Int32) (hM : B_S_sumIndex_0 x0 x1 = some res) : Met l y_S_sumIndex ws_S_sumIndex rm_S_sumIndex (va_Pc [.int x0, .int x1] (pr_ D cl9 (tyy cI cJ cZ) nW () sz)) (Qri (va_A [] sz) res) 0 0 (va_A [] sz) := by
  refine Met.ofW (cc := prog_3_method_15_code) (maxL := 2) (ret := (Option.some FieldType.int)) (by decide) rfl ?_
  intro p e s m args below meth c s₁ B hml hv
  obtain ⟨rfl, hsz, hP, hK, hD0⟩ := hv
  subst hsz
  have hts0 := atoms_spec (ws := ws_S_sumIndex) B.pre
  have hl := lv_entry ([.int x0, .int x1]) (n := 2) (Nat.le_of_ble_eq_true rfl)
  rw [lg_entry_eq]
  generalize (lg_sl ([.int x0, .int x1]) ++ List.replicate (2 - (lg_sl ([.int x0, .int x1])).length) Slot.unset).toArray = ls at hl ⊢
  exact w_S_sumIndex_0 ⟨B.exec, B.bytes, B.returns, hml, findClass_of_methodNamed B.named, fun w h => hts0 w (List.mem_cons_of_mem _ h), B.notSynchronized, hK, fun q h => Or.inr h⟩ x0 x1 s.heap [] ls hP hD0 va_S.rf hl hM
section
variable {p : Program} {l : Launch} {e : Env} {s : State} {m : MethodId} {args : Array Value} {below : List Frame} {meth : Method} {c : Code} {D : va_G} {cI cJ cZ : ClassId} {A : Nat → Prop} {ad : Nat → Nat}
set_option maxHeartbeats 4000000 in
set_option maxRecDepth 100000 in
theorem w_S_loseFile_0 {res : (Int32 × Lib)} (C : Cx p s m args meth c prog_3_method_26_code 4 (Option.some FieldType.boolean) "PlainLibrary$Shelves" tb D cl9 (tyy cI cJ cZ) A) (x1 : Int32) (x2 : Int32) (u : Lib) (H : Heap) (locs : List Loc) (ls : Array Slot) (hP : va_P D cl9 ((cL cI cJ cZ ad) u) H) (hD : va_D A ((cL cI cJ cZ ad) u)) (hS : va_S A s.heap H locs) (hl : lv_has ls 4 [(0, .ref (ad 6)), (1, .int x1), (2, .int x2)]) (hM : B_S_loseFile_0 x1 x2 u = some res) : W p l e rm_S_loseFile s m args below meth c H locs 0 0 (MQ below (Qwi D cl9 (tyy cI cJ cZ) (cL cI cJ cZ ad) A res) args s 0 0 A) (F0 m 0 ls []) := by
  have C0 := C
  obtain ⟨hx, hb, hr, hml, hown, hts, hlocks, hK, hA⟩ := C
  replace C := C0
  unfold B_S_loseFile_0 at hM
  refine lv_iload_n hx hb d_S_loseFile_0 rfl (lv_at hl 1 rfl) ?_
  refine lv_iload_n hx hb d_S_loseFile_1 rfl (lv_at hl 2 rfl) ?_
  obtain ⟨v1, hq1, hM⟩ := bd_some hM
  refine fr_i (res := v1) (va_runS (As := [.int x1, .int x2]) (rest := []) ⟨hx, hb, hml, hown, hts⟩ (c_S_sumIndex l D cI cJ cZ H.size x1 x2 v1 hq1) (va_cwS 2 hts (gS mm_217 mm_218 mm_29 mm_219) rfl rfl rfl hs_S_sumIndex ⟨Nat.le_of_ble_eq_true rfl, Nat.le_of_ble_eq_true rfl⟩) (ps_ (F := nW) (u := ()) hK nP (nD (A := fun _ => True))) rfl rfl hl.1 rfl (lv_room (Nat.le_of_ble_eq_true rfl)) d_S_loseFile_2 ⟨Nat.le_of_ble_eq_true rfl, Nat.le_of_ble_eq_true rfl⟩) hP hS hA (fun H locs hP hS => ?_)
  refine lv_istore_n (lv' := [(3, .int v1), (0, .ref (ad 6)), (1, .int x1), (2, .int x2)]) hx hb d_S_loseFile_5 rfl hl (by decide) rfl (fun ls hl => ?_)
  refine lv_aload_n hx hb d_S_loseFile_6 rfl (lv_at hl 1 rfl) ?_
  refine va_get (D := D) (ci := 1) (v := .ref (ad 15)) (C := R_S) (T := T_S) (N := 9) hx hb hts in_S hown hK hP 6 rfl rfl 8 (by decide) (hts _ mm_80) (fun _ h9 => h9) rfl d_S_loseFile_7 ?_
  refine lv_iload_n hx hb d_S_loseFile_10 rfl (lv_at hl 0 rfl) ?_
  obtain ⟨h2, hM⟩ := gd_some hM
  refine va_iald hx hb hK hP 15 0 rfl rfl (vp_in_iff.mpr h2) d_S_loseFile_11 ?_
  refine lv_iconst (v := (-1 : Int32)) hx hb d_S_loseFile_12 (by decide) ?_
  refine lv_icmp_ne (tgt := 18) hx hb d_S_loseFile_13 (by decide) (fun c3 => ?_) (fun c3 => ?_)
  · replace hM := it_f c3 hM
    refine lv_aload_n hx hb d_S_loseFile_18 rfl (lv_at hl 1 rfl) ?_
    refine va_get (D := D) (ci := 1) (v := .ref (ad 15)) (C := R_S) (T := T_S) (N := 9) hx hb hts in_S hown hK hP 6 rfl rfl 8 (by decide) (hts _ mm_80) (fun _ h9 => h9) rfl d_S_loseFile_19 ?_
    refine lv_iload_n hx hb d_S_loseFile_22 rfl (lv_at hl 0 rfl) ?_
    refine lv_iconst (v := (-1 : Int32)) hx hb d_S_loseFile_23 (by decide) ?_
    obtain ⟨h4, hM⟩ := gd_some hM
    refine va_iast hx hb hK hP hD hS 15 0 rfl rfl (vp_in_iff.mpr h4) d_S_loseFile_24 (fun H locs hP hD hS => ?_)
    have hP : va_P D cl9 ((cL cI cJ cZ ad) (l_sm_w u (upd (l_sm u) v1.toNatClampNeg (-1 : Int32)))) H := reP (zcL_sm cI cJ cZ ad u (upd (l_sm u) v1.toNatClampNeg (-1 : Int32))) hP
    have hD : va_D A ((cL cI cJ cZ ad) (l_sm_w u (upd (l_sm u) v1.toNatClampNeg (-1 : Int32)))) := reD (zcL_sm cI cJ cZ ad u (upd (l_sm u) v1.toNatClampNeg (-1 : Int32))) hD
    refine lv_iconst (v := (1 : Int32)) hx hb d_S_loseFile_25 (by decide) ?_
    obtain rfl := Option.some.inj hM
    exact W.zret (v := (1 : Int32)) hx hb hr rfl (fun t ht hW => ⟨⟨(1 : Int32), (l_sm_w u (upd (l_sm u) v1.toNatClampNeg (-1 : Int32))), rfl, rfl, by rw [ht]; exact hP, va_K.moved hW.alike hK, hD⟩, hS.F ht⟩) hS.2.2 d_S_loseFile_26
  · replace hM := it_t c3 hM
    refine lv_iconst (v := (0 : Int32)) hx hb d_S_loseFile_16 (by decide) ?_
    obtain rfl := Option.some.inj hM
    exact W.zret (v := (0 : Int32)) hx hb hr rfl (fun t ht hW => ⟨⟨(0 : Int32), u, rfl, rfl, by rw [ht]; exact hP, va_K.moved hW.alike hK, hD⟩, hS.F ht⟩) hS.2.2 d_S_loseFile_17
end
set_option maxRecDepth 100000 in
theorem c_S_loseFile (l : Launch) (D : va_G) (cI cJ cZ : ClassId) (ad : Nat → Nat) (sz : Nat) (x1 : Int32) (x2 : Int32) (u : Lib) (res : (Int32 × Lib)) (hM : B_S_loseFile_0 x1 x2 u = some res) : Met l y_S_loseFile ws_S_loseFile rm_S_loseFile (va_Pc [.ref (ad 6), .int x1, .int x2] (pr_ D cl9 (tyy cI cJ cZ) (cL cI cJ cZ ad) u sz)) (Qwi D cl9 (tyy cI cJ cZ) (cL cI cJ cZ ad) (va_A ((cL cI cJ cZ ad) u) sz) res) 0 0 (va_A ((cL cI cJ cZ ad) u) sz) := by
  refine Met.ofW (cc := prog_3_method_26_code) (maxL := 4) (ret := (Option.some FieldType.boolean)) (by decide) rfl ?_
  intro p e s m args below meth c s₁ B hml hv
  obtain ⟨rfl, hsz, hP, hK, hD0⟩ := hv
  subst hsz
  have hts0 := atoms_spec (ws := ws_S_loseFile) B.pre
  have hl := lv_entry ([.ref (ad 6), .int x1, .int x2]) (n := 4) (Nat.le_of_ble_eq_true rfl)
  rw [lg_entry_eq]
  generalize (lg_sl ([.ref (ad 6), .int x1, .int x2]) ++ List.replicate (4 - (lg_sl ([.ref (ad 6), .int x1, .int x2])).length) Slot.unset).toArray = ls at hl ⊢
  exact w_S_loseFile_0 ⟨B.exec, B.bytes, B.returns, hml, findClass_of_methodNamed B.named, fun w h => hts0 w (List.mem_cons_of_mem _ h), B.notSynchronized, hK, fun q h => Or.inr h⟩ x1 x2 u s.heap [] ls hP hD0.self va_S.rf hl hM
section
variable {p : Program} {l : Launch} {e : Env} {s : State} {m : MethodId} {args : Array Value} {below : List Frame} {meth : Method} {c : Code} {D : va_G} {cI cJ cZ : ClassId} {A : Nat → Prop} {ad : Nat → Nat}
set_option maxHeartbeats 4000000 in
set_option maxRecDepth 100000 in
theorem w_S_perform_0 {res : (Int32 × Lib)} (C : Cx p s m args meth c prog_3_method_3_code 6 (Option.some FieldType.boolean) "PlainLibrary$Shelves" tb D cl9 (tyy cI cJ cZ) A) (x1 : Int32) (x2 : Int32) (x3 : Int32) (y4 : Int64) (u : Lib) (H : Heap) (locs : List Loc) (ls : Array Slot) (hP : va_P D cl9 ((cL cI cJ cZ ad) u) H) (hD : va_D A ((cL cI cJ cZ ad) u)) (hS : va_S A s.heap H locs) (hl : lv_has ls 6 [(0, .ref (ad 6)), (1, .int x1), (2, .int x2), (3, .int x3), (4, .long y4)]) (hM : B_S_perform_0 x1 x2 x3 y4 u = some res) : W p l e rm_S_perform s m args below meth c H locs 0 0 (MQ below (Qwi D cl9 (tyy cI cJ cZ) (cL cI cJ cZ ad) A res) args s 0 0 A) (F0 m 0 ls []) := by
  have C0 := C
  obtain ⟨hx, hb, hr, hml, hown, hts, hlocks, hK, hA⟩ := C
  replace C := C0
  unfold B_S_perform_0 at hM
  refine lv_iload_n hx hb d_S_perform_0 rfl (lv_at hl 1 rfl) ?_
  by_cases c1 : x1 = (0 : Int32)
  · replace hM := it_t c1 hM
    refine lv_tableIn (off := 59) (tgt := 60) hx hb d_S_perform_1 (by rw [c1]; decide) (by rw [c1]; decide) (by rw [c1]; rfl) (by decide) ?_
    refine lv_aload_n hx hb d_S_perform_60 rfl (lv_at hl 0 rfl) ?_
    refine lv_iload_n hx hb d_S_perform_61 rfl (lv_at hl 2 rfl) ?_
    refine lv_iload_n hx hb d_S_perform_62 rfl (lv_at hl 3 rfl) ?_
    obtain ⟨v2, hq2, hM⟩ := bd_some hM
    refine fw_i (F := (cL cI cJ cZ ad)) (u := u) (res := v2) (va_runV (As := [.int x2, .int x3]) (rest := []) ⟨hx, hb, hml, hown, hts⟩ (c_S_addHeading l D cI cJ cZ ad H.size x2 x3 u v2 hq2) (cwV 2 hts (gV mm_169 mm_171 (ms_ 1 rfl rfl) mm_29 mm_172) rfl rfl rfl hd_S_addHeading ⟨Nat.le_of_ble_eq_true rfl, Nat.le_of_ble_eq_true rfl⟩) (pv_ (F := (cL cI cJ cZ ad)) (u := u) hK hP hD (va_recv hK hP (ci := 1) (q0 := 6) rfl rfl)) rfl rfl hl.1 rfl (lv_room (Nat.le_of_ble_eq_true rfl)) d_S_perform_63 ⟨Nat.le_of_ble_eq_true rfl, Nat.le_of_ble_eq_true rfl⟩) hS (fa_ hD hS hA) (fun H locs hP hD hS => ?_)
    obtain ⟨h3, hM⟩ := gd_some hM
    obtain rfl := Option.some.inj hM
    exact W.zret (v := v2.1) hx hb hr (nz_b h3) (fun t ht hW => ⟨⟨v2.1, v2.2, rfl, rfl, by rw [ht]; exact hP, va_K.moved hW.alike hK, hD⟩, hS.F ht⟩) hS.2.2 d_S_perform_66
  replace hM := it_f c1 hM
  by_cases c4 : x1 = (1 : Int32)
  · replace hM := it_t c4 hM
    refine lv_tableIn (off := 66) (tgt := 67) hx hb d_S_perform_1 (by rw [c4]; decide) (by rw [c4]; decide) (by rw [c4]; rfl) (by decide) ?_
    refine lv_aload_n hx hb d_S_perform_67 rfl (lv_at hl 0 rfl) ?_
    refine lv_iload_n hx hb d_S_perform_68 rfl (lv_at hl 2 rfl) ?_
    refine lv_iload_n hx hb d_S_perform_69 rfl (lv_at hl 3 rfl) ?_
    obtain ⟨v5, hq5, hM⟩ := bd_some hM
    refine fw_i (F := (cL cI cJ cZ ad)) (u := u) (res := v5) (va_runV (As := [.int x2, .int x3]) (rest := []) ⟨hx, hb, hml, hown, hts⟩ (c_S_dropHeading l D cI cJ cZ ad H.size x2 x3 u v5 hq5) (cwV 2 hts (gV mm_183 mm_185 (ms_ 2 rfl rfl) mm_29 mm_186) rfl rfl rfl hd_S_dropHeading ⟨Nat.le_of_ble_eq_true rfl, Nat.le_of_ble_eq_true rfl⟩) (pv_ (F := (cL cI cJ cZ ad)) (u := u) hK hP hD (va_recv hK hP (ci := 1) (q0 := 6) rfl rfl)) rfl rfl hl.1 rfl (lv_room (Nat.le_of_ble_eq_true rfl)) d_S_perform_70 ⟨Nat.le_of_ble_eq_true rfl, Nat.le_of_ble_eq_true rfl⟩) hS (fa_ hD hS hA) (fun H locs hP hD hS => ?_)
    obtain ⟨h6, hM⟩ := gd_some hM
    obtain rfl := Option.some.inj hM
    exact W.zret (v := v5.1) hx hb hr (nz_b h6) (fun t ht hW => ⟨⟨v5.1, v5.2, rfl, rfl, by rw [ht]; exact hP, va_K.moved hW.alike hK, hD⟩, hS.F ht⟩) hS.2.2 d_S_perform_73
  replace hM := it_f c4 hM
  by_cases c7 : x1 = (2 : Int32)
  · replace hM := it_t c7 hM
    refine lv_tableIn (off := 73) (tgt := 74) hx hb d_S_perform_1 (by rw [c7]; decide) (by rw [c7]; decide) (by rw [c7]; rfl) (by decide) ?_
    refine lv_aload_n hx hb d_S_perform_74 rfl (lv_at hl 0 rfl) ?_
    refine lv_iload_n hx hb d_S_perform_75 rfl (lv_at hl 2 rfl) ?_
    refine lv_iload_n hx hb d_S_perform_76 rfl (lv_at hl 3 rfl) ?_
    obtain ⟨v8, hq8, hM⟩ := bd_some hM
    refine fw_i (F := (cL cI cJ cZ ad)) (u := u) (res := v8) (va_runV (As := [.int x2, .int x3]) (rest := []) ⟨hx, hb, hml, hown, hts⟩ (c_S_setRecord l D cI cJ cZ ad H.size x2 x3 u v8 hq8) (cwV 2 hts (gV mm_188 mm_190 (ms_ 3 rfl rfl) mm_29 mm_191) rfl rfl rfl hd_S_setRecord ⟨Nat.le_of_ble_eq_true rfl, Nat.le_of_ble_eq_true rfl⟩) (pv_ (F := (cL cI cJ cZ ad)) (u := u) hK hP hD (va_recv hK hP (ci := 1) (q0 := 6) rfl rfl)) rfl rfl hl.1 rfl (lv_room (Nat.le_of_ble_eq_true rfl)) d_S_perform_77 ⟨Nat.le_of_ble_eq_true rfl, Nat.le_of_ble_eq_true rfl⟩) hS (fa_ hD hS hA) (fun H locs hP hD hS => ?_)
    obtain ⟨h9, hM⟩ := gd_some hM
    obtain rfl := Option.some.inj hM
    exact W.zret (v := v8.1) hx hb hr (nz_b h9) (fun t ht hW => ⟨⟨v8.1, v8.2, rfl, rfl, by rw [ht]; exact hP, va_K.moved hW.alike hK, hD⟩, hS.F ht⟩) hS.2.2 d_S_perform_80
  replace hM := it_f c7 hM
  by_cases c10 : x1 = (3 : Int32)
  · replace hM := it_t c10 hM
    refine lv_tableIn (off := 80) (tgt := 81) hx hb d_S_perform_1 (by rw [c10]; decide) (by rw [c10]; decide) (by rw [c10]; rfl) (by decide) ?_
    refine lv_aload_n hx hb d_S_perform_81 rfl (lv_at hl 0 rfl) ?_
    refine lv_iload_n hx hb d_S_perform_82 rfl (lv_at hl 2 rfl) ?_
    refine lv_iload_n hx hb d_S_perform_83 rfl (lv_at hl 3 rfl) ?_
    refine lv_lload hx hb d_S_perform_84 (lv_at hl 4 rfl) ?_
    obtain ⟨v11, hq11, hM⟩ := bd_some hM
    refine fw_i (F := (cL cI cJ cZ ad)) (u := u) (res := v11) (va_runV (As := [.int x2, .int x3, .long y4]) (rest := []) ⟨hx, hb, hml, hown, hts⟩ (c_S_lend l D cI cJ cZ ad H.size x2 x3 y4 u v11 hq11) (cwV 3 hts (gV mm_192 mm_194 (ms_ 4 rfl rfl) mm_29 mm_195) rfl rfl rfl hd_S_lend ⟨Nat.le_of_ble_eq_true rfl, Nat.le_of_ble_eq_true rfl⟩) (pv_ (F := (cL cI cJ cZ ad)) (u := u) hK hP hD (va_recv hK hP (ci := 1) (q0 := 6) rfl rfl)) rfl rfl hl.1 rfl (lv_room (Nat.le_of_ble_eq_true rfl)) d_S_perform_86 ⟨Nat.le_of_ble_eq_true rfl, Nat.le_of_ble_eq_true rfl⟩) hS (fa_ hD hS hA) (fun H locs hP hD hS => ?_)
    obtain ⟨h12, hM⟩ := gd_some hM
    obtain rfl := Option.some.inj hM
    exact W.zret (v := v11.1) hx hb hr (nz_b h12) (fun t ht hW => ⟨⟨v11.1, v11.2, rfl, rfl, by rw [ht]; exact hP, va_K.moved hW.alike hK, hD⟩, hS.F ht⟩) hS.2.2 d_S_perform_89
  replace hM := it_f c10 hM
  by_cases c13 : x1 = (4 : Int32)
  · replace hM := it_t c13 hM
    refine lv_tableIn (off := 89) (tgt := 90) hx hb d_S_perform_1 (by rw [c13]; decide) (by rw [c13]; decide) (by rw [c13]; rfl) (by decide) ?_
    refine lv_aload_n hx hb d_S_perform_90 rfl (lv_at hl 0 rfl) ?_
    refine lv_iload_n hx hb d_S_perform_91 rfl (lv_at hl 2 rfl) ?_
    obtain ⟨v14, hq14, hM⟩ := bd_some hM
    refine fw_i (F := (cL cI cJ cZ ad)) (u := u) (res := v14) (va_runV (As := [.int x2]) (rest := []) ⟨hx, hb, hml, hown, hts⟩ (c_S_giveBack l D cI cJ cZ ad H.size x2 u v14 hq14) (cwV 1 hts (gV mm_209 mm_211 (ms_ 7 rfl rfl) mm_29 mm_212) rfl rfl rfl hd_S_giveBack ⟨Nat.le_of_ble_eq_true rfl, Nat.le_of_ble_eq_true rfl⟩) (pv_ (F := (cL cI cJ cZ ad)) (u := u) hK hP hD (va_recv hK hP (ci := 1) (q0 := 6) rfl rfl)) rfl rfl hl.1 rfl (lv_room (Nat.le_of_ble_eq_true rfl)) d_S_perform_92 ⟨Nat.le_of_ble_eq_true rfl, Nat.le_of_ble_eq_true rfl⟩) hS (fa_ hD hS hA) (fun H locs hP hD hS => ?_)
    obtain ⟨h15, hM⟩ := gd_some hM
    obtain rfl := Option.some.inj hM
    exact W.zret (v := v14.1) hx hb hr (nz_b h15) (fun t ht hW => ⟨⟨v14.1, v14.2, rfl, rfl, by rw [ht]; exact hP, va_K.moved hW.alike hK, hD⟩, hS.F ht⟩) hS.2.2 d_S_perform_95
  replace hM := it_f c13 hM
  by_cases c16 : x1 = (5 : Int32)
  · replace hM := it_t c16 hM
    refine lv_tableIn (off := 95) (tgt := 96) hx hb d_S_perform_1 (by rw [c16]; decide) (by rw [c16]; decide) (by rw [c16]; rfl) (by decide) ?_
    refine lv_aload_n hx hb d_S_perform_96 rfl (lv_at hl 0 rfl) ?_
    refine lv_iload_n hx hb d_S_perform_97 rfl (lv_at hl 2 rfl) ?_
    refine lv_iload_n hx hb d_S_perform_98 rfl (lv_at hl 3 rfl) ?_
    obtain ⟨v17, hq17, hM⟩ := bd_some hM
    refine fw_i (F := (cL cI cJ cZ ad)) (u := u) (res := v17) (va_runV (As := [.int x2, .int x3]) (rest := []) ⟨hx, hb, hml, hown, hts⟩ (c_S_joinQueue l D cI cJ cZ ad H.size x2 x3 u v17 hq17) (cwV 2 hts (gV mm_213 mm_215 (ms_ 8 rfl rfl) mm_29 mm_216) rfl rfl rfl hd_S_joinQueue ⟨Nat.le_of_ble_eq_true rfl, Nat.le_of_ble_eq_true rfl⟩) (pv_ (F := (cL cI cJ cZ ad)) (u := u) hK hP hD (va_recv hK hP (ci := 1) (q0 := 6) rfl rfl)) rfl rfl hl.1 rfl (lv_room (Nat.le_of_ble_eq_true rfl)) d_S_perform_99 ⟨Nat.le_of_ble_eq_true rfl, Nat.le_of_ble_eq_true rfl⟩) hS (fa_ hD hS hA) (fun H locs hP hD hS => ?_)
    obtain ⟨h18, hM⟩ := gd_some hM
    obtain rfl := Option.some.inj hM
    exact W.zret (v := v17.1) hx hb hr (nz_b h18) (fun t ht hW => ⟨⟨v17.1, v17.2, rfl, rfl, by rw [ht]; exact hP, va_K.moved hW.alike hK, hD⟩, hS.F ht⟩) hS.2.2 d_S_perform_102
  replace hM := it_f c16 hM
  by_cases c19 : x1 = (6 : Int32)
  · replace hM := it_t c19 hM
    refine lv_tableIn (off := 102) (tgt := 103) hx hb d_S_perform_1 (by rw [c19]; decide) (by rw [c19]; decide) (by rw [c19]; rfl) (by decide) ?_
    refine lv_aload_n hx hb d_S_perform_103 rfl (lv_at hl 0 rfl) ?_
    refine lv_iload_n hx hb d_S_perform_104 rfl (lv_at hl 2 rfl) ?_
    refine lv_iload_n hx hb d_S_perform_105 rfl (lv_at hl 3 rfl) ?_
    obtain ⟨v20, hq20, hM⟩ := bd_some hM
    refine fw_i (F := (cL cI cJ cZ ad)) (u := u) (res := v20) (va_runV (As := [.int x2, .int x3]) (rest := []) ⟨hx, hb, hml, hown, hts⟩ (c_S_leaveQueue l D cI cJ cZ ad H.size x2 x3 u v20 hq20) (cwV 2 hts (gV mm_200 mm_202 (ms_ 5 rfl rfl) mm_29 mm_203) rfl rfl rfl hd_S_leaveQueue ⟨Nat.le_of_ble_eq_true rfl, Nat.le_of_ble_eq_true rfl⟩) (pv_ (F := (cL cI cJ cZ ad)) (u := u) hK hP hD (va_recv hK hP (ci := 1) (q0 := 6) rfl rfl)) rfl rfl hl.1 rfl (lv_room (Nat.le_of_ble_eq_true rfl)) d_S_perform_106 ⟨Nat.le_of_ble_eq_true rfl, Nat.le_of_ble_eq_true rfl⟩) hS (fa_ hD hS hA) (fun H locs hP hD hS => ?_)
    obtain ⟨h21, hM⟩ := gd_some hM
    obtain rfl := Option.some.inj hM
    exact W.zret (v := v20.1) hx hb hr (nz_b h21) (fun t ht hW => ⟨⟨v20.1, v20.2, rfl, rfl, by rw [ht]; exact hP, va_K.moved hW.alike hK, hD⟩, hS.F ht⟩) hS.2.2 d_S_perform_109
  replace hM := it_f c19 hM
  by_cases c22 : x1 = (7 : Int32)
  · replace hM := it_t c22 hM
    refine lv_tableIn (off := 109) (tgt := 110) hx hb d_S_perform_1 (by rw [c22]; decide) (by rw [c22]; decide) (by rw [c22]; rfl) (by decide) ?_
    refine lv_aload_n hx hb d_S_perform_110 rfl (lv_at hl 0 rfl) ?_
    refine va_get (D := D) (ci := 1) (v := .ref (ad 15)) (C := R_S) (T := T_S) (N := 9) hx hb hts in_S hown hK hP 6 rfl rfl 8 (by decide) (hts _ mm_80) (fun _ h9 => h9) rfl d_S_perform_111 ?_
    refine lv_iload_n hx hb d_S_perform_114 rfl (lv_at hl 2 rfl) ?_
    refine lv_iload_n hx hb d_S_perform_115 rfl (lv_at hl 3 rfl) ?_
    obtain ⟨v23, hq23, hM⟩ := bd_some hM
    refine fr_i (res := v23) (va_runS (As := [.int x2, .int x3]) (rest := [.ref (ad 15)]) ⟨hx, hb, hml, hown, hts⟩ (c_S_sumIndex l D cI cJ cZ H.size x2 x3 v23 hq23) (va_cwS 2 hts (gS mm_217 mm_218 mm_29 mm_219) rfl rfl rfl hs_S_sumIndex ⟨Nat.le_of_ble_eq_true rfl, Nat.le_of_ble_eq_true rfl⟩) (ps_ (F := nW) (u := ()) hK nP (nD (A := fun _ => True))) rfl rfl hl.1 rfl (lv_room (Nat.le_of_ble_eq_true rfl)) d_S_perform_116 ⟨Nat.le_of_ble_eq_true rfl, Nat.le_of_ble_eq_true rfl⟩) hP hS hA (fun H locs hP hS => ?_)
    refine lv_lload hx hb d_S_perform_119 (lv_at hl 4 rfl) ?_
    refine lv_ldc2 (v := (7 : Int64)) hx hb hown (hts _ mm_220) d_S_perform_121 ?_
    refine lv_lrem hx hb d_S_perform_124 (by decide) ?_
    refine lv_l2i (v := (y4 - y4 / (7 : Int64) * (7 : Int64)).toInt32) hx hb d_S_perform_125 rfl ?_
    obtain ⟨h24, hM⟩ := gd_some hM
    refine va_iast hx hb hK hP hD hS 15 0 rfl rfl (vp_in_iff.mpr h24) d_S_perform_126 (fun H locs hP hD hS => ?_)
    have hP : va_P D cl9 ((cL cI cJ cZ ad) (l_sm_w u (upd (l_sm u) v23.toNatClampNeg ((y4 - y4 / (7 : Int64) * (7 : Int64)).toInt32)))) H := reP (zcL_sm cI cJ cZ ad u (upd (l_sm u) v23.toNatClampNeg ((y4 - y4 / (7 : Int64) * (7 : Int64)).toInt32))) hP
    have hD : va_D A ((cL cI cJ cZ ad) (l_sm_w u (upd (l_sm u) v23.toNatClampNeg ((y4 - y4 / (7 : Int64) * (7 : Int64)).toInt32)))) := reD (zcL_sm cI cJ cZ ad u (upd (l_sm u) v23.toNatClampNeg ((y4 - y4 / (7 : Int64) * (7 : Int64)).toInt32))) hD
    refine lv_iconst (v := (1 : Int32)) hx hb d_S_perform_127 (by decide) ?_
    obtain rfl := Option.some.inj hM
    exact W.zret (v := (1 : Int32)) hx hb hr rfl (fun t ht hW => ⟨⟨(1 : Int32), (l_sm_w u (upd (l_sm u) v23.toNatClampNeg ((y4 - y4 / (7 : Int64) * (7 : Int64)).toInt32))), rfl, rfl, by rw [ht]; exact hP, va_K.moved hW.alike hK, hD⟩, hS.F ht⟩) hS.2.2 d_S_perform_128
  replace hM := it_f c22 hM
  by_cases c25 : x1 = (8 : Int32)
  · replace hM := it_t c25 hM
    refine lv_tableIn (off := 128) (tgt := 129) hx hb d_S_perform_1 (by rw [c25]; decide) (by rw [c25]; decide) (by rw [c25]; rfl) (by decide) ?_
    refine lv_aload_n hx hb d_S_perform_129 rfl (lv_at hl 0 rfl) ?_
    refine lv_iload_n hx hb d_S_perform_130 rfl (lv_at hl 2 rfl) ?_
    refine lv_iload_n hx hb d_S_perform_131 rfl (lv_at hl 3 rfl) ?_
    obtain ⟨v26, hq26, hM⟩ := bd_some hM
    refine fw_i (F := (cL cI cJ cZ ad)) (u := u) (res := v26) (va_runV (As := [.int x2, .int x3]) (rest := []) ⟨hx, hb, hml, hown, hts⟩ (c_S_loseFile l D cI cJ cZ ad H.size x2 x3 u v26 hq26) (cwV 2 hts (gV mm_221 mm_223 (ms_ 9 rfl rfl) mm_29 mm_224) rfl rfl rfl hd_S_loseFile ⟨Nat.le_of_ble_eq_true rfl, Nat.le_of_ble_eq_true rfl⟩) (pv_ (F := (cL cI cJ cZ ad)) (u := u) hK hP hD (va_recv hK hP (ci := 1) (q0 := 6) rfl rfl)) rfl rfl hl.1 rfl (lv_room (Nat.le_of_ble_eq_true rfl)) d_S_perform_132 ⟨Nat.le_of_ble_eq_true rfl, Nat.le_of_ble_eq_true rfl⟩) hS (fa_ hD hS hA) (fun H locs hP hD hS => ?_)
    obtain ⟨h27, hM⟩ := gd_some hM
    obtain rfl := Option.some.inj hM
    exact W.zret (v := v26.1) hx hb hr (nz_b h27) (fun t ht hW => ⟨⟨v26.1, v26.2, rfl, rfl, by rw [ht]; exact hP, va_K.moved hW.alike hK, hD⟩, hS.F ht⟩) hS.2.2 d_S_perform_135
  replace hM := it_f c25 hM
  by_cases c28 : x1 = (9 : Int32)
  · replace hM := it_t c28 hM
    refine lv_tableIn (off := 135) (tgt := 136) hx hb d_S_perform_1 (by rw [c28]; decide) (by rw [c28]; decide) (by rw [c28]; rfl) (by decide) ?_
    refine lv_aload_n hx hb d_S_perform_136 rfl (lv_at hl 0 rfl) ?_
    refine va_get (D := D) (ci := 1) (v := .ref (ad 13)) (C := R_S) (T := T_S) (N := 9) hx hb hts in_S hown hK hP 6 rfl rfl 6 (by decide) (hts _ mm_78) (fun _ h9 => h9) rfl d_S_perform_137 ?_
    refine lv_iload_n hx hb d_S_perform_140 rfl (lv_at hl 2 rfl) ?_
    refine lv_iload_n hx hb d_S_perform_141 rfl (lv_at hl 3 rfl) ?_
    obtain ⟨h29, hM⟩ := gd_some hM
    refine va_iast hx hb hK hP hD hS 13 0 rfl rfl (vp_in_iff.mpr h29) d_S_perform_142 (fun H locs hP hD hS => ?_)
    have hP : va_P D cl9 ((cL cI cJ cZ ad) (l_cls_w u (upd (l_cls u) x2.toNatClampNeg x3))) H := reP (zcL_cls cI cJ cZ ad u (upd (l_cls u) x2.toNatClampNeg x3)) hP
    have hD : va_D A ((cL cI cJ cZ ad) (l_cls_w u (upd (l_cls u) x2.toNatClampNeg x3))) := reD (zcL_cls cI cJ cZ ad u (upd (l_cls u) x2.toNatClampNeg x3)) hD
    refine lv_iconst (v := (1 : Int32)) hx hb d_S_perform_143 (by decide) ?_
    obtain rfl := Option.some.inj hM
    exact W.zret (v := (1 : Int32)) hx hb hr rfl (fun t ht hW => ⟨⟨(1 : Int32), (l_cls_w u (upd (l_cls u) x2.toNatClampNeg x3)), rfl, rfl, by rw [ht]; exact hP, va_K.moved hW.alike hK, hD⟩, hS.F ht⟩) hS.2.2 d_S_perform_144
  replace hM := it_f c28 hM
  by_cases c30 : x1 = (10 : Int32)
  · replace hM := it_t c30 hM
    refine lv_tableIn (off := 144) (tgt := 145) hx hb d_S_perform_1 (by rw [c30]; decide) (by rw [c30]; decide) (by rw [c30]; rfl) (by decide) ?_
    refine lv_aload_n hx hb d_S_perform_145 rfl (lv_at hl 0 rfl) ?_
    refine va_get (D := D) (ci := 1) (v := .ref (ad 14)) (C := R_S) (T := T_S) (N := 9) hx hb hts in_S hown hK hP 6 rfl rfl 7 (by decide) (hts _ mm_79) (fun _ h9 => h9) rfl d_S_perform_146 ?_
    refine lv_iload_n hx hb d_S_perform_149 rfl (lv_at hl 2 rfl) ?_
    refine lv_iload_n hx hb d_S_perform_150 rfl (lv_at hl 3 rfl) ?_
    obtain ⟨h31, hM⟩ := gd_some hM
    refine va_iast hx hb hK hP hD hS 14 0 rfl rfl (vp_in_iff.mpr h31) d_S_perform_151 (fun H locs hP hD hS => ?_)
    have hP : va_P D cl9 ((cL cI cJ cZ ad) (l_ln_w u (upd (l_ln u) x2.toNatClampNeg x3))) H := reP (zcL_ln cI cJ cZ ad u (upd (l_ln u) x2.toNatClampNeg x3)) hP
    have hD : va_D A ((cL cI cJ cZ ad) (l_ln_w u (upd (l_ln u) x2.toNatClampNeg x3))) := reD (zcL_ln cI cJ cZ ad u (upd (l_ln u) x2.toNatClampNeg x3)) hD
    refine lv_iconst (v := (1 : Int32)) hx hb d_S_perform_152 (by decide) ?_
    obtain rfl := Option.some.inj hM
    exact W.zret (v := (1 : Int32)) hx hb hr rfl (fun t ht hW => ⟨⟨(1 : Int32), (l_ln_w u (upd (l_ln u) x2.toNatClampNeg x3)), rfl, rfl, by rw [ht]; exact hP, va_K.moved hW.alike hK, hD⟩, hS.F ht⟩) hS.2.2 d_S_perform_153
  replace hM := it_f c30 hM
  have nc1 := lv_neT c1 (a := 0) (by decide)
  have nc4 := lv_neT c4 (a := 1) (by decide)
  have nc7 := lv_neT c7 (a := 2) (by decide)
  have nc10 := lv_neT c10 (a := 3) (by decide)
  have nc13 := lv_neT c13 (a := 4) (by decide)
  have nc16 := lv_neT c16 (a := 5) (by decide)
  have nc19 := lv_neT c19 (a := 6) (by decide)
  have nc22 := lv_neT c22 (a := 7) (by decide)
  have nc25 := lv_neT c25 (a := 8) (by decide)
  have nc28 := lv_neT c28 (a := 9) (by decide)
  have nc30 := lv_neT c30 (a := 10) (by decide)
  refine lv_tableOut (tgt := 154) hx hb d_S_perform_1 (by omega) (by decide) ?_
  refine lv_iconst (v := (0 : Int32)) hx hb d_S_perform_154 (by decide) ?_
  obtain rfl := Option.some.inj hM
  exact W.zret (v := (0 : Int32)) hx hb hr rfl (fun t ht hW => ⟨⟨(0 : Int32), u, rfl, rfl, by rw [ht]; exact hP, va_K.moved hW.alike hK, hD⟩, hS.F ht⟩) hS.2.2 d_S_perform_155
end
set_option maxRecDepth 100000 in
theorem c_S_perform (l : Launch) (D : va_G) (cI cJ cZ : ClassId) (ad : Nat → Nat) (sz : Nat) (x1 : Int32) (x2 : Int32) (x3 : Int32) (y4 : Int64) (u : Lib) (res : (Int32 × Lib)) (hM : B_S_perform_0 x1 x2 x3 y4 u = some res) : Met l y_S_perform ws_S_perform rm_S_perform (va_Pc [.ref (ad 6), .int x1, .int x2, .int x3, .long y4] (pr_ D cl9 (tyy cI cJ cZ) (cL cI cJ cZ ad) u sz)) (Qwi D cl9 (tyy cI cJ cZ) (cL cI cJ cZ ad) (va_A ((cL cI cJ cZ ad) u) sz) res) 0 0 (va_A ((cL cI cJ cZ ad) u) sz) := by
  refine Met.ofW (cc := prog_3_method_3_code) (maxL := 6) (ret := (Option.some FieldType.boolean)) (by decide) rfl ?_
  intro p e s m args below meth c s₁ B hml hv
  obtain ⟨rfl, hsz, hP, hK, hD0⟩ := hv
  subst hsz
  have hts0 := atoms_spec (ws := ws_S_perform) B.pre
  have hl := lv_entry ([.ref (ad 6), .int x1, .int x2, .int x3, .long y4]) (n := 6) (Nat.le_of_ble_eq_true rfl)
  rw [lg_entry_eq]
  generalize (lg_sl ([.ref (ad 6), .int x1, .int x2, .int x3, .long y4]) ++ List.replicate (6 - (lg_sl ([.ref (ad 6), .int x1, .int x2, .int x3, .long y4])).length) Slot.unset).toArray = ls at hl ⊢
  exact w_S_perform_0 ⟨B.exec, B.bytes, B.returns, hml, findClass_of_methodNamed B.named, fun w h => hts0 w (List.mem_cons_of_mem _ h), B.notSynchronized, hK, fun q h => Or.inr h⟩ x1 x2 x3 y4 u s.heap [] ls hP hD0.self va_S.rf hl hM
section
variable {p : Program} {l : Launch} {e : Env} {s : State} {m : MethodId} {args : Array Value} {below : List Frame} {meth : Method} {c : Code} {D : va_G} {cI cJ cZ : ClassId} {A : Nat → Prop} {ad : Nat → Nat}
set_option maxHeartbeats 4000000 in
set_option maxRecDepth 100000 in
theorem w_S_recordOf_0 {res : Int32} (C : Cx p s m args meth c prog_3_method_4_code 2 (Option.some FieldType.int) "PlainLibrary$Shelves" tb D cl9 (tyy cI cJ cZ) A) (x1 : Int32) (u : Lib) (H : Heap) (locs : List Loc) (ls : Array Slot) (hP : va_P D cl9 ((cL cI cJ cZ ad) u) H) (hD : va_D (fun _ => True) ((cL cI cJ cZ ad) u)) (hS : va_S A s.heap H locs) (hl : lv_has ls 2 [(0, .ref (ad 6)), (1, .int x1)]) (hM : B_S_recordOf_0 x1 u = some res) : W p l e rm_S_recordOf s m args below meth c H locs 0 0 (MQ below (Qri A res) args s 0 0 A) (F0 m 0 ls []) := by
  have C0 := C
  obtain ⟨hx, hb, hr, hml, hown, hts, hlocks, hK, hA⟩ := C
  replace C := C0
  unfold B_S_recordOf_0 at hM
  refine lv_aload_n hx hb d_S_recordOf_0 rfl (lv_at hl 0 rfl) ?_
  refine va_get (D := D) (ci := 1) (v := .ref (ad 8)) (C := R_S) (T := T_S) (N := 9) hx hb hts in_S hown hK hP 6 rfl rfl 1 (by decide) (hts _ mm_73) (fun _ h9 => h9) rfl d_S_recordOf_1 ?_
  refine lv_iload_n hx hb d_S_recordOf_4 rfl (lv_at hl 1 rfl) ?_
  obtain ⟨h1, hM⟩ := gd_some hM
  refine va_iald hx hb hK hP 8 0 rfl rfl (vp_in_iff.mpr h1) d_S_recordOf_5 ?_
  obtain rfl := Option.some.inj hM
  exact W.iret (v := ((l_rec u) x1.toNatClampNeg)) hx hb hr (fun t ht hW => ⟨⟨((l_rec u) x1.toNatClampNeg), (), rfl, rfl, trivial⟩, hS.F ht⟩) hS.2.2 d_S_recordOf_6
end
set_option maxRecDepth 100000 in
theorem c_S_recordOf (l : Launch) (D : va_G) (cI cJ cZ : ClassId) (ad : Nat → Nat) (sz : Nat) (x1 : Int32) (u : Lib) (res : Int32) (hM : B_S_recordOf_0 x1 u = some res) : Met l y_S_recordOf ws_S_recordOf rm_S_recordOf (va_Pc [.ref (ad 6), .int x1] (pr_ D cl9 (tyy cI cJ cZ) (cL cI cJ cZ ad) u sz)) (Qri (va_A [] sz) res) 0 0 (va_A [] sz) := by
  refine Met.ofW (cc := prog_3_method_4_code) (maxL := 2) (ret := (Option.some FieldType.int)) (by decide) rfl ?_
  intro p e s m args below meth c s₁ B hml hv
  obtain ⟨rfl, hsz, hP, hK, hD0⟩ := hv
  subst hsz
  have hts0 := atoms_spec (ws := ws_S_recordOf) B.pre
  have hl := lv_entry ([.ref (ad 6), .int x1]) (n := 2) (Nat.le_of_ble_eq_true rfl)
  rw [lg_entry_eq]
  generalize (lg_sl ([.ref (ad 6), .int x1]) ++ List.replicate (2 - (lg_sl ([.ref (ad 6), .int x1])).length) Slot.unset).toArray = ls at hl ⊢
  exact w_S_recordOf_0 ⟨B.exec, B.bytes, B.returns, hml, findClass_of_methodNamed B.named, fun w h => hts0 w (List.mem_cons_of_mem _ h), B.notSynchronized, hK, fun q h => Or.inr h⟩ x1 u s.heap [] ls hP hD0 va_S.rf hl hM
section
variable {p : Program} {l : Launch} {e : Env} {s : State} {m : MethodId} {args : Array Value} {below : List Frame} {meth : Method} {c : Code} {D : va_G} {cI cJ cZ : ClassId} {A : Nat → Prop} {ad : Nat → Nat}
set_option maxHeartbeats 4000000 in
set_option maxRecDepth 100000 in
theorem w_S_personWith_0 {res : Int32} (C : Cx p s m args meth c prog_3_method_5_code 2 (Option.some FieldType.int) "PlainLibrary$Shelves" tb D cl9 (tyy cI cJ cZ) A) (x1 : Int32) (u : Lib) (H : Heap) (locs : List Loc) (ls : Array Slot) (hP : va_P D cl9 ((cL cI cJ cZ ad) u) H) (hD : va_D (fun _ => True) ((cL cI cJ cZ ad) u)) (hS : va_S A s.heap H locs) (hl : lv_has ls 2 [(0, .ref (ad 6)), (1, .int x1)]) (hM : B_S_personWith_0 x1 u = some res) : W p l e rm_S_personWith s m args below meth c H locs 0 0 (MQ below (Qri A res) args s 0 0 A) (F0 m 0 ls []) := by
  have C0 := C
  obtain ⟨hx, hb, hr, hml, hown, hts, hlocks, hK, hA⟩ := C
  replace C := C0
  unfold B_S_personWith_0 at hM
  refine lv_aload_n hx hb d_S_personWith_0 rfl (lv_at hl 0 rfl) ?_
  refine va_get (D := D) (ci := 1) (v := .ref (ad 9)) (C := R_S) (T := T_S) (N := 9) hx hb hts in_S hown hK hP 6 rfl rfl 2 (by decide) (hts _ mm_74) (fun _ h9 => h9) rfl d_S_personWith_1 ?_
  refine lv_iload_n hx hb d_S_personWith_4 rfl (lv_at hl 1 rfl) ?_
  obtain ⟨h1, hM⟩ := gd_some hM
  refine va_iald hx hb hK hP 9 0 rfl rfl (vp_in_iff.mpr h1) d_S_personWith_5 ?_
  obtain rfl := Option.some.inj hM
  exact W.iret (v := ((l_per u) x1.toNatClampNeg)) hx hb hr (fun t ht hW => ⟨⟨((l_per u) x1.toNatClampNeg), (), rfl, rfl, trivial⟩, hS.F ht⟩) hS.2.2 d_S_personWith_6
end
set_option maxRecDepth 100000 in
theorem c_S_personWith (l : Launch) (D : va_G) (cI cJ cZ : ClassId) (ad : Nat → Nat) (sz : Nat) (x1 : Int32) (u : Lib) (res : Int32) (hM : B_S_personWith_0 x1 u = some res) : Met l y_S_personWith ws_S_personWith rm_S_personWith (va_Pc [.ref (ad 6), .int x1] (pr_ D cl9 (tyy cI cJ cZ) (cL cI cJ cZ ad) u sz)) (Qri (va_A [] sz) res) 0 0 (va_A [] sz) := by
  refine Met.ofW (cc := prog_3_method_5_code) (maxL := 2) (ret := (Option.some FieldType.int)) (by decide) rfl ?_
  intro p e s m args below meth c s₁ B hml hv
  obtain ⟨rfl, hsz, hP, hK, hD0⟩ := hv
  subst hsz
  have hts0 := atoms_spec (ws := ws_S_personWith) B.pre
  have hl := lv_entry ([.ref (ad 6), .int x1]) (n := 2) (Nat.le_of_ble_eq_true rfl)
  rw [lg_entry_eq]
  generalize (lg_sl ([.ref (ad 6), .int x1]) ++ List.replicate (2 - (lg_sl ([.ref (ad 6), .int x1])).length) Slot.unset).toArray = ls at hl ⊢
  exact w_S_personWith_0 ⟨B.exec, B.bytes, B.returns, hml, findClass_of_methodNamed B.named, fun w h => hts0 w (List.mem_cons_of_mem _ h), B.notSynchronized, hK, fun q h => Or.inr h⟩ x1 u s.heap [] ls hP hD0 va_S.rf hl hM
section
variable {p : Program} {l : Launch} {e : Env} {s : State} {m : MethodId} {args : Array Value} {below : List Frame} {meth : Method} {c : Code} {D : va_G} {cI cJ cZ : ClassId} {A : Nat → Prop} {ad : Nat → Nat}
set_option maxHeartbeats 4000000 in
set_option maxRecDepth 100000 in
theorem w_S_classOf_0 {res : Int32} (C : Cx p s m args meth c prog_3_method_6_code 2 (Option.some FieldType.int) "PlainLibrary$Shelves" tb D cl9 (tyy cI cJ cZ) A) (x1 : Int32) (u : Lib) (H : Heap) (locs : List Loc) (ls : Array Slot) (hP : va_P D cl9 ((cL cI cJ cZ ad) u) H) (hD : va_D (fun _ => True) ((cL cI cJ cZ ad) u)) (hS : va_S A s.heap H locs) (hl : lv_has ls 2 [(0, .ref (ad 6)), (1, .int x1)]) (hM : B_S_classOf_0 x1 u = some res) : W p l e rm_S_classOf s m args below meth c H locs 0 0 (MQ below (Qri A res) args s 0 0 A) (F0 m 0 ls []) := by
  have C0 := C
  obtain ⟨hx, hb, hr, hml, hown, hts, hlocks, hK, hA⟩ := C
  replace C := C0
  unfold B_S_classOf_0 at hM
  refine lv_aload_n hx hb d_S_classOf_0 rfl (lv_at hl 0 rfl) ?_
  refine va_get (D := D) (ci := 1) (v := .ref (ad 13)) (C := R_S) (T := T_S) (N := 9) hx hb hts in_S hown hK hP 6 rfl rfl 6 (by decide) (hts _ mm_78) (fun _ h9 => h9) rfl d_S_classOf_1 ?_
  refine lv_iload_n hx hb d_S_classOf_4 rfl (lv_at hl 1 rfl) ?_
  obtain ⟨h1, hM⟩ := gd_some hM
  refine va_iald hx hb hK hP 13 0 rfl rfl (vp_in_iff.mpr h1) d_S_classOf_5 ?_
  obtain rfl := Option.some.inj hM
  exact W.iret (v := ((l_cls u) x1.toNatClampNeg)) hx hb hr (fun t ht hW => ⟨⟨((l_cls u) x1.toNatClampNeg), (), rfl, rfl, trivial⟩, hS.F ht⟩) hS.2.2 d_S_classOf_6
end
set_option maxRecDepth 100000 in
theorem c_S_classOf (l : Launch) (D : va_G) (cI cJ cZ : ClassId) (ad : Nat → Nat) (sz : Nat) (x1 : Int32) (u : Lib) (res : Int32) (hM : B_S_classOf_0 x1 u = some res) : Met l y_S_classOf ws_S_classOf rm_S_classOf (va_Pc [.ref (ad 6), .int x1] (pr_ D cl9 (tyy cI cJ cZ) (cL cI cJ cZ ad) u sz)) (Qri (va_A [] sz) res) 0 0 (va_A [] sz) := by
  refine Met.ofW (cc := prog_3_method_6_code) (maxL := 2) (ret := (Option.some FieldType.int)) (by decide) rfl ?_
  intro p e s m args below meth c s₁ B hml hv
  obtain ⟨rfl, hsz, hP, hK, hD0⟩ := hv
  subst hsz
  have hts0 := atoms_spec (ws := ws_S_classOf) B.pre
  have hl := lv_entry ([.ref (ad 6), .int x1]) (n := 2) (Nat.le_of_ble_eq_true rfl)
  rw [lg_entry_eq]
  generalize (lg_sl ([.ref (ad 6), .int x1]) ++ List.replicate (2 - (lg_sl ([.ref (ad 6), .int x1])).length) Slot.unset).toArray = ls at hl ⊢
  exact w_S_classOf_0 ⟨B.exec, B.bytes, B.returns, hml, findClass_of_methodNamed B.named, fun w h => hts0 w (List.mem_cons_of_mem _ h), B.notSynchronized, hK, fun q h => Or.inr h⟩ x1 u s.heap [] ls hP hD0 va_S.rf hl hM
section
variable {p : Program} {l : Launch} {e : Env} {s : State} {m : MethodId} {args : Array Value} {below : List Frame} {meth : Method} {c : Code} {D : va_G} {cI cJ cZ : ClassId} {A : Nat → Prop} {ad : Nat → Nat}
set_option maxHeartbeats 4000000 in
set_option maxRecDepth 100000 in
theorem w_S_copiesThereOf_32 {k4 : Int32 → Int32 → Int32 → Lib → Option Int32} {res : Int32} (C : Cx p s m args meth c prog_3_method_7_code 4 (Option.some FieldType.int) "PlainLibrary$Shelves" tb D cl9 (tyy cI cJ cZ) A) (hk4 : ∀ (x1 : Int32) (x2 : Int32) (x3 : Int32) (u : Lib) (H : Heap) (locs : List Loc) (ls : Array Slot), va_P D cl9 ((cL cI cJ cZ ad) u) H → va_D (fun _ => True) ((cL cI cJ cZ ad) u) → va_S A s.heap H locs → lv_has ls 4 [(0, .ref (ad 6)), (1, .int x1), (2, .int x2), (3, .int x3)] → k4 x1 x2 x3 u = some res → W p l e rm_S_copiesThereOf s m args below meth c H locs 0 0 (MQ below (Qri A res) args s 0 0 A) (F0 m 4 ls [])) (x1 : Int32) (x2 : Int32) (x3 : Int32) (u : Lib) (H : Heap) (locs : List Loc) (ls : Array Slot) (hP : va_P D cl9 ((cL cI cJ cZ ad) u) H) (hD : va_D (fun _ => True) ((cL cI cJ cZ ad) u)) (hS : va_S A s.heap H locs) (hl : lv_has ls 4 [(0, .ref (ad 6)), (1, .int x1), (2, .int x2), (3, .int x3)]) (hM : B_S_copiesThereOf_32 k4 x1 x2 x3 u = some res) : W p l e rm_S_copiesThereOf s m args below meth c H locs 0 0 (MQ below (Qri A res) args s 0 0 A) (F0 m 32 ls []) := by
  have C0 := C
  obtain ⟨hx, hb, hr, hml, hown, hts, hlocks, hK, hA⟩ := C
  replace C := C0
  unfold B_S_copiesThereOf_32 at hM
  refine lv_iinc (v := (x3 + (1 : Int32))) (lv' := [(3, .int (x3 + (1 : Int32))), (0, .ref (ad 6)), (1, .int x1), (2, .int x2)]) hx hb d_S_copiesThereOf_32 hl (k := 3) rfl rfl (by decide) rfl (fun ls hl => ?_)
  refine lv_goto (tgt := 4) hx hb d_S_copiesThereOf_35 (by decide) ?_
  exact hk4 x1 x2 (x3 + (1 : Int32)) u H locs ls hP hD hS (lv_sub hl [1, 2, 3, 0] rfl) hM
set_option maxHeartbeats 4000000 in
set_option maxRecDepth 100000 in
theorem w_S_copiesThereOf_4s {res : Int32} (C : Cx p s m args meth c prog_3_method_7_code 4 (Option.some FieldType.int) "PlainLibrary$Shelves" tb D cl9 (tyy cI cJ cZ) A) {k4 : Int32 → Int32 → Int32 → Lib → Option Int32} (hk4 : ∀ (x1 : Int32) (x2 : Int32) (x3 : Int32) (u : Lib) (H : Heap) (locs : List Loc) (ls : Array Slot), va_P D cl9 ((cL cI cJ cZ ad) u) H → va_D (fun _ => True) ((cL cI cJ cZ ad) u) → va_S A s.heap H locs → lv_has ls 4 [(0, .ref (ad 6)), (1, .int x1), (2, .int x2), (3, .int x3)] → k4 x1 x2 x3 u = some res → W p l e rm_S_copiesThereOf s m args below meth c H locs 0 0 (MQ below (Qri A res) args s 0 0 A) (F0 m 4 ls [])) (x1 : Int32) (x2 : Int32) (x3 : Int32) (u : Lib) (H : Heap) (locs : List Loc) (ls : Array Slot) (hP : va_P D cl9 ((cL cI cJ cZ ad) u) H) (hD : va_D (fun _ => True) ((cL cI cJ cZ ad) u)) (hS : va_S A s.heap H locs) (hl : lv_has ls 4 [(0, .ref (ad 6)), (1, .int x1), (2, .int x2), (3, .int x3)]) (hM : B_S_copiesThereOf_4s k4 x1 x2 x3 u = some res) : W p l e rm_S_copiesThereOf s m args below meth c H locs 0 0 (MQ below (Qri A res) args s 0 0 A) (F0 m 4 ls []) := by
  have C0 := C
  obtain ⟨hx, hb, hr, hml, hown, hts, hlocks, hK, hA⟩ := C
  replace C := C0
  unfold B_S_copiesThereOf_4s at hM
  refine lv_iload_n hx hb d_S_copiesThereOf_4 rfl (lv_at hl 3 rfl) ?_
  refine lv_bipush (v := (20 : Int32)) hx hb d_S_copiesThereOf_5 (by decide) ?_
  refine lv_icmp_gt (tgt := 38) hx hb d_S_copiesThereOf_7 (by decide) (fun c1 => ?_) (fun c1 => ?_)
  · replace hM := it_t c1 hM
    refine lv_iload_n hx hb d_S_copiesThereOf_38 rfl (lv_at hl 2 rfl) ?_
    obtain rfl := Option.some.inj hM
    exact W.iret (v := x2) hx hb hr (fun t ht hW => ⟨⟨x2, (), rfl, rfl, trivial⟩, hS.F ht⟩) hS.2.2 d_S_copiesThereOf_39
  · replace hM := it_f c1 hM
    refine lv_aload_n hx hb d_S_copiesThereOf_10 rfl (lv_at hl 0 rfl) ?_
    refine va_get (D := D) (ci := 1) (v := .ref (ad 8)) (C := R_S) (T := T_S) (N := 9) hx hb hts in_S hown hK hP 6 rfl rfl 1 (by decide) (hts _ mm_73) (fun _ h9 => h9) rfl d_S_copiesThereOf_11 ?_
    refine lv_iload_n hx hb d_S_copiesThereOf_14 rfl (lv_at hl 3 rfl) ?_
    obtain ⟨h2, hM⟩ := gd_some hM
    refine va_iald hx hb hK hP 8 0 rfl rfl (vp_in_iff.mpr h2) d_S_copiesThereOf_15 ?_
    refine lv_iload_n hx hb d_S_copiesThereOf_16 rfl (lv_at hl 1 rfl) ?_
    refine lv_icmp_ne (tgt := 32) hx hb d_S_copiesThereOf_17 (by decide) (fun c3 => ?_) (fun c3 => ?_)
    · replace hM := it_f c3 hM
      exact w_S_copiesThereOf_32 C hk4 x1 x2 x3 u H locs ls hP hD hS (lv_sub hl [0, 1, 2, 3] rfl) hM
    · replace hM := it_t c3 hM
      refine lv_aload_n hx hb d_S_copiesThereOf_20 rfl (lv_at hl 0 rfl) ?_
      refine va_get (D := D) (ci := 1) (v := .ref (ad 9)) (C := R_S) (T := T_S) (N := 9) hx hb hts in_S hown hK hP 6 rfl rfl 2 (by decide) (hts _ mm_74) (fun _ h9 => h9) rfl d_S_copiesThereOf_21 ?_
      refine lv_iload_n hx hb d_S_copiesThereOf_24 rfl (lv_at hl 3 rfl) ?_
      obtain ⟨h4, hM⟩ := gd_some hM
      refine va_iald hx hb hK hP 9 0 rfl rfl (vp_in_iff.mpr h4) d_S_copiesThereOf_25 ?_
      refine lv_if_ne (tgt := 32) hx hb d_S_copiesThereOf_26 (by decide) (fun c5 => ?_) (fun c5 => ?_)
      · replace hM := it_f c5 hM
        exact w_S_copiesThereOf_32 C hk4 x1 x2 x3 u H locs ls hP hD hS (lv_sub hl [0, 1, 2, 3] rfl) hM
      · replace hM := it_t c5 hM
        refine lv_iinc (v := (x2 + (1 : Int32))) (lv' := [(2, .int (x2 + (1 : Int32))), (0, .ref (ad 6)), (1, .int x1), (3, .int x3)]) hx hb d_S_copiesThereOf_29 hl (k := 2) rfl rfl (by decide) rfl (fun ls hl => ?_)
        exact w_S_copiesThereOf_32 C hk4 x1 (x2 + (1 : Int32)) x3 u H locs ls hP hD hS (lv_sub hl [1, 2, 0, 3] rfl) hM
theorem w_S_copiesThereOf_4 {res : Int32} (C : Cx p s m args meth c prog_3_method_7_code 4 (Option.some FieldType.int) "PlainLibrary$Shelves" tb D cl9 (tyy cI cJ cZ) A) : ∀ (fu : Nat) (x1 : Int32) (x2 : Int32) (x3 : Int32) (u : Lib) (H : Heap) (locs : List Loc) (ls : Array Slot), va_P D cl9 ((cL cI cJ cZ ad) u) H → va_D (fun _ => True) ((cL cI cJ cZ ad) u) → va_S A s.heap H locs → lv_has ls 4 [(0, .ref (ad 6)), (1, .int x1), (2, .int x2), (3, .int x3)] → B_S_copiesThereOf_4 fu x1 x2 x3 u = some res → W p l e rm_S_copiesThereOf s m args below meth c H locs 0 0 (MQ below (Qri A res) args s 0 0 A) (F0 m 4 ls []) := by
  intro fu
  induction fu with
  | zero =>
    intro x1 x2 x3 u H locs ls hP hD hS hl hM
    have hM : (none : Option Int32) = some res := hM
    cases hM
  | succ fu ih =>
    intro x1 x2 x3 u H locs ls hP hD hS hl hM
    exact w_S_copiesThereOf_4s C ih x1 x2 x3 u H locs ls hP hD hS hl hM
set_option maxHeartbeats 4000000 in
set_option maxRecDepth 100000 in
theorem w_S_copiesThereOf_0 {res : Int32} (C : Cx p s m args meth c prog_3_method_7_code 4 (Option.some FieldType.int) "PlainLibrary$Shelves" tb D cl9 (tyy cI cJ cZ) A) (x1 : Int32) (u : Lib) (H : Heap) (locs : List Loc) (ls : Array Slot) (hP : va_P D cl9 ((cL cI cJ cZ ad) u) H) (hD : va_D (fun _ => True) ((cL cI cJ cZ ad) u)) (hS : va_S A s.heap H locs) (hl : lv_has ls 4 [(0, .ref (ad 6)), (1, .int x1)]) (hM : B_S_copiesThereOf_0 x1 u = some res) : W p l e rm_S_copiesThereOf s m args below meth c H locs 0 0 (MQ below (Qri A res) args s 0 0 A) (F0 m 0 ls []) := by
  have C0 := C
  obtain ⟨hx, hb, hr, hml, hown, hts, hlocks, hK, hA⟩ := C
  replace C := C0
  unfold B_S_copiesThereOf_0 at hM
  refine lv_iconst (v := (0 : Int32)) hx hb d_S_copiesThereOf_0 (by decide) ?_
  refine lv_istore_n (lv' := [(2, .int (0 : Int32)), (0, .ref (ad 6)), (1, .int x1)]) hx hb d_S_copiesThereOf_1 rfl hl (by decide) rfl (fun ls hl => ?_)
  refine lv_iconst (v := (1 : Int32)) hx hb d_S_copiesThereOf_2 (by decide) ?_
  refine lv_istore_n (lv' := [(3, .int (1 : Int32)), (2, .int (0 : Int32)), (0, .ref (ad 6)), (1, .int x1)]) hx hb d_S_copiesThereOf_3 rfl hl (by decide) rfl (fun ls hl => ?_)
  exact w_S_copiesThereOf_4 C FU x1 (0 : Int32) (1 : Int32) u H locs ls hP hD hS (lv_sub hl [2, 3, 1, 0] rfl) hM
end
set_option maxRecDepth 100000 in
theorem c_S_copiesThereOf (l : Launch) (D : va_G) (cI cJ cZ : ClassId) (ad : Nat → Nat) (sz : Nat) (x1 : Int32) (u : Lib) (res : Int32) (hM : B_S_copiesThereOf_0 x1 u = some res) : Met l y_S_copiesThereOf ws_S_copiesThereOf rm_S_copiesThereOf (va_Pc [.ref (ad 6), .int x1] (pr_ D cl9 (tyy cI cJ cZ) (cL cI cJ cZ ad) u sz)) (Qri (va_A [] sz) res) 0 0 (va_A [] sz) := by
  refine Met.ofW (cc := prog_3_method_7_code) (maxL := 4) (ret := (Option.some FieldType.int)) (by decide) rfl ?_
  intro p e s m args below meth c s₁ B hml hv
  obtain ⟨rfl, hsz, hP, hK, hD0⟩ := hv
  subst hsz
  have hts0 := atoms_spec (ws := ws_S_copiesThereOf) B.pre
  have hl := lv_entry ([.ref (ad 6), .int x1]) (n := 4) (Nat.le_of_ble_eq_true rfl)
  rw [lg_entry_eq]
  generalize (lg_sl ([.ref (ad 6), .int x1]) ++ List.replicate (4 - (lg_sl ([.ref (ad 6), .int x1])).length) Slot.unset).toArray = ls at hl ⊢
  exact w_S_copiesThereOf_0 ⟨B.exec, B.bytes, B.returns, hml, findClass_of_methodNamed B.named, fun w h => hts0 w (List.mem_cons_of_mem _ h), B.notSynchronized, hK, fun q h => Or.inr h⟩ x1 u s.heap [] ls hP hD0 va_S.rf hl hM
section
variable {p : Program} {l : Launch} {e : Env} {s : State} {m : MethodId} {args : Array Value} {below : List Frame} {meth : Method} {c : Code} {D : va_G} {cI cJ cZ : ClassId} {A : Nat → Prop} {ad : Nat → Nat}
set_option maxHeartbeats 4000000 in
set_option maxRecDepth 100000 in
theorem w_S_headingAt_33 {k5 : Int32 → Int32 → Int32 → Int32 → Lib → Option Int32} {res : Int32} (C : Cx p s m args meth c prog_3_method_10_code 5 (Option.some FieldType.int) "PlainLibrary$Shelves" tb D cl9 (tyy cI cJ cZ) A) (hk5 : ∀ (x1 : Int32) (x2 : Int32) (x3 : Int32) (x4 : Int32) (u : Lib) (H : Heap) (locs : List Loc) (ls : Array Slot), va_P D cl9 ((cL cI cJ cZ ad) u) H → va_D (fun _ => True) ((cL cI cJ cZ ad) u) → va_S A s.heap H locs → lv_has ls 5 [(0, .ref (ad 6)), (1, .int x1), (2, .int x2), (3, .int x3), (4, .int x4)] → k5 x1 x2 x3 x4 u = some res → W p l e rm_S_headingAt s m args below meth c H locs 0 0 (MQ below (Qri A res) args s 0 0 A) (F0 m 5 ls [])) (x1 : Int32) (x2 : Int32) (x3 : Int32) (x4 : Int32) (u : Lib) (H : Heap) (locs : List Loc) (ls : Array Slot) (hP : va_P D cl9 ((cL cI cJ cZ ad) u) H) (hD : va_D (fun _ => True) ((cL cI cJ cZ ad) u)) (hS : va_S A s.heap H locs) (hl : lv_has ls 5 [(0, .ref (ad 6)), (1, .int x1), (2, .int x2), (3, .int x3), (4, .int x4)]) (hM : B_S_headingAt_33 k5 x1 x2 x3 x4 u = some res) : W p l e rm_S_headingAt s m args below meth c H locs 0 0 (MQ below (Qri A res) args s 0 0 A) (F0 m 33 ls []) := by
  have C0 := C
  obtain ⟨hx, hb, hr, hml, hown, hts, hlocks, hK, hA⟩ := C
  replace C := C0
  unfold B_S_headingAt_33 at hM
  refine lv_iinc (v := (x4 + (1 : Int32))) (lv' := [(4, .int (x4 + (1 : Int32))), (0, .ref (ad 6)), (1, .int x1), (2, .int x2), (3, .int x3)]) hx hb d_S_headingAt_33 hl (k := 4) rfl rfl (by decide) rfl (fun ls hl => ?_)
  refine lv_goto (tgt := 5) hx hb d_S_headingAt_36 (by decide) ?_
  exact hk5 x1 x2 x3 (x4 + (1 : Int32)) u H locs ls hP hD hS (lv_sub hl [1, 2, 3, 4, 0] rfl) hM
set_option maxHeartbeats 4000000 in
set_option maxRecDepth 100000 in
theorem w_S_headingAt_5s {res : Int32} (C : Cx p s m args meth c prog_3_method_10_code 5 (Option.some FieldType.int) "PlainLibrary$Shelves" tb D cl9 (tyy cI cJ cZ) A) {k5 : Int32 → Int32 → Int32 → Int32 → Lib → Option Int32} (hk5 : ∀ (x1 : Int32) (x2 : Int32) (x3 : Int32) (x4 : Int32) (u : Lib) (H : Heap) (locs : List Loc) (ls : Array Slot), va_P D cl9 ((cL cI cJ cZ ad) u) H → va_D (fun _ => True) ((cL cI cJ cZ ad) u) → va_S A s.heap H locs → lv_has ls 5 [(0, .ref (ad 6)), (1, .int x1), (2, .int x2), (3, .int x3), (4, .int x4)] → k5 x1 x2 x3 x4 u = some res → W p l e rm_S_headingAt s m args below meth c H locs 0 0 (MQ below (Qri A res) args s 0 0 A) (F0 m 5 ls [])) (x1 : Int32) (x2 : Int32) (x3 : Int32) (x4 : Int32) (u : Lib) (H : Heap) (locs : List Loc) (ls : Array Slot) (hP : va_P D cl9 ((cL cI cJ cZ ad) u) H) (hD : va_D (fun _ => True) ((cL cI cJ cZ ad) u)) (hS : va_S A s.heap H locs) (hl : lv_has ls 5 [(0, .ref (ad 6)), (1, .int x1), (2, .int x2), (3, .int x3), (4, .int x4)]) (hM : B_S_headingAt_5s k5 x1 x2 x3 x4 u = some res) : W p l e rm_S_headingAt s m args below meth c H locs 0 0 (MQ below (Qri A res) args s 0 0 A) (F0 m 5 ls []) := by
  have C0 := C
  obtain ⟨hx, hb, hr, hml, hown, hts, hlocks, hK, hA⟩ := C
  replace C := C0
  unfold B_S_headingAt_5s at hM
  refine lv_iload hx hb d_S_headingAt_5 (lv_at hl 4 rfl) ?_
  refine lv_bipush (v := (99 : Int32)) hx hb d_S_headingAt_7 (by decide) ?_
  refine lv_icmp_gt (tgt := 39) hx hb d_S_headingAt_9 (by decide) (fun c1 => ?_) (fun c1 => ?_)
  · replace hM := it_t c1 hM
    refine lv_iconst (v := (-1 : Int32)) hx hb d_S_headingAt_39 (by decide) ?_
    obtain rfl := Option.some.inj hM
    exact W.iret (v := (-1 : Int32)) hx hb hr (fun t ht hW => ⟨⟨(-1 : Int32), (), rfl, rfl, trivial⟩, hS.F ht⟩) hS.2.2 d_S_headingAt_40
  · replace hM := it_f c1 hM
    refine lv_aload_n hx hb d_S_headingAt_12 rfl (lv_at hl 0 rfl) ?_
    refine lv_iload_n hx hb d_S_headingAt_13 rfl (lv_at hl 1 rfl) ?_
    refine lv_iload hx hb d_S_headingAt_14 (lv_at hl 4 rfl) ?_
    obtain ⟨v2, hq2, hM⟩ := bd_some hM
    refine fr_i (res := v2) (va_runV (As := [.int x1, .int x4]) (rest := []) ⟨hx, hb, hml, hown, hts⟩ (c_S_hasHeading l D cI cJ cZ ad H.size x1 x4 u v2 hq2) (cwV 2 hts (gV mm_173 mm_174 mm_175 mm_29 mm_176) rfl rfl rfl hd_S_hasHeading ⟨Nat.le_of_ble_eq_true rfl, Nat.le_of_ble_eq_true rfl⟩) (pv_ (F := (cL cI cJ cZ ad)) (u := u) hK hP hD (va_recv hK hP (ci := 1) (q0 := 6) rfl rfl)) rfl rfl hl.1 rfl (lv_room (Nat.le_of_ble_eq_true rfl)) d_S_headingAt_16 ⟨Nat.le_of_ble_eq_true rfl, Nat.le_of_ble_eq_true rfl⟩) hP hS hA (fun H locs hP hS => ?_)
    refine lv_if_eq (tgt := 33) hx hb d_S_headingAt_19 (by decide) (fun c3 => ?_) (fun c3 => ?_)
    · replace hM := it_t c3 hM
      exact w_S_headingAt_33 C hk5 x1 x2 x3 x4 u H locs ls hP hD hS (lv_sub hl [0, 1, 2, 3, 4] rfl) hM
    · replace hM := it_f c3 hM
      refine lv_iload_n hx hb d_S_headingAt_22 rfl (lv_at hl 3 rfl) ?_
      refine lv_iload_n hx hb d_S_headingAt_23 rfl (lv_at hl 2 rfl) ?_
      refine lv_icmp_ne (tgt := 30) hx hb d_S_headingAt_24 (by decide) (fun c4 => ?_) (fun c4 => ?_)
      · replace hM := it_f c4 hM
        refine lv_iinc (v := (x3 + (1 : Int32))) (lv' := [(3, .int (x3 + (1 : Int32))), (0, .ref (ad 6)), (1, .int x1), (2, .int x2), (4, .int x4)]) hx hb d_S_headingAt_30 hl (k := 3) rfl rfl (by decide) rfl (fun ls hl => ?_)
        exact w_S_headingAt_33 C hk5 x1 x2 (x3 + (1 : Int32)) x4 u H locs ls hP hD hS (lv_sub hl [1, 2, 3, 0, 4] rfl) hM
      · replace hM := it_t c4 hM
        refine lv_iload hx hb d_S_headingAt_27 (lv_at hl 4 rfl) ?_
        obtain rfl := Option.some.inj hM
        exact W.iret (v := x4) hx hb hr (fun t ht hW => ⟨⟨x4, (), rfl, rfl, trivial⟩, hS.F ht⟩) hS.2.2 d_S_headingAt_29
theorem w_S_headingAt_5 {res : Int32} (C : Cx p s m args meth c prog_3_method_10_code 5 (Option.some FieldType.int) "PlainLibrary$Shelves" tb D cl9 (tyy cI cJ cZ) A) : ∀ (fu : Nat) (x1 : Int32) (x2 : Int32) (x3 : Int32) (x4 : Int32) (u : Lib) (H : Heap) (locs : List Loc) (ls : Array Slot), va_P D cl9 ((cL cI cJ cZ ad) u) H → va_D (fun _ => True) ((cL cI cJ cZ ad) u) → va_S A s.heap H locs → lv_has ls 5 [(0, .ref (ad 6)), (1, .int x1), (2, .int x2), (3, .int x3), (4, .int x4)] → B_S_headingAt_5 fu x1 x2 x3 x4 u = some res → W p l e rm_S_headingAt s m args below meth c H locs 0 0 (MQ below (Qri A res) args s 0 0 A) (F0 m 5 ls []) := by
  intro fu
  induction fu with
  | zero =>
    intro x1 x2 x3 x4 u H locs ls hP hD hS hl hM
    have hM : (none : Option Int32) = some res := hM
    cases hM
  | succ fu ih =>
    intro x1 x2 x3 x4 u H locs ls hP hD hS hl hM
    exact w_S_headingAt_5s C ih x1 x2 x3 x4 u H locs ls hP hD hS hl hM
set_option maxHeartbeats 4000000 in
set_option maxRecDepth 100000 in
theorem w_S_headingAt_0 {res : Int32} (C : Cx p s m args meth c prog_3_method_10_code 5 (Option.some FieldType.int) "PlainLibrary$Shelves" tb D cl9 (tyy cI cJ cZ) A) (x1 : Int32) (x2 : Int32) (u : Lib) (H : Heap) (locs : List Loc) (ls : Array Slot) (hP : va_P D cl9 ((cL cI cJ cZ ad) u) H) (hD : va_D (fun _ => True) ((cL cI cJ cZ ad) u)) (hS : va_S A s.heap H locs) (hl : lv_has ls 5 [(0, .ref (ad 6)), (1, .int x1), (2, .int x2)]) (hM : B_S_headingAt_0 x1 x2 u = some res) : W p l e rm_S_headingAt s m args below meth c H locs 0 0 (MQ below (Qri A res) args s 0 0 A) (F0 m 0 ls []) := by
  have C0 := C
  obtain ⟨hx, hb, hr, hml, hown, hts, hlocks, hK, hA⟩ := C
  replace C := C0
  unfold B_S_headingAt_0 at hM
  refine lv_iconst (v := (0 : Int32)) hx hb d_S_headingAt_0 (by decide) ?_
  refine lv_istore_n (lv' := [(3, .int (0 : Int32)), (0, .ref (ad 6)), (1, .int x1), (2, .int x2)]) hx hb d_S_headingAt_1 rfl hl (by decide) rfl (fun ls hl => ?_)
  refine lv_iconst (v := (1 : Int32)) hx hb d_S_headingAt_2 (by decide) ?_
  refine lv_istore (lv' := [(4, .int (1 : Int32)), (3, .int (0 : Int32)), (0, .ref (ad 6)), (1, .int x1), (2, .int x2)]) hx hb d_S_headingAt_3 hl (by decide) rfl (fun ls hl => ?_)
  exact w_S_headingAt_5 C FU x1 x2 (0 : Int32) (1 : Int32) u H locs ls hP hD hS (lv_sub hl [2, 3, 4, 1, 0] rfl) hM
end
set_option maxRecDepth 100000 in
theorem c_S_headingAt (l : Launch) (D : va_G) (cI cJ cZ : ClassId) (ad : Nat → Nat) (sz : Nat) (x1 : Int32) (x2 : Int32) (u : Lib) (res : Int32) (hM : B_S_headingAt_0 x1 x2 u = some res) : Met l y_S_headingAt ws_S_headingAt rm_S_headingAt (va_Pc [.ref (ad 6), .int x1, .int x2] (pr_ D cl9 (tyy cI cJ cZ) (cL cI cJ cZ ad) u sz)) (Qri (va_A [] sz) res) 0 0 (va_A [] sz) := by
  refine Met.ofW (cc := prog_3_method_10_code) (maxL := 5) (ret := (Option.some FieldType.int)) (by decide) rfl ?_
  intro p e s m args below meth c s₁ B hml hv
  obtain ⟨rfl, hsz, hP, hK, hD0⟩ := hv
  subst hsz
  have hts0 := atoms_spec (ws := ws_S_headingAt) B.pre
  have hl := lv_entry ([.ref (ad 6), .int x1, .int x2]) (n := 5) (Nat.le_of_ble_eq_true rfl)
  rw [lg_entry_eq]
  generalize (lg_sl ([.ref (ad 6), .int x1, .int x2]) ++ List.replicate (5 - (lg_sl ([.ref (ad 6), .int x1, .int x2])).length) Slot.unset).toArray = ls at hl ⊢
  exact w_S_headingAt_0 ⟨B.exec, B.bytes, B.returns, hml, findClass_of_methodNamed B.named, fun w h => hts0 w (List.mem_cons_of_mem _ h), B.notSynchronized, hK, fun q h => Or.inr h⟩ x1 x2 u s.heap [] ls hP hD0 va_S.rf hl hM
section
variable {p : Program} {l : Launch} {e : Env} {s : State} {m : MethodId} {args : Array Value} {below : List Frame} {meth : Method} {c : Code} {D : va_G} {cI cJ cZ : ClassId} {A : Nat → Prop} {ad : Nat → Nat}
set_option maxHeartbeats 4000000 in
set_option maxRecDepth 100000 in
theorem w_S_dueDayOf_0 {res : Int64} (C : Cx p s m args meth c prog_3_method_11_code 2 (Option.some FieldType.long) "PlainLibrary$Shelves" tb D cl9 (tyy cI cJ cZ) A) (x1 : Int32) (u : Lib) (H : Heap) (locs : List Loc) (ls : Array Slot) (hP : va_P D cl9 ((cL cI cJ cZ ad) u) H) (hD : va_D (fun _ => True) ((cL cI cJ cZ ad) u)) (hS : va_S A s.heap H locs) (hl : lv_has ls 2 [(0, .ref (ad 6)), (1, .int x1)]) (hM : B_S_dueDayOf_0 x1 u = some res) : W p l e rm_S_dueDayOf s m args below meth c H locs 0 0 (MQ below (Qrl A res) args s 0 0 A) (F0 m 0 ls []) := by
  have C0 := C
  obtain ⟨hx, hb, hr, hml, hown, hts, hlocks, hK, hA⟩ := C
  replace C := C0
  unfold B_S_dueDayOf_0 at hM
  refine lv_aload_n hx hb d_S_dueDayOf_0 rfl (lv_at hl 0 rfl) ?_
  refine va_get (D := D) (ci := 1) (v := .ref (ad 9)) (C := R_S) (T := T_S) (N := 9) hx hb hts in_S hown hK hP 6 rfl rfl 2 (by decide) (hts _ mm_74) (fun _ h9 => h9) rfl d_S_dueDayOf_1 ?_
  refine lv_iload_n hx hb d_S_dueDayOf_4 rfl (lv_at hl 1 rfl) ?_
  obtain ⟨h1, hM⟩ := gd_some hM
  refine va_iald hx hb hK hP 9 0 rfl rfl (vp_in_iff.mpr h1) d_S_dueDayOf_5 ?_
  refine lv_if_ne (tgt := 15) hx hb d_S_dueDayOf_6 (by decide) (fun c2 => ?_) (fun c2 => ?_)
  · replace hM := it_f c2 hM
    refine lv_aload_n hx hb d_S_dueDayOf_15 rfl (lv_at hl 0 rfl) ?_
    refine va_get (D := D) (ci := 1) (v := .ref (ad 10)) (C := R_S) (T := T_S) (N := 9) hx hb hts in_S hown hK hP 6 rfl rfl 3 (by decide) (hts _ mm_75) (fun _ h9 => h9) rfl d_S_dueDayOf_16 ?_
    refine lv_iload_n hx hb d_S_dueDayOf_19 rfl (lv_at hl 1 rfl) ?_
    obtain ⟨h3, hM⟩ := gd_some hM
    refine va_lald hx hb hK hP 10 1 rfl rfl (vp_in_iff.mpr h3) d_S_dueDayOf_20 ?_
    obtain rfl := Option.some.inj hM
    exact W.lret (v := ((l_due u) x1.toNatClampNeg)) hx hb hr (fun t ht hW => ⟨⟨((l_due u) x1.toNatClampNeg), (), rfl, rfl, trivial⟩, hS.F ht⟩) hS.2.2 d_S_dueDayOf_21
  · replace hM := it_t c2 hM
    refine lv_ldc2 (v := (-1 : Int64)) hx hb hown (hts _ mm_187) d_S_dueDayOf_9 ?_
    refine lv_goto (tgt := 21) hx hb d_S_dueDayOf_12 (by decide) ?_
    obtain rfl := Option.some.inj hM
    exact W.lret (v := (-1 : Int64)) hx hb hr (fun t ht hW => ⟨⟨(-1 : Int64), (), rfl, rfl, trivial⟩, hS.F ht⟩) hS.2.2 d_S_dueDayOf_21
end
set_option maxRecDepth 100000 in
theorem c_S_dueDayOf (l : Launch) (D : va_G) (cI cJ cZ : ClassId) (ad : Nat → Nat) (sz : Nat) (x1 : Int32) (u : Lib) (res : Int64) (hM : B_S_dueDayOf_0 x1 u = some res) : Met l y_S_dueDayOf ws_S_dueDayOf rm_S_dueDayOf (va_Pc [.ref (ad 6), .int x1] (pr_ D cl9 (tyy cI cJ cZ) (cL cI cJ cZ ad) u sz)) (Qrl (va_A [] sz) res) 0 0 (va_A [] sz) := by
  refine Met.ofW (cc := prog_3_method_11_code) (maxL := 2) (ret := (Option.some FieldType.long)) (by decide) rfl ?_
  intro p e s m args below meth c s₁ B hml hv
  obtain ⟨rfl, hsz, hP, hK, hD0⟩ := hv
  subst hsz
  have hts0 := atoms_spec (ws := ws_S_dueDayOf) B.pre
  have hl := lv_entry ([.ref (ad 6), .int x1]) (n := 2) (Nat.le_of_ble_eq_true rfl)
  rw [lg_entry_eq]
  generalize (lg_sl ([.ref (ad 6), .int x1]) ++ List.replicate (2 - (lg_sl ([.ref (ad 6), .int x1])).length) Slot.unset).toArray = ls at hl ⊢
  exact w_S_dueDayOf_0 ⟨B.exec, B.bytes, B.returns, hml, findClass_of_methodNamed B.named, fun w h => hts0 w (List.mem_cons_of_mem _ h), B.notSynchronized, hK, fun q h => Or.inr h⟩ x1 u s.heap [] ls hP hD0 va_S.rf hl hM
section
variable {p : Program} {l : Launch} {e : Env} {s : State} {m : MethodId} {args : Array Value} {below : List Frame} {meth : Method} {c : Code} {D : va_G} {cI cJ cZ : ClassId} {A : Nat → Prop} {ad : Nat → Nat}
set_option maxHeartbeats 4000000 in
set_option maxRecDepth 100000 in
theorem w_S_storesWith_29 {k5 : Int32 → Int32 → Int32 → Int32 → Lib → Option Int32} {res : Int32} (C : Cx p s m args meth c prog_3_method_14_code 5 (Option.some FieldType.int) "PlainLibrary$Shelves" tb D cl9 (tyy cI cJ cZ) A) (hk5 : ∀ (x1 : Int32) (x2 : Int32) (x3 : Int32) (x4 : Int32) (u : Lib) (H : Heap) (locs : List Loc) (ls : Array Slot), va_P D cl9 ((cL cI cJ cZ ad) u) H → va_D (fun _ => True) ((cL cI cJ cZ ad) u) → va_S A s.heap H locs → lv_has ls 5 [(0, .ref (ad 6)), (1, .int x1), (2, .int x2), (3, .int x3), (4, .int x4)] → k5 x1 x2 x3 x4 u = some res → W p l e rm_S_storesWith s m args below meth c H locs 0 0 (MQ below (Qri A res) args s 0 0 A) (F0 m 5 ls [])) (x1 : Int32) (x2 : Int32) (x3 : Int32) (x4 : Int32) (u : Lib) (H : Heap) (locs : List Loc) (ls : Array Slot) (hP : va_P D cl9 ((cL cI cJ cZ ad) u) H) (hD : va_D (fun _ => True) ((cL cI cJ cZ ad) u)) (hS : va_S A s.heap H locs) (hl : lv_has ls 5 [(0, .ref (ad 6)), (1, .int x1), (2, .int x2), (3, .int x3), (4, .int x4)]) (hM : B_S_storesWith_29 k5 x1 x2 x3 x4 u = some res) : W p l e rm_S_storesWith s m args below meth c H locs 0 0 (MQ below (Qri A res) args s 0 0 A) (F0 m 29 ls []) := by
  have C0 := C
  obtain ⟨hx, hb, hr, hml, hown, hts, hlocks, hK, hA⟩ := C
  replace C := C0
  unfold B_S_storesWith_29 at hM
  refine lv_iinc (v := (x4 + (1 : Int32))) (lv' := [(4, .int (x4 + (1 : Int32))), (0, .ref (ad 6)), (1, .int x1), (2, .int x2), (3, .int x3)]) hx hb d_S_storesWith_29 hl (k := 4) rfl rfl (by decide) rfl (fun ls hl => ?_)
  refine lv_goto (tgt := 5) hx hb d_S_storesWith_32 (by decide) ?_
  exact hk5 x1 x2 x3 (x4 + (1 : Int32)) u H locs ls hP hD hS (lv_sub hl [1, 2, 3, 4, 0] rfl) hM
set_option maxHeartbeats 4000000 in
set_option maxRecDepth 100000 in
theorem w_S_storesWith_5s {res : Int32} (C : Cx p s m args meth c prog_3_method_14_code 5 (Option.some FieldType.int) "PlainLibrary$Shelves" tb D cl9 (tyy cI cJ cZ) A) {k5 : Int32 → Int32 → Int32 → Int32 → Lib → Option Int32} (hk5 : ∀ (x1 : Int32) (x2 : Int32) (x3 : Int32) (x4 : Int32) (u : Lib) (H : Heap) (locs : List Loc) (ls : Array Slot), va_P D cl9 ((cL cI cJ cZ ad) u) H → va_D (fun _ => True) ((cL cI cJ cZ ad) u) → va_S A s.heap H locs → lv_has ls 5 [(0, .ref (ad 6)), (1, .int x1), (2, .int x2), (3, .int x3), (4, .int x4)] → k5 x1 x2 x3 x4 u = some res → W p l e rm_S_storesWith s m args below meth c H locs 0 0 (MQ below (Qri A res) args s 0 0 A) (F0 m 5 ls [])) (x1 : Int32) (x2 : Int32) (x3 : Int32) (x4 : Int32) (u : Lib) (H : Heap) (locs : List Loc) (ls : Array Slot) (hP : va_P D cl9 ((cL cI cJ cZ ad) u) H) (hD : va_D (fun _ => True) ((cL cI cJ cZ ad) u)) (hS : va_S A s.heap H locs) (hl : lv_has ls 5 [(0, .ref (ad 6)), (1, .int x1), (2, .int x2), (3, .int x3), (4, .int x4)]) (hM : B_S_storesWith_5s k5 x1 x2 x3 x4 u = some res) : W p l e rm_S_storesWith s m args below meth c H locs 0 0 (MQ below (Qri A res) args s 0 0 A) (F0 m 5 ls []) := by
  have C0 := C
  obtain ⟨hx, hb, hr, hml, hown, hts, hlocks, hK, hA⟩ := C
  replace C := C0
  unfold B_S_storesWith_5s at hM
  refine lv_iload hx hb d_S_storesWith_5 (lv_at hl 4 rfl) ?_
  refine lv_iconst (v := (5 : Int32)) hx hb d_S_storesWith_7 (by decide) ?_
  refine lv_icmp_gt (tgt := 35) hx hb d_S_storesWith_8 (by decide) (fun c1 => ?_) (fun c1 => ?_)
  · replace hM := it_t c1 hM
    refine lv_iload_n hx hb d_S_storesWith_35 rfl (lv_at hl 3 rfl) ?_
    obtain rfl := Option.some.inj hM
    exact W.iret (v := x3) hx hb hr (fun t ht hW => ⟨⟨x3, (), rfl, rfl, trivial⟩, hS.F ht⟩) hS.2.2 d_S_storesWith_36
  · replace hM := it_f c1 hM
    refine lv_aload_n hx hb d_S_storesWith_11 rfl (lv_at hl 0 rfl) ?_
    refine va_get (D := D) (ci := 1) (v := .ref (ad 15)) (C := R_S) (T := T_S) (N := 9) hx hb hts in_S hown hK hP 6 rfl rfl 8 (by decide) (hts _ mm_80) (fun _ h9 => h9) rfl d_S_storesWith_12 ?_
    refine lv_iload_n hx hb d_S_storesWith_15 rfl (lv_at hl 1 rfl) ?_
    refine lv_iload hx hb d_S_storesWith_16 (lv_at hl 4 rfl) ?_
    obtain ⟨v2, hq2, hM⟩ := bd_some hM
    refine fr_i (res := v2) (va_runS (As := [.int x1, .int x4]) (rest := [.ref (ad 15)]) ⟨hx, hb, hml, hown, hts⟩ (c_S_sumIndex l D cI cJ cZ H.size x1 x4 v2 hq2) (va_cwS 2 hts (gS mm_217 mm_218 mm_29 mm_219) rfl rfl rfl hs_S_sumIndex ⟨Nat.le_of_ble_eq_true rfl, Nat.le_of_ble_eq_true rfl⟩) (ps_ (F := nW) (u := ()) hK nP (nD (A := fun _ => True))) rfl rfl hl.1 rfl (lv_room (Nat.le_of_ble_eq_true rfl)) d_S_storesWith_18 ⟨Nat.le_of_ble_eq_true rfl, Nat.le_of_ble_eq_true rfl⟩) hP hS hA (fun H locs hP hS => ?_)
    obtain ⟨h3, hM⟩ := gd_some hM
    refine va_iald hx hb hK hP 15 0 rfl rfl (vp_in_iff.mpr h3) d_S_storesWith_21 ?_
    refine lv_iload_n hx hb d_S_storesWith_22 rfl (lv_at hl 2 rfl) ?_
    refine lv_icmp_ne (tgt := 29) hx hb d_S_storesWith_23 (by decide) (fun c4 => ?_) (fun c4 => ?_)
    · replace hM := it_f c4 hM
      exact w_S_storesWith_29 C hk5 x1 x2 x3 x4 u H locs ls hP hD hS (lv_sub hl [0, 1, 2, 3, 4] rfl) hM
    · replace hM := it_t c4 hM
      refine lv_iinc (v := (x3 + (1 : Int32))) (lv' := [(3, .int (x3 + (1 : Int32))), (0, .ref (ad 6)), (1, .int x1), (2, .int x2), (4, .int x4)]) hx hb d_S_storesWith_26 hl (k := 3) rfl rfl (by decide) rfl (fun ls hl => ?_)
      exact w_S_storesWith_29 C hk5 x1 x2 (x3 + (1 : Int32)) x4 u H locs ls hP hD hS (lv_sub hl [1, 2, 3, 0, 4] rfl) hM
theorem w_S_storesWith_5 {res : Int32} (C : Cx p s m args meth c prog_3_method_14_code 5 (Option.some FieldType.int) "PlainLibrary$Shelves" tb D cl9 (tyy cI cJ cZ) A) : ∀ (fu : Nat) (x1 : Int32) (x2 : Int32) (x3 : Int32) (x4 : Int32) (u : Lib) (H : Heap) (locs : List Loc) (ls : Array Slot), va_P D cl9 ((cL cI cJ cZ ad) u) H → va_D (fun _ => True) ((cL cI cJ cZ ad) u) → va_S A s.heap H locs → lv_has ls 5 [(0, .ref (ad 6)), (1, .int x1), (2, .int x2), (3, .int x3), (4, .int x4)] → B_S_storesWith_5 fu x1 x2 x3 x4 u = some res → W p l e rm_S_storesWith s m args below meth c H locs 0 0 (MQ below (Qri A res) args s 0 0 A) (F0 m 5 ls []) := by
  intro fu
  induction fu with
  | zero =>
    intro x1 x2 x3 x4 u H locs ls hP hD hS hl hM
    have hM : (none : Option Int32) = some res := hM
    cases hM
  | succ fu ih =>
    intro x1 x2 x3 x4 u H locs ls hP hD hS hl hM
    exact w_S_storesWith_5s C ih x1 x2 x3 x4 u H locs ls hP hD hS hl hM
set_option maxHeartbeats 4000000 in
set_option maxRecDepth 100000 in
theorem w_S_storesWith_0 {res : Int32} (C : Cx p s m args meth c prog_3_method_14_code 5 (Option.some FieldType.int) "PlainLibrary$Shelves" tb D cl9 (tyy cI cJ cZ) A) (x1 : Int32) (x2 : Int32) (u : Lib) (H : Heap) (locs : List Loc) (ls : Array Slot) (hP : va_P D cl9 ((cL cI cJ cZ ad) u) H) (hD : va_D (fun _ => True) ((cL cI cJ cZ ad) u)) (hS : va_S A s.heap H locs) (hl : lv_has ls 5 [(0, .ref (ad 6)), (1, .int x1), (2, .int x2)]) (hM : B_S_storesWith_0 x1 x2 u = some res) : W p l e rm_S_storesWith s m args below meth c H locs 0 0 (MQ below (Qri A res) args s 0 0 A) (F0 m 0 ls []) := by
  have C0 := C
  obtain ⟨hx, hb, hr, hml, hown, hts, hlocks, hK, hA⟩ := C
  replace C := C0
  unfold B_S_storesWith_0 at hM
  refine lv_iconst (v := (0 : Int32)) hx hb d_S_storesWith_0 (by decide) ?_
  refine lv_istore_n (lv' := [(3, .int (0 : Int32)), (0, .ref (ad 6)), (1, .int x1), (2, .int x2)]) hx hb d_S_storesWith_1 rfl hl (by decide) rfl (fun ls hl => ?_)
  refine lv_iconst (v := (1 : Int32)) hx hb d_S_storesWith_2 (by decide) ?_
  refine lv_istore (lv' := [(4, .int (1 : Int32)), (3, .int (0 : Int32)), (0, .ref (ad 6)), (1, .int x1), (2, .int x2)]) hx hb d_S_storesWith_3 hl (by decide) rfl (fun ls hl => ?_)
  exact w_S_storesWith_5 C FU x1 x2 (0 : Int32) (1 : Int32) u H locs ls hP hD hS (lv_sub hl [2, 3, 4, 1, 0] rfl) hM
end
set_option maxRecDepth 100000 in
theorem c_S_storesWith (l : Launch) (D : va_G) (cI cJ cZ : ClassId) (ad : Nat → Nat) (sz : Nat) (x1 : Int32) (x2 : Int32) (u : Lib) (res : Int32) (hM : B_S_storesWith_0 x1 x2 u = some res) : Met l y_S_storesWith ws_S_storesWith rm_S_storesWith (va_Pc [.ref (ad 6), .int x1, .int x2] (pr_ D cl9 (tyy cI cJ cZ) (cL cI cJ cZ ad) u sz)) (Qri (va_A [] sz) res) 0 0 (va_A [] sz) := by
  refine Met.ofW (cc := prog_3_method_14_code) (maxL := 5) (ret := (Option.some FieldType.int)) (by decide) rfl ?_
  intro p e s m args below meth c s₁ B hml hv
  obtain ⟨rfl, hsz, hP, hK, hD0⟩ := hv
  subst hsz
  have hts0 := atoms_spec (ws := ws_S_storesWith) B.pre
  have hl := lv_entry ([.ref (ad 6), .int x1, .int x2]) (n := 5) (Nat.le_of_ble_eq_true rfl)
  rw [lg_entry_eq]
  generalize (lg_sl ([.ref (ad 6), .int x1, .int x2]) ++ List.replicate (5 - (lg_sl ([.ref (ad 6), .int x1, .int x2])).length) Slot.unset).toArray = ls at hl ⊢
  exact w_S_storesWith_0 ⟨B.exec, B.bytes, B.returns, hml, findClass_of_methodNamed B.named, fun w h => hts0 w (List.mem_cons_of_mem _ h), B.notSynchronized, hK, fun q h => Or.inr h⟩ x1 x2 u s.heap [] ls hP hD0 va_S.rf hl hM
section
variable {p : Program} {l : Launch} {e : Env} {s : State} {m : MethodId} {args : Array Value} {below : List Frame} {meth : Method} {c : Code} {D : va_G} {cI cJ cZ : ClassId} {A : Nat → Prop} {ad : Nat → Nat}
set_option maxHeartbeats 4000000 in
set_option maxRecDepth 100000 in
theorem w_S_commonSumOf_33s {res : Int32} (C : Cx p s m args meth c prog_3_method_13_code 4 (Option.some FieldType.int) "PlainLibrary$Shelves" tb D cl9 (tyy cI cJ cZ) A) {k33 : Int32 → Int32 → Int32 → Lib → Option Int32} (hk33 : ∀ (x1 : Int32) (x2 : Int32) (x3 : Int32) (u : Lib) (H : Heap) (locs : List Loc) (ls : Array Slot), va_P D cl9 ((cL cI cJ cZ ad) u) H → va_D (fun _ => True) ((cL cI cJ cZ ad) u) → va_S A s.heap H locs → lv_has ls 4 [(0, .ref (ad 6)), (1, .int x1), (2, .int x2), (3, .int x3)] → k33 x1 x2 x3 u = some res → W p l e rm_S_commonSumOf s m args below meth c H locs 0 0 (MQ below (Qri A res) args s 0 0 A) (F0 m 33 ls [])) (x1 : Int32) (x2 : Int32) (x3 : Int32) (u : Lib) (H : Heap) (locs : List Loc) (ls : Array Slot) (hP : va_P D cl9 ((cL cI cJ cZ ad) u) H) (hD : va_D (fun _ => True) ((cL cI cJ cZ ad) u)) (hS : va_S A s.heap H locs) (hl : lv_has ls 4 [(0, .ref (ad 6)), (1, .int x1), (2, .int x2), (3, .int x3)]) (hM : B_S_commonSumOf_33s k33 x1 x2 x3 u = some res) : W p l e rm_S_commonSumOf s m args below meth c H locs 0 0 (MQ below (Qri A res) args s 0 0 A) (F0 m 33 ls []) := by
  have C0 := C
  obtain ⟨hx, hb, hr, hml, hown, hts, hlocks, hK, hA⟩ := C
  replace C := C0
  unfold B_S_commonSumOf_33s at hM
  refine lv_iload_n hx hb d_S_commonSumOf_33 rfl (lv_at hl 3 rfl) ?_
  refine lv_bipush (v := (7 : Int32)) hx hb d_S_commonSumOf_34 (by decide) ?_
  refine lv_icmp_ge (tgt := 59) hx hb d_S_commonSumOf_36 (by decide) (fun c1 => ?_) (fun c1 => ?_)
  · replace hM := it_t c1 hM
    refine lv_bipush (v := (7 : Int32)) hx hb d_S_commonSumOf_59 (by decide) ?_
    obtain rfl := Option.some.inj hM
    exact W.iret (v := (7 : Int32)) hx hb hr (fun t ht hW => ⟨⟨(7 : Int32), (), rfl, rfl, trivial⟩, hS.F ht⟩) hS.2.2 d_S_commonSumOf_61
  · replace hM := it_f c1 hM
    refine lv_iconst (v := (2 : Int32)) hx hb d_S_commonSumOf_39 (by decide) ?_
    refine lv_aload_n hx hb d_S_commonSumOf_40 rfl (lv_at hl 0 rfl) ?_
    refine lv_iload_n hx hb d_S_commonSumOf_41 rfl (lv_at hl 1 rfl) ?_
    refine lv_iload_n hx hb d_S_commonSumOf_42 rfl (lv_at hl 3 rfl) ?_
    obtain ⟨v2, hq2, hM⟩ := bd_some hM
    refine fr_i (res := v2) (va_runV (As := [.int x1, .int x3]) (rest := [.int (2 : Int32)]) ⟨hx, hb, hml, hown, hts⟩ (c_S_storesWith l D cI cJ cZ ad H.size x1 x3 u v2 hq2) (cwV 2 hts (gV mm_304 mm_306 (ms_ 12 rfl rfl) mm_29 mm_307) rfl rfl rfl hd_S_storesWith ⟨Nat.le_of_ble_eq_true rfl, Nat.le_of_ble_eq_true rfl⟩) (pv_ (F := (cL cI cJ cZ ad)) (u := u) hK hP hD (va_recv hK hP (ci := 1) (q0 := 6) rfl rfl)) rfl rfl hl.1 rfl (lv_room (Nat.le_of_ble_eq_true rfl)) d_S_commonSumOf_43 ⟨Nat.le_of_ble_eq_true rfl, Nat.le_of_ble_eq_true rfl⟩) hP hS hA (fun H locs hP hS => ?_)
    refine lv_imul hx hb d_S_commonSumOf_46 ?_
    refine lv_iload_n hx hb d_S_commonSumOf_47 rfl (lv_at hl 2 rfl) ?_
    refine lv_icmp_le (tgt := 53) hx hb d_S_commonSumOf_48 (by decide) (fun c3 => ?_) (fun c3 => ?_)
    · replace hM := it_t c3 hM
      refine lv_iinc (v := (x3 + (1 : Int32))) (lv' := [(3, .int (x3 + (1 : Int32))), (0, .ref (ad 6)), (1, .int x1), (2, .int x2)]) hx hb d_S_commonSumOf_53 hl (k := 3) rfl rfl (by decide) rfl (fun ls hl => ?_)
      refine lv_goto (tgt := 33) hx hb d_S_commonSumOf_56 (by decide) ?_
      exact hk33 x1 x2 (x3 + (1 : Int32)) u H locs ls hP hD hS (lv_sub hl [1, 2, 3, 0] rfl) hM
    · replace hM := it_f c3 hM
      refine lv_iload_n hx hb d_S_commonSumOf_51 rfl (lv_at hl 3 rfl) ?_
      obtain rfl := Option.some.inj hM
      exact W.iret (v := x3) hx hb hr (fun t ht hW => ⟨⟨x3, (), rfl, rfl, trivial⟩, hS.F ht⟩) hS.2.2 d_S_commonSumOf_52
theorem w_S_commonSumOf_33 {res : Int32} (C : Cx p s m args meth c prog_3_method_13_code 4 (Option.some FieldType.int) "PlainLibrary$Shelves" tb D cl9 (tyy cI cJ cZ) A) : ∀ (fu : Nat) (x1 : Int32) (x2 : Int32) (x3 : Int32) (u : Lib) (H : Heap) (locs : List Loc) (ls : Array Slot), va_P D cl9 ((cL cI cJ cZ ad) u) H → va_D (fun _ => True) ((cL cI cJ cZ ad) u) → va_S A s.heap H locs → lv_has ls 4 [(0, .ref (ad 6)), (1, .int x1), (2, .int x2), (3, .int x3)] → B_S_commonSumOf_33 fu x1 x2 x3 u = some res → W p l e rm_S_commonSumOf s m args below meth c H locs 0 0 (MQ below (Qri A res) args s 0 0 A) (F0 m 33 ls []) := by
  intro fu
  induction fu with
  | zero =>
    intro x1 x2 x3 u H locs ls hP hD hS hl hM
    have hM : (none : Option Int32) = some res := hM
    cases hM
  | succ fu ih =>
    intro x1 x2 x3 u H locs ls hP hD hS hl hM
    exact w_S_commonSumOf_33s C ih x1 x2 x3 u H locs ls hP hD hS hl hM
set_option maxHeartbeats 4000000 in
set_option maxRecDepth 100000 in
theorem w_S_commonSumOf_4s {res : Int32} (C : Cx p s m args meth c prog_3_method_13_code 4 (Option.some FieldType.int) "PlainLibrary$Shelves" tb D cl9 (tyy cI cJ cZ) A) {k4 : Int32 → Int32 → Int32 → Lib → Option Int32} (hk4 : ∀ (x1 : Int32) (x2 : Int32) (x3 : Int32) (u : Lib) (H : Heap) (locs : List Loc) (ls : Array Slot), va_P D cl9 ((cL cI cJ cZ ad) u) H → va_D (fun _ => True) ((cL cI cJ cZ ad) u) → va_S A s.heap H locs → lv_has ls 4 [(0, .ref (ad 6)), (1, .int x1), (2, .int x2), (3, .int x3)] → k4 x1 x2 x3 u = some res → W p l e rm_S_commonSumOf s m args below meth c H locs 0 0 (MQ below (Qri A res) args s 0 0 A) (F0 m 4 ls [])) (x1 : Int32) (x2 : Int32) (x3 : Int32) (u : Lib) (H : Heap) (locs : List Loc) (ls : Array Slot) (hP : va_P D cl9 ((cL cI cJ cZ ad) u) H) (hD : va_D (fun _ => True) ((cL cI cJ cZ ad) u)) (hS : va_S A s.heap H locs) (hl : lv_has ls 4 [(0, .ref (ad 6)), (1, .int x1), (2, .int x2), (3, .int x3)]) (hM : B_S_commonSumOf_4s k4 x1 x2 x3 u = some res) : W p l e rm_S_commonSumOf s m args below meth c H locs 0 0 (MQ below (Qri A res) args s 0 0 A) (F0 m 4 ls []) := by
  have C0 := C
  obtain ⟨hx, hb, hr, hml, hown, hts, hlocks, hK, hA⟩ := C
  replace C := C0
  unfold B_S_commonSumOf_4s at hM
  refine lv_iload_n hx hb d_S_commonSumOf_4 rfl (lv_at hl 3 rfl) ?_
  refine lv_bipush (v := (7 : Int32)) hx hb d_S_commonSumOf_5 (by decide) ?_
  refine lv_icmp_ge (tgt := 25) hx hb d_S_commonSumOf_7 (by decide) (fun c1 => ?_) (fun c1 => ?_)
  · replace hM := it_t c1 hM
    refine lv_iload_n hx hb d_S_commonSumOf_25 rfl (lv_at hl 2 rfl) ?_
    refine lv_if_ne (tgt := 31) hx hb d_S_commonSumOf_26 (by decide) (fun c2 => ?_) (fun c2 => ?_)
    · replace hM := it_f c2 hM
      refine lv_iconst (v := (0 : Int32)) hx hb d_S_commonSumOf_31 (by decide) ?_
      refine lv_istore_n (lv' := [(3, .int (0 : Int32)), (0, .ref (ad 6)), (1, .int x1), (2, .int x2)]) hx hb d_S_commonSumOf_32 rfl hl (by decide) rfl (fun ls hl => ?_)
      exact w_S_commonSumOf_33 C FU x1 x2 (0 : Int32) u H locs ls hP hD hS (lv_sub hl [1, 2, 3, 0] rfl) hM
    · replace hM := it_t c2 hM
      refine lv_iconst (v := (-1 : Int32)) hx hb d_S_commonSumOf_29 (by decide) ?_
      obtain rfl := Option.some.inj hM
      exact W.iret (v := (-1 : Int32)) hx hb hr (fun t ht hW => ⟨⟨(-1 : Int32), (), rfl, rfl, trivial⟩, hS.F ht⟩) hS.2.2 d_S_commonSumOf_30
  · replace hM := it_f c1 hM
    refine lv_iload_n hx hb d_S_commonSumOf_10 rfl (lv_at hl 2 rfl) ?_
    refine lv_aload_n hx hb d_S_commonSumOf_11 rfl (lv_at hl 0 rfl) ?_
    refine lv_iload_n hx hb d_S_commonSumOf_12 rfl (lv_at hl 1 rfl) ?_
    refine lv_iload_n hx hb d_S_commonSumOf_13 rfl (lv_at hl 3 rfl) ?_
    obtain ⟨v3, hq3, hM⟩ := bd_some hM
    refine fr_i (res := v3) (va_runV (As := [.int x1, .int x3]) (rest := [.int x2]) ⟨hx, hb, hml, hown, hts⟩ (c_S_storesWith l D cI cJ cZ ad H.size x1 x3 u v3 hq3) (cwV 2 hts (gV mm_304 mm_306 (ms_ 12 rfl rfl) mm_29 mm_307) rfl rfl rfl hd_S_storesWith ⟨Nat.le_of_ble_eq_true rfl, Nat.le_of_ble_eq_true rfl⟩) (pv_ (F := (cL cI cJ cZ ad)) (u := u) hK hP hD (va_recv hK hP (ci := 1) (q0 := 6) rfl rfl)) rfl rfl hl.1 rfl (lv_room (Nat.le_of_ble_eq_true rfl)) d_S_commonSumOf_14 ⟨Nat.le_of_ble_eq_true rfl, Nat.le_of_ble_eq_true rfl⟩) hP hS hA (fun H locs hP hS => ?_)
    refine lv_iadd hx hb d_S_commonSumOf_17 ?_
    refine lv_istore_n (lv' := [(2, .int (x2 + v3)), (0, .ref (ad 6)), (1, .int x1), (3, .int x3)]) hx hb d_S_commonSumOf_18 rfl hl (by decide) rfl (fun ls hl => ?_)
    refine lv_iinc (v := (x3 + (1 : Int32))) (lv' := [(3, .int (x3 + (1 : Int32))), (2, .int (x2 + v3)), (0, .ref (ad 6)), (1, .int x1)]) hx hb d_S_commonSumOf_19 hl (k := 3) rfl rfl (by decide) rfl (fun ls hl => ?_)
    refine lv_goto (tgt := 4) hx hb d_S_commonSumOf_22 (by decide) ?_
    exact hk4 x1 (x2 + v3) (x3 + (1 : Int32)) u H locs ls hP hD hS (lv_sub hl [2, 3, 1, 0] rfl) hM
theorem w_S_commonSumOf_4 {res : Int32} (C : Cx p s m args meth c prog_3_method_13_code 4 (Option.some FieldType.int) "PlainLibrary$Shelves" tb D cl9 (tyy cI cJ cZ) A) : ∀ (fu : Nat) (x1 : Int32) (x2 : Int32) (x3 : Int32) (u : Lib) (H : Heap) (locs : List Loc) (ls : Array Slot), va_P D cl9 ((cL cI cJ cZ ad) u) H → va_D (fun _ => True) ((cL cI cJ cZ ad) u) → va_S A s.heap H locs → lv_has ls 4 [(0, .ref (ad 6)), (1, .int x1), (2, .int x2), (3, .int x3)] → B_S_commonSumOf_4 fu x1 x2 x3 u = some res → W p l e rm_S_commonSumOf s m args below meth c H locs 0 0 (MQ below (Qri A res) args s 0 0 A) (F0 m 4 ls []) := by
  intro fu
  induction fu with
  | zero =>
    intro x1 x2 x3 u H locs ls hP hD hS hl hM
    have hM : (none : Option Int32) = some res := hM
    cases hM
  | succ fu ih =>
    intro x1 x2 x3 u H locs ls hP hD hS hl hM
    exact w_S_commonSumOf_4s C ih x1 x2 x3 u H locs ls hP hD hS hl hM
set_option maxHeartbeats 4000000 in
set_option maxRecDepth 100000 in
theorem w_S_commonSumOf_0 {res : Int32} (C : Cx p s m args meth c prog_3_method_13_code 4 (Option.some FieldType.int) "PlainLibrary$Shelves" tb D cl9 (tyy cI cJ cZ) A) (x1 : Int32) (u : Lib) (H : Heap) (locs : List Loc) (ls : Array Slot) (hP : va_P D cl9 ((cL cI cJ cZ ad) u) H) (hD : va_D (fun _ => True) ((cL cI cJ cZ ad) u)) (hS : va_S A s.heap H locs) (hl : lv_has ls 4 [(0, .ref (ad 6)), (1, .int x1)]) (hM : B_S_commonSumOf_0 x1 u = some res) : W p l e rm_S_commonSumOf s m args below meth c H locs 0 0 (MQ below (Qri A res) args s 0 0 A) (F0 m 0 ls []) := by
  have C0 := C
  obtain ⟨hx, hb, hr, hml, hown, hts, hlocks, hK, hA⟩ := C
  replace C := C0
  unfold B_S_commonSumOf_0 at hM
  refine lv_iconst (v := (0 : Int32)) hx hb d_S_commonSumOf_0 (by decide) ?_
  refine lv_istore_n (lv' := [(2, .int (0 : Int32)), (0, .ref (ad 6)), (1, .int x1)]) hx hb d_S_commonSumOf_1 rfl hl (by decide) rfl (fun ls hl => ?_)
  refine lv_iconst (v := (0 : Int32)) hx hb d_S_commonSumOf_2 (by decide) ?_
  refine lv_istore_n (lv' := [(3, .int (0 : Int32)), (2, .int (0 : Int32)), (0, .ref (ad 6)), (1, .int x1)]) hx hb d_S_commonSumOf_3 rfl hl (by decide) rfl (fun ls hl => ?_)
  exact w_S_commonSumOf_4 C FU x1 (0 : Int32) (0 : Int32) u H locs ls hP hD hS (lv_sub hl [2, 3, 1, 0] rfl) hM
end
set_option maxRecDepth 100000 in
theorem c_S_commonSumOf (l : Launch) (D : va_G) (cI cJ cZ : ClassId) (ad : Nat → Nat) (sz : Nat) (x1 : Int32) (u : Lib) (res : Int32) (hM : B_S_commonSumOf_0 x1 u = some res) : Met l y_S_commonSumOf ws_S_commonSumOf rm_S_commonSumOf (va_Pc [.ref (ad 6), .int x1] (pr_ D cl9 (tyy cI cJ cZ) (cL cI cJ cZ ad) u sz)) (Qri (va_A [] sz) res) 0 0 (va_A [] sz) := by
  refine Met.ofW (cc := prog_3_method_13_code) (maxL := 4) (ret := (Option.some FieldType.int)) (by decide) rfl ?_
  intro p e s m args below meth c s₁ B hml hv
  obtain ⟨rfl, hsz, hP, hK, hD0⟩ := hv
  subst hsz
  have hts0 := atoms_spec (ws := ws_S_commonSumOf) B.pre
  have hl := lv_entry ([.ref (ad 6), .int x1]) (n := 4) (Nat.le_of_ble_eq_true rfl)
  rw [lg_entry_eq]
  generalize (lg_sl ([.ref (ad 6), .int x1]) ++ List.replicate (4 - (lg_sl ([.ref (ad 6), .int x1])).length) Slot.unset).toArray = ls at hl ⊢
  exact w_S_commonSumOf_0 ⟨B.exec, B.bytes, B.returns, hml, findClass_of_methodNamed B.named, fun w h => hts0 w (List.mem_cons_of_mem _ h), B.notSynchronized, hK, fun q h => Or.inr h⟩ x1 u s.heap [] ls hP hD0 va_S.rf hl hM
section
variable {p : Program} {l : Launch} {e : Env} {s : State} {m : MethodId} {args : Array Value} {below : List Frame} {meth : Method} {c : Code} {D : va_G} {cI cJ cZ : ClassId} {A : Nat → Prop} {ad : Nat → Nat}
set_option maxHeartbeats 4000000 in
set_option maxRecDepth 100000 in
theorem w_S_copiesWith_23 {k4 : Int32 → Int32 → Int32 → Lib → Option Int32} {res : Int32} (C : Cx p s m args meth c prog_3_method_8_code 4 (Option.some FieldType.int) "PlainLibrary$Shelves" tb D cl9 (tyy cI cJ cZ) A) (hk4 : ∀ (x1 : Int32) (x2 : Int32) (x3 : Int32) (u : Lib) (H : Heap) (locs : List Loc) (ls : Array Slot), va_P D cl9 ((cL cI cJ cZ ad) u) H → va_D (fun _ => True) ((cL cI cJ cZ ad) u) → va_S A s.heap H locs → lv_has ls 4 [(0, .ref (ad 6)), (1, .int x1), (2, .int x2), (3, .int x3)] → k4 x1 x2 x3 u = some res → W p l e rm_S_copiesWith s m args below meth c H locs 0 0 (MQ below (Qri A res) args s 0 0 A) (F0 m 4 ls [])) (x1 : Int32) (x2 : Int32) (x3 : Int32) (u : Lib) (H : Heap) (locs : List Loc) (ls : Array Slot) (hP : va_P D cl9 ((cL cI cJ cZ ad) u) H) (hD : va_D (fun _ => True) ((cL cI cJ cZ ad) u)) (hS : va_S A s.heap H locs) (hl : lv_has ls 4 [(0, .ref (ad 6)), (1, .int x1), (2, .int x2), (3, .int x3)]) (hM : B_S_copiesWith_23 k4 x1 x2 x3 u = some res) : W p l e rm_S_copiesWith s m args below meth c H locs 0 0 (MQ below (Qri A res) args s 0 0 A) (F0 m 23 ls []) := by
  have C0 := C
  obtain ⟨hx, hb, hr, hml, hown, hts, hlocks, hK, hA⟩ := C
  replace C := C0
  unfold B_S_copiesWith_23 at hM
  refine lv_iinc (v := (x3 + (1 : Int32))) (lv' := [(3, .int (x3 + (1 : Int32))), (0, .ref (ad 6)), (1, .int x1), (2, .int x2)]) hx hb d_S_copiesWith_23 hl (k := 3) rfl rfl (by decide) rfl (fun ls hl => ?_)
  refine lv_goto (tgt := 4) hx hb d_S_copiesWith_26 (by decide) ?_
  exact hk4 x1 x2 (x3 + (1 : Int32)) u H locs ls hP hD hS (lv_sub hl [1, 2, 3, 0] rfl) hM
set_option maxHeartbeats 4000000 in
set_option maxRecDepth 100000 in
theorem w_S_copiesWith_4s {res : Int32} (C : Cx p s m args meth c prog_3_method_8_code 4 (Option.some FieldType.int) "PlainLibrary$Shelves" tb D cl9 (tyy cI cJ cZ) A) {k4 : Int32 → Int32 → Int32 → Lib → Option Int32} (hk4 : ∀ (x1 : Int32) (x2 : Int32) (x3 : Int32) (u : Lib) (H : Heap) (locs : List Loc) (ls : Array Slot), va_P D cl9 ((cL cI cJ cZ ad) u) H → va_D (fun _ => True) ((cL cI cJ cZ ad) u) → va_S A s.heap H locs → lv_has ls 4 [(0, .ref (ad 6)), (1, .int x1), (2, .int x2), (3, .int x3)] → k4 x1 x2 x3 u = some res → W p l e rm_S_copiesWith s m args below meth c H locs 0 0 (MQ below (Qri A res) args s 0 0 A) (F0 m 4 ls [])) (x1 : Int32) (x2 : Int32) (x3 : Int32) (u : Lib) (H : Heap) (locs : List Loc) (ls : Array Slot) (hP : va_P D cl9 ((cL cI cJ cZ ad) u) H) (hD : va_D (fun _ => True) ((cL cI cJ cZ ad) u)) (hS : va_S A s.heap H locs) (hl : lv_has ls 4 [(0, .ref (ad 6)), (1, .int x1), (2, .int x2), (3, .int x3)]) (hM : B_S_copiesWith_4s k4 x1 x2 x3 u = some res) : W p l e rm_S_copiesWith s m args below meth c H locs 0 0 (MQ below (Qri A res) args s 0 0 A) (F0 m 4 ls []) := by
  have C0 := C
  obtain ⟨hx, hb, hr, hml, hown, hts, hlocks, hK, hA⟩ := C
  replace C := C0
  unfold B_S_copiesWith_4s at hM
  refine lv_iload_n hx hb d_S_copiesWith_4 rfl (lv_at hl 3 rfl) ?_
  refine lv_bipush (v := (20 : Int32)) hx hb d_S_copiesWith_5 (by decide) ?_
  refine lv_icmp_gt (tgt := 29) hx hb d_S_copiesWith_7 (by decide) (fun c1 => ?_) (fun c1 => ?_)
  · replace hM := it_t c1 hM
    refine lv_iload_n hx hb d_S_copiesWith_29 rfl (lv_at hl 2 rfl) ?_
    obtain rfl := Option.some.inj hM
    exact W.iret (v := x2) hx hb hr (fun t ht hW => ⟨⟨x2, (), rfl, rfl, trivial⟩, hS.F ht⟩) hS.2.2 d_S_copiesWith_30
  · replace hM := it_f c1 hM
    refine lv_aload_n hx hb d_S_copiesWith_10 rfl (lv_at hl 0 rfl) ?_
    refine va_get (D := D) (ci := 1) (v := .ref (ad 9)) (C := R_S) (T := T_S) (N := 9) hx hb hts in_S hown hK hP 6 rfl rfl 2 (by decide) (hts _ mm_74) (fun _ h9 => h9) rfl d_S_copiesWith_11 ?_
    refine lv_iload_n hx hb d_S_copiesWith_14 rfl (lv_at hl 3 rfl) ?_
    obtain ⟨h2, hM⟩ := gd_some hM
    refine va_iald hx hb hK hP 9 0 rfl rfl (vp_in_iff.mpr h2) d_S_copiesWith_15 ?_
    refine lv_iload_n hx hb d_S_copiesWith_16 rfl (lv_at hl 1 rfl) ?_
    refine lv_icmp_ne (tgt := 23) hx hb d_S_copiesWith_17 (by decide) (fun c3 => ?_) (fun c3 => ?_)
    · replace hM := it_f c3 hM
      exact w_S_copiesWith_23 C hk4 x1 x2 x3 u H locs ls hP hD hS (lv_sub hl [0, 1, 2, 3] rfl) hM
    · replace hM := it_t c3 hM
      refine lv_iinc (v := (x2 + (1 : Int32))) (lv' := [(2, .int (x2 + (1 : Int32))), (0, .ref (ad 6)), (1, .int x1), (3, .int x3)]) hx hb d_S_copiesWith_20 hl (k := 2) rfl rfl (by decide) rfl (fun ls hl => ?_)
      exact w_S_copiesWith_23 C hk4 x1 (x2 + (1 : Int32)) x3 u H locs ls hP hD hS (lv_sub hl [1, 2, 0, 3] rfl) hM
theorem w_S_copiesWith_4 {res : Int32} (C : Cx p s m args meth c prog_3_method_8_code 4 (Option.some FieldType.int) "PlainLibrary$Shelves" tb D cl9 (tyy cI cJ cZ) A) : ∀ (fu : Nat) (x1 : Int32) (x2 : Int32) (x3 : Int32) (u : Lib) (H : Heap) (locs : List Loc) (ls : Array Slot), va_P D cl9 ((cL cI cJ cZ ad) u) H → va_D (fun _ => True) ((cL cI cJ cZ ad) u) → va_S A s.heap H locs → lv_has ls 4 [(0, .ref (ad 6)), (1, .int x1), (2, .int x2), (3, .int x3)] → B_S_copiesWith_4 fu x1 x2 x3 u = some res → W p l e rm_S_copiesWith s m args below meth c H locs 0 0 (MQ below (Qri A res) args s 0 0 A) (F0 m 4 ls []) := by
  intro fu
  induction fu with
  | zero =>
    intro x1 x2 x3 u H locs ls hP hD hS hl hM
    have hM : (none : Option Int32) = some res := hM
    cases hM
  | succ fu ih =>
    intro x1 x2 x3 u H locs ls hP hD hS hl hM
    exact w_S_copiesWith_4s C ih x1 x2 x3 u H locs ls hP hD hS hl hM
set_option maxHeartbeats 4000000 in
set_option maxRecDepth 100000 in
theorem w_S_copiesWith_0 {res : Int32} (C : Cx p s m args meth c prog_3_method_8_code 4 (Option.some FieldType.int) "PlainLibrary$Shelves" tb D cl9 (tyy cI cJ cZ) A) (x1 : Int32) (u : Lib) (H : Heap) (locs : List Loc) (ls : Array Slot) (hP : va_P D cl9 ((cL cI cJ cZ ad) u) H) (hD : va_D (fun _ => True) ((cL cI cJ cZ ad) u)) (hS : va_S A s.heap H locs) (hl : lv_has ls 4 [(0, .ref (ad 6)), (1, .int x1)]) (hM : B_S_copiesWith_0 x1 u = some res) : W p l e rm_S_copiesWith s m args below meth c H locs 0 0 (MQ below (Qri A res) args s 0 0 A) (F0 m 0 ls []) := by
  have C0 := C
  obtain ⟨hx, hb, hr, hml, hown, hts, hlocks, hK, hA⟩ := C
  replace C := C0
  unfold B_S_copiesWith_0 at hM
  refine lv_iconst (v := (0 : Int32)) hx hb d_S_copiesWith_0 (by decide) ?_
  refine lv_istore_n (lv' := [(2, .int (0 : Int32)), (0, .ref (ad 6)), (1, .int x1)]) hx hb d_S_copiesWith_1 rfl hl (by decide) rfl (fun ls hl => ?_)
  refine lv_iconst (v := (1 : Int32)) hx hb d_S_copiesWith_2 (by decide) ?_
  refine lv_istore_n (lv' := [(3, .int (1 : Int32)), (2, .int (0 : Int32)), (0, .ref (ad 6)), (1, .int x1)]) hx hb d_S_copiesWith_3 rfl hl (by decide) rfl (fun ls hl => ?_)
  exact w_S_copiesWith_4 C FU x1 (0 : Int32) (1 : Int32) u H locs ls hP hD hS (lv_sub hl [2, 3, 1, 0] rfl) hM
end
set_option maxRecDepth 100000 in
theorem c_S_copiesWith (l : Launch) (D : va_G) (cI cJ cZ : ClassId) (ad : Nat → Nat) (sz : Nat) (x1 : Int32) (u : Lib) (res : Int32) (hM : B_S_copiesWith_0 x1 u = some res) : Met l y_S_copiesWith ws_S_copiesWith rm_S_copiesWith (va_Pc [.ref (ad 6), .int x1] (pr_ D cl9 (tyy cI cJ cZ) (cL cI cJ cZ ad) u sz)) (Qri (va_A [] sz) res) 0 0 (va_A [] sz) := by
  refine Met.ofW (cc := prog_3_method_8_code) (maxL := 4) (ret := (Option.some FieldType.int)) (by decide) rfl ?_
  intro p e s m args below meth c s₁ B hml hv
  obtain ⟨rfl, hsz, hP, hK, hD0⟩ := hv
  subst hsz
  have hts0 := atoms_spec (ws := ws_S_copiesWith) B.pre
  have hl := lv_entry ([.ref (ad 6), .int x1]) (n := 4) (Nat.le_of_ble_eq_true rfl)
  rw [lg_entry_eq]
  generalize (lg_sl ([.ref (ad 6), .int x1]) ++ List.replicate (4 - (lg_sl ([.ref (ad 6), .int x1])).length) Slot.unset).toArray = ls at hl ⊢
  exact w_S_copiesWith_0 ⟨B.exec, B.bytes, B.returns, hml, findClass_of_methodNamed B.named, fun w h => hts0 w (List.mem_cons_of_mem _ h), B.notSynchronized, hK, fun q h => Or.inr h⟩ x1 u s.heap [] ls hP hD0 va_S.rf hl hM
