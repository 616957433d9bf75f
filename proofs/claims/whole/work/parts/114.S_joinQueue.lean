section
variable {p : Program} {l : Launch} {e : Env} {s : State} {m : MethodId} {args : Array Value} {below : List Frame} {meth : Method} {c : Code} {D : va_G} {cI cJ cZ : ClassId} {A : Nat → Prop} {ad : Nat → Nat}
set_option maxHeartbeats 4000000 in
set_option maxRecDepth 100000 in
theorem w_S_joinQueue_0 {res : (Int32 × Lib)} (C : Cx p s m args meth c prog_3_method_24_code 4 (Option.some FieldType.boolean) "PlainLibrary$Shelves" tb D cl9 (tyy cI cJ cZ) A) (x1 : Int32) (x2 : Int32) (u : Lib) (H : Heap) (locs : List Loc) (ls : Array Slot) (hP : va_P D cl9 ((cL cI cJ cZ ad) u) H) (hD : va_D A ((cL cI cJ cZ ad) u)) (hS : va_S A s.heap H locs) (hl : lv_has ls 4 [(0, .ref (ad 6)), (1, .int x1), (2, .int x2)]) (hM : B_S_joinQueue_0 x1 x2 u = some res) : W p l e rm_S_joinQueue s m args below meth c H locs 0 0 (MQ below (Qwi D cl9 (tyy cI cJ cZ) (cL cI cJ cZ ad) A res) args s 0 0 A) (F0 m 0 ls []) := by
  have C0 := C
  obtain ⟨hx, hb, hr, hml, hown, hts, hlocks, hK, hA⟩ := C
  replace C := C0
  unfold B_S_joinQueue_0 at hM
  refine lv_aload_n hx hb d_S_joinQueue_0 rfl (lv_at hl 0 rfl) ?_
  refine va_get (D := D) (ci := 1) (v := .ref (ad 12)) (C := R_S) (T := T_S) (N := 9) hx hb hts in_S hown hK hP 6 rfl rfl 5 (by decide) (hts _ mm_77) (fun _ h9 => h9) rfl d_S_joinQueue_1 ?_
  refine lv_iload_n hx hb d_S_joinQueue_4 rfl (lv_at hl 1 rfl) ?_
  obtain ⟨h1, hM⟩ := gd_some hM
  refine va_iald hx hb hK hP 12 0 rfl rfl (vp_in_iff.mpr h1) d_S_joinQueue_5 ?_
  refine lv_istore_n (lv' := [(3, .int ((l_ql u) x1.toNatClampNeg)), (0, .ref (ad 6)), (1, .int x1), (2, .int x2)]) hx hb d_S_joinQueue_6 rfl hl (by decide) rfl (fun ls hl => ?_)
  refine lv_iload_n hx hb d_S_joinQueue_7 rfl (lv_at hl 0 rfl) ?_
  refine lv_bipush (v := (20 : Int32)) hx hb d_S_joinQueue_8 (by decide) ?_
  refine lv_icmp_ge (tgt := 23) hx hb d_S_joinQueue_10 (by decide) (fun c2 => ?_) (fun c2 => ?_)
  · replace hM := it_t c2 hM
    refine lv_iconst (v := (0 : Int32)) hx hb d_S_joinQueue_23 (by decide) ?_
    obtain rfl := Option.some.inj hM
    exact W.zret (v := (0 : Int32)) hx hb hr rfl (fun t ht hW => ⟨⟨(0 : Int32), u, rfl, rfl, by rw [ht]; exact hP, va_K.moved hW.alike hK, hD⟩, hS.F ht⟩) hS.2.2 d_S_joinQueue_24
  · replace hM := it_f c2 hM
    refine lv_aload_n hx hb d_S_joinQueue_13 rfl (lv_at hl 1 rfl) ?_
    refine lv_iload_n hx hb d_S_joinQueue_14 rfl (lv_at hl 2 rfl) ?_
    refine lv_iload_n hx hb d_S_joinQueue_15 rfl (lv_at hl 3 rfl) ?_
    obtain ⟨v3, hq3, hM⟩ := bd_some hM
    refine fr_i (res := v3) (va_runV (As := [.int x1, .int x2]) (rest := []) ⟨hx, hb, hml, hown, hts⟩ (c_S_placeInQueue l D cI cJ cZ ad H.size x1 x2 u v3 hq3) (cwV 2 hts (gV mm_204 mm_206 (ms_ 6 rfl rfl) mm_29 mm_207) rfl rfl rfl hd_S_placeInQueue ⟨Nat.le_of_ble_eq_true rfl, Nat.le_of_ble_eq_true rfl⟩) (pv_ (F := (cL cI cJ cZ ad)) (u := u) hK hP hD (va_recv hK hP (ci := 1) (q0 := 6) rfl rfl)) rfl rfl hl.1 rfl (lv_room (Nat.le_of_ble_eq_true rfl)) d_S_joinQueue_16 ⟨Nat.le_of_ble_eq_true rfl, Nat.le_of_ble_eq_true rfl⟩) hP hS hA (fun H locs hP hS => ?_)
    refine lv_iconst (v := (-1 : Int32)) hx hb d_S_joinQueue_19 (by decide) ?_
    refine lv_icmp_eq (tgt := 25) hx hb d_S_joinQueue_20 (by decide) (fun c4 => ?_) (fun c4 => ?_)
    · replace hM := it_t c4 hM
      refine lv_aload_n hx hb d_S_joinQueue_25 rfl (lv_at hl 1 rfl) ?_
      refine va_get (D := D) (ci := 1) (v := .ref (ad 11)) (C := R_S) (T := T_S) (N := 9) hx hb hts in_S hown hK hP 6 rfl rfl 4 (by decide) (hts _ mm_76) (fun _ h9 => h9) rfl d_S_joinQueue_26 ?_
      refine lv_iload_n hx hb d_S_joinQueue_29 rfl (lv_at hl 2 rfl) ?_
      refine lv_bipush (v := (20 : Int32)) hx hb d_S_joinQueue_30 (by decide) ?_
      refine lv_imul hx hb d_S_joinQueue_32 ?_
      refine lv_iload_n hx hb d_S_joinQueue_33 rfl (lv_at hl 0 rfl) ?_
      refine lv_iadd hx hb d_S_joinQueue_34 ?_
      refine lv_iload_n hx hb d_S_joinQueue_35 rfl (lv_at hl 3 rfl) ?_
      obtain ⟨h5, hM⟩ := gd_some hM
      refine va_iast hx hb hK hP hD hS 11 0 rfl rfl (vp_in_iff.mpr h5) d_S_joinQueue_36 (fun H locs hP hD hS => ?_)
      have hP : va_P D cl9 ((cL cI cJ cZ ad) (l_qd_w u (upd (l_qd u) ((x1 * (20 : Int32)) + ((l_ql u) x1.toNatClampNeg)).toNatClampNeg x2))) H := hP
      have hD : va_D A ((cL cI cJ cZ ad) (l_qd_w u (upd (l_qd u) ((x1 * (20 : Int32)) + ((l_ql u) x1.toNatClampNeg)).toNatClampNeg x2))) := hD
      refine lv_aload_n hx hb d_S_joinQueue_37 rfl (lv_at hl 1 rfl) ?_
      refine va_get (D := D) (ci := 1) (v := .ref (ad 12)) (C := R_S) (T := T_S) (N := 9) hx hb hts in_S hown hK hP 6 rfl rfl 5 (by decide) (hts _ mm_77) (fun _ h9 => h9) rfl d_S_joinQueue_38 ?_
      refine lv_iload_n hx hb d_S_joinQueue_41 rfl (lv_at hl 2 rfl) ?_
      refine lv_iload_n hx hb d_S_joinQueue_42 rfl (lv_at hl 0 rfl) ?_
      refine lv_iconst (v := (1 : Int32)) hx hb d_S_joinQueue_43 (by decide) ?_
      refine lv_iadd hx hb d_S_joinQueue_44 ?_
      obtain ⟨h6, hM⟩ := gd_some hM
      refine va_iast hx hb hK hP hD hS 12 0 rfl rfl (vp_in_iff.mpr h6) d_S_joinQueue_45 (fun H locs hP hD hS => ?_)
      have hP : va_P D cl9 ((cL cI cJ cZ ad) (l_ql_w (l_qd_w u (upd (l_qd u) ((x1 * (20 : Int32)) + ((l_ql u) x1.toNatClampNeg)).toNatClampNeg x2)) (upd (l_ql (l_qd_w u (upd (l_qd u) ((x1 * (20 : Int32)) + ((l_ql u) x1.toNatClampNeg)).toNatClampNeg x2))) x1.toNatClampNeg (((l_ql u) x1.toNatClampNeg) + (1 : Int32))))) H := hP
      have hD : va_D A ((cL cI cJ cZ ad) (l_ql_w (l_qd_w u (upd (l_qd u) ((x1 * (20 : Int32)) + ((l_ql u) x1.toNatClampNeg)).toNatClampNeg x2)) (upd (l_ql (l_qd_w u (upd (l_qd u) ((x1 * (20 : Int32)) + ((l_ql u) x1.toNatClampNeg)).toNatClampNeg x2))) x1.toNatClampNeg (((l_ql u) x1.toNatClampNeg) + (1 : Int32))))) := hD
      obtain ⟨u7, hu7, hM⟩ := bd_some hM
      rw [Option.some.inj hu7] at hP hD
      refine lv_iconst (v := (1 : Int32)) hx hb d_S_joinQueue_46 (by decide) ?_
      obtain rfl := Option.some.inj hM
      exact W.zret (v := (1 : Int32)) hx hb hr rfl (fun t ht hW => ⟨⟨(1 : Int32), u7, rfl, rfl, by rw [ht]; exact hP, va_K.moved hW.alike hK, hD⟩, hS.F ht⟩) hS.2.2 d_S_joinQueue_47
    · replace hM := it_f c4 hM
      refine lv_iconst (v := (0 : Int32)) hx hb d_S_joinQueue_23 (by decide) ?_
      obtain rfl := Option.some.inj hM
      exact W.zret (v := (0 : Int32)) hx hb hr rfl (fun t ht hW => ⟨⟨(0 : Int32), u, rfl, rfl, by rw [ht]; exact hP, va_K.moved hW.alike hK, hD⟩, hS.F ht⟩) hS.2.2 d_S_joinQueue_24
end
set_option maxRecDepth 100000 in
theorem c_S_joinQueue (l : Launch) (D : va_G) (cI cJ cZ : ClassId) (ad : Nat → Nat) (sz : Nat) (x1 : Int32) (x2 : Int32) (u : Lib) (res : (Int32 × Lib)) (hM : B_S_joinQueue_0 x1 x2 u = some res) : Met l y_S_joinQueue ws_S_joinQueue rm_S_joinQueue (va_Pc [.ref (ad 6), .int x1, .int x2] (pr_ D cl9 (tyy cI cJ cZ) (cL cI cJ cZ ad) u sz)) (Qwi D cl9 (tyy cI cJ cZ) (cL cI cJ cZ ad) (va_A ((cL cI cJ cZ ad) u) sz) res) 0 0 (va_A ((cL cI cJ cZ ad) u) sz) := by
  refine Met.ofW (cc := prog_3_method_24_code) (maxL := 4) (ret := (Option.some FieldType.boolean)) (by decide) rfl ?_
  intro p e s m args below meth c s₁ B hml hv
  obtain ⟨rfl, hsz, hP, hK, hD0⟩ := hv
  subst hsz
  have hts0 := atoms_spec (ws := ws_S_joinQueue) B.pre
  have hl := lv_entry ([.ref (ad 6), .int x1, .int x2]) (n := 4) (Nat.le_of_ble_eq_true rfl)
  rw [lg_entry_eq]
  generalize (lg_sl ([.ref (ad 6), .int x1, .int x2]) ++ List.replicate (4 - (lg_sl ([.ref (ad 6), .int x1, .int x2])).length) Slot.unset).toArray = ls at hl ⊢
  exact w_S_joinQueue_0 ⟨B.exec, B.bytes, B.returns, hml, findClass_of_methodNamed B.named, fun w h => hts0 w (List.mem_cons_of_mem _ h), B.notSynchronized, hK, fun q h => Or.inr h⟩ x1 x2 u s.heap [] ls hP hD0.self va_S.rf hl hM
