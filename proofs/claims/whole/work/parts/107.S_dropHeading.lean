section
variable {p : Program} {l : Launch} {e : Env} {s : State} {m : MethodId} {args : Array Value} {below : List Frame} {meth : Method} {c : Code} {D : va_G} {cI cJ cZ : ClassId} {A : Nat → Prop} {ad : Nat → Nat}
set_option maxHeartbeats 4000000 in
set_option maxRecDepth 100000 in
theorem w_S_dropHeading_0 {res : (Int32 × Lib)} (C : Cx p s m args meth c prog_3_method_19_code 3 (Option.some FieldType.boolean) "PlainLibrary$Shelves" tb D cl9 (tyy cI cJ cZ) A) (x1 : Int32) (x2 : Int32) (u : Lib) (H : Heap) (locs : List Loc) (ls : Array Slot) (hP : va_P D cl9 ((cL cI cJ cZ ad) u) H) (hD : va_D A ((cL cI cJ cZ ad) u)) (hS : va_S A s.heap H locs) (hl : lv_has ls 3 [(0, .ref (ad 6)), (1, .int x1), (2, .int x2)]) (hM : B_S_dropHeading_0 x1 x2 u = some res) : W p l e rm_S_dropHeading s m args below meth c H locs 0 0 (MQ below (Qwi D cl9 (tyy cI cJ cZ) (cL cI cJ cZ ad) A res) args s 0 0 A) (F0 m 0 ls []) := by
  have C0 := C
  obtain ⟨hx, hb, hr, hml, hown, hts, hlocks, hK, hA⟩ := C
  replace C := C0
  unfold B_S_dropHeading_0 at hM
  refine lv_aload_n hx hb d_S_dropHeading_0 rfl (lv_at hl 0 rfl) ?_
  refine lv_iload_n hx hb d_S_dropHeading_1 rfl (lv_at hl 1 rfl) ?_
  refine lv_iload_n hx hb d_S_dropHeading_2 rfl (lv_at hl 2 rfl) ?_
  obtain ⟨v1, hq1, hM⟩ := bd_some hM
  refine fr_i (res := v1) (va_runV (As := [.int x1, .int x2]) (rest := []) ⟨hx, hb, hml, hown, hts⟩ (c_S_hasHeading l D cI cJ cZ ad H.size x1 x2 u v1 hq1) (cwV 2 hts (gV mm_173 mm_174 mm_175 mm_29 mm_176) rfl rfl rfl hd_S_hasHeading ⟨Nat.le_of_ble_eq_true rfl, Nat.le_of_ble_eq_true rfl⟩) (pv_ (F := (cL cI cJ cZ ad)) (u := u) hK hP hD (va_recv hK hP (ci := 1) (q0 := 6) rfl rfl)) rfl rfl hl.1 rfl (lv_room (Nat.le_of_ble_eq_true rfl)) d_S_dropHeading_3 ⟨Nat.le_of_ble_eq_true rfl, Nat.le_of_ble_eq_true rfl⟩) hP hS hA (fun H locs hP hS => ?_)
  refine lv_if_ne (tgt := 11) hx hb d_S_dropHeading_6 (by decide) (fun c2 => ?_) (fun c2 => ?_)
  · replace hM := it_f c2 hM
    refine lv_aload_n hx hb d_S_dropHeading_11 rfl (lv_at hl 0 rfl) ?_
    refine va_get (D := D) (ci := 1) (v := .ref (ad 7)) (C := R_S) (T := T_S) (N := 9) hx hb hts in_S hown hK hP 6 rfl rfl 0 (by decide) (hts _ mm_72) (fun _ h9 => h9) rfl d_S_dropHeading_12 ?_
    refine lv_iload_n hx hb d_S_dropHeading_15 rfl (lv_at hl 1 rfl) ?_
    refine lv_iload_n hx hb d_S_dropHeading_16 rfl (lv_at hl 2 rfl) ?_
    obtain ⟨v3, hq3, hM⟩ := bd_some hM
    refine fr_i (res := v3) (va_runS (As := [.int x1, .int x2]) (rest := [.ref (ad 7)]) ⟨hx, hb, hml, hown, hts⟩ (c_S_wordIndex l D cI cJ cZ H.size x1 x2 v3 hq3) (va_cwS 2 hts (gS mm_177 mm_178 mm_29 mm_179) rfl rfl rfl hs_S_wordIndex ⟨Nat.le_of_ble_eq_true rfl, Nat.le_of_ble_eq_true rfl⟩) (ps_ (F := nW) (u := ()) hK nP (nD (A := fun _ => True))) rfl rfl hl.1 rfl (lv_room (Nat.le_of_ble_eq_true rfl)) d_S_dropHeading_17 ⟨Nat.le_of_ble_eq_true rfl, Nat.le_of_ble_eq_true rfl⟩) hP hS hA (fun H locs hP hS => ?_)
    refine lv_dup2_11 hx hb d_S_dropHeading_20 rfl rfl ?_
    obtain ⟨h4, hM⟩ := gd_some hM
    refine va_lald hx hb hK hP 7 1 rfl rfl (vp_in_iff.mpr h4) d_S_dropHeading_21 ?_
    refine lv_iload_n hx hb d_S_dropHeading_22 rfl (lv_at hl 2 rfl) ?_
    obtain ⟨v5, hq5, hM⟩ := bd_some hM
    refine fr_l (res := v5) (va_runS (As := [.int x2]) (rest := [.long ((l_hb u) v3.toNatClampNeg), .int v3, .ref (ad 7)]) ⟨hx, hb, hml, hown, hts⟩ (c_S_bitOf l D cI cJ cZ H.size x2 v5 hq5) (va_cwS 1 hts (gS mm_180 mm_181 mm_29 mm_182) rfl rfl rfl hs_S_bitOf ⟨Nat.le_of_ble_eq_true rfl, Nat.le_of_ble_eq_true rfl⟩) (ps_ (F := nW) (u := ()) hK nP (nD (A := fun _ => True))) rfl rfl hl.1 rfl (lv_room (Nat.le_of_ble_eq_true rfl)) d_S_dropHeading_23 ⟨Nat.le_of_ble_eq_true rfl, Nat.le_of_ble_eq_true rfl⟩) hP hS hA (fun H locs hP hS => ?_)
    refine lv_ldc2 (v := (-1 : Int64)) hx hb hown (hts _ mm_187) d_S_dropHeading_26 ?_
    refine lv_lxor hx hb d_S_dropHeading_29 ?_
    refine lv_land hx hb d_S_dropHeading_30 ?_
    obtain ⟨h6, hM⟩ := gd_some hM
    refine va_last hx hb hK hP hD hS 7 1 rfl rfl (vp_in_iff.mpr h6) d_S_dropHeading_31 (fun H locs hP hD hS => ?_)
    have hP : va_P D cl9 ((cL cI cJ cZ ad) (l_hb_w u (vp_updL (l_hb u) v3.toNatClampNeg (((l_hb u) v3.toNatClampNeg) &&& (v5 ^^^ (-1 : Int64)))))) H := hP
    have hD : va_D A ((cL cI cJ cZ ad) (l_hb_w u (vp_updL (l_hb u) v3.toNatClampNeg (((l_hb u) v3.toNatClampNeg) &&& (v5 ^^^ (-1 : Int64)))))) := hD
    refine lv_iconst (v := (1 : Int32)) hx hb d_S_dropHeading_32 (by decide) ?_
    obtain rfl := Option.some.inj hM
    exact W.zret (v := (1 : Int32)) hx hb hr rfl (fun t ht hW => ⟨⟨(1 : Int32), (l_hb_w u (vp_updL (l_hb u) v3.toNatClampNeg (((l_hb u) v3.toNatClampNeg) &&& (v5 ^^^ (-1 : Int64))))), rfl, rfl, by rw [ht]; exact hP, va_K.moved hW.alike hK, hD⟩, hS.F ht⟩) hS.2.2 d_S_dropHeading_33
  · replace hM := it_t c2 hM
    refine lv_iconst (v := (0 : Int32)) hx hb d_S_dropHeading_9 (by decide) ?_
    obtain rfl := Option.some.inj hM
    exact W.zret (v := (0 : Int32)) hx hb hr rfl (fun t ht hW => ⟨⟨(0 : Int32), u, rfl, rfl, by rw [ht]; exact hP, va_K.moved hW.alike hK, hD⟩, hS.F ht⟩) hS.2.2 d_S_dropHeading_10
end
set_option maxRecDepth 100000 in
theorem c_S_dropHeading (l : Launch) (D : va_G) (cI cJ cZ : ClassId) (ad : Nat → Nat) (sz : Nat) (x1 : Int32) (x2 : Int32) (u : Lib) (res : (Int32 × Lib)) (hM : B_S_dropHeading_0 x1 x2 u = some res) : Met l y_S_dropHeading ws_S_dropHeading rm_S_dropHeading (va_Pc [.ref (ad 6), .int x1, .int x2] (pr_ D cl9 (tyy cI cJ cZ) (cL cI cJ cZ ad) u sz)) (Qwi D cl9 (tyy cI cJ cZ) (cL cI cJ cZ ad) (va_A ((cL cI cJ cZ ad) u) sz) res) 0 0 (va_A ((cL cI cJ cZ ad) u) sz) := by
  refine Met.ofW (cc := prog_3_method_19_code) (maxL := 3) (ret := (Option.some FieldType.boolean)) (by decide) rfl ?_
  intro p e s m args below meth c s₁ B hml hv
  obtain ⟨rfl, hsz, hP, hK, hD0⟩ := hv
  subst hsz
  have hts0 := atoms_spec (ws := ws_S_dropHeading) B.pre
  have hl := lv_entry ([.ref (ad 6), .int x1, .int x2]) (n := 3) (Nat.le_of_ble_eq_true rfl)
  rw [lg_entry_eq]
  generalize (lg_sl ([.ref (ad 6), .int x1, .int x2]) ++ List.replicate (3 - (lg_sl ([.ref (ad 6), .int x1, .int x2])).length) Slot.unset).toArray = ls at hl ⊢
  exact w_S_dropHeading_0 ⟨B.exec, B.bytes, B.returns, hml, findClass_of_methodNamed B.named, fun w h => hts0 w (List.mem_cons_of_mem _ h), B.notSynchronized, hK, fun q h => Or.inr h⟩ x1 x2 u s.heap [] ls hP hD0.self va_S.rf hl hM
