section
variable {p : Program} {l : Launch} {e : Env} {s : State} {m : MethodId} {args : Array Value} {below : List Frame} {meth : Method} {c : Code} {D : va_G} {cI cJ cZ : ClassId} {A : Nat → Prop} {ad : Nat → Nat}
set_option maxHeartbeats 4000000 in
set_option maxRecDepth 100000 in
theorem w_S_giveBack_0 {res : (Int32 × Lib)} (C : Cx p s m args meth c prog_3_method_22_code 2 (Option.some FieldType.boolean) "PlainLibrary$Shelves" tb D cl9 (tyy cI cJ cZ) A) (x1 : Int32) (u : Lib) (H : Heap) (locs : List Loc) (ls : Array Slot) (hP : va_P D cl9 ((cL cI cJ cZ ad) u) H) (hD : va_D A ((cL cI cJ cZ ad) u)) (hS : va_S A s.heap H locs) (hl : lv_has ls 2 [(0, .ref (ad 6)), (1, .int x1)]) (hM : B_S_giveBack_0 x1 u = some res) : W p l e rm_S_giveBack s m args below meth c H locs 0 0 (MQ below (Qwi D cl9 (tyy cI cJ cZ) (cL cI cJ cZ ad) A res) args s 0 0 A) (F0 m 0 ls []) := by
  have C0 := C
  obtain ⟨hx, hb, hr, hml, hown, hts, hlocks, hK, hA⟩ := C
  replace C := C0
  unfold B_S_giveBack_0 at hM
  refine lv_aload_n hx hb d_S_giveBack_0 rfl (lv_at hl 0 rfl) ?_
  refine va_get (D := D) (ci := 1) (v := .ref (ad 9)) (C := R_S) (T := T_S) (N := 9) hx hb hts in_S hown hK hP 6 rfl rfl 2 (by decide) (hts _ mm_74) (fun _ h9 => h9) rfl d_S_giveBack_1 ?_
  refine lv_iload_n hx hb d_S_giveBack_4 rfl (lv_at hl 1 rfl) ?_
  obtain ⟨h1, hM⟩ := gd_some hM
  refine va_iald hx hb hK hP 9 0 rfl rfl (vp_in_iff.mpr h1) d_S_giveBack_5 ?_
  refine lv_if_ne (tgt := 11) hx hb d_S_giveBack_6 (by decide) (fun c2 => ?_) (fun c2 => ?_)
  · replace hM := it_f c2 hM
    refine lv_aload_n hx hb d_S_giveBack_11 rfl (lv_at hl 0 rfl) ?_
    refine va_get (D := D) (ci := 1) (v := .ref (ad 9)) (C := R_S) (T := T_S) (N := 9) hx hb hts in_S hown hK hP 6 rfl rfl 2 (by decide) (hts _ mm_74) (fun _ h9 => h9) rfl d_S_giveBack_12 ?_
    refine lv_iload_n hx hb d_S_giveBack_15 rfl (lv_at hl 1 rfl) ?_
    refine lv_iconst (v := (0 : Int32)) hx hb d_S_giveBack_16 (by decide) ?_
    obtain ⟨h3, hM⟩ := gd_some hM
    refine va_iast hx hb hK hP hD hS 9 0 rfl rfl (vp_in_iff.mpr h3) d_S_giveBack_17 (fun H locs hP hD hS => ?_)
    have hP : va_P D cl9 ((cL cI cJ cZ ad) (l_per_w u (upd (l_per u) x1.toNatClampNeg (0 : Int32)))) H := hP
    have hD : va_D A ((cL cI cJ cZ ad) (l_per_w u (upd (l_per u) x1.toNatClampNeg (0 : Int32)))) := hD
    refine lv_iconst (v := (1 : Int32)) hx hb d_S_giveBack_18 (by decide) ?_
    obtain rfl := Option.some.inj hM
    exact W.zret (v := (1 : Int32)) hx hb hr rfl (fun t ht hW => ⟨⟨(1 : Int32), (l_per_w u (upd (l_per u) x1.toNatClampNeg (0 : Int32))), rfl, rfl, by rw [ht]; exact hP, va_K.moved hW.alike hK, hD⟩, hS.F ht⟩) hS.2.2 d_S_giveBack_19
  · replace hM := it_t c2 hM
    refine lv_iconst (v := (0 : Int32)) hx hb d_S_giveBack_9 (by decide) ?_
    obtain rfl := Option.some.inj hM
    exact W.zret (v := (0 : Int32)) hx hb hr rfl (fun t ht hW => ⟨⟨(0 : Int32), u, rfl, rfl, by rw [ht]; exact hP, va_K.moved hW.alike hK, hD⟩, hS.F ht⟩) hS.2.2 d_S_giveBack_10
end
set_option maxRecDepth 100000 in
theorem c_S_giveBack (l : Launch) (D : va_G) (cI cJ cZ : ClassId) (ad : Nat → Nat) (sz : Nat) (x1 : Int32) (u : Lib) (res : (Int32 × Lib)) (hM : B_S_giveBack_0 x1 u = some res) : Met l y_S_giveBack ws_S_giveBack rm_S_giveBack (va_Pc [.ref (ad 6), .int x1] (pr_ D cl9 (tyy cI cJ cZ) (cL cI cJ cZ ad) u sz)) (Qwi D cl9 (tyy cI cJ cZ) (cL cI cJ cZ ad) (va_A ((cL cI cJ cZ ad) u) sz) res) 0 0 (va_A ((cL cI cJ cZ ad) u) sz) := by
  refine Met.ofW (cc := prog_3_method_22_code) (maxL := 2) (ret := (Option.some FieldType.boolean)) (by decide) rfl ?_
  intro p e s m args below meth c s₁ B hml hv
  obtain ⟨rfl, hsz, hP, hK, hD0⟩ := hv
  subst hsz
  have hts0 := atoms_spec (ws := ws_S_giveBack) B.pre
  have hl := lv_entry ([.ref (ad 6), .int x1]) (n := 2) (Nat.le_of_ble_eq_true rfl)
  rw [lg_entry_eq]
  generalize (lg_sl ([.ref (ad 6), .int x1]) ++ List.replicate (2 - (lg_sl ([.ref (ad 6), .int x1])).length) Slot.unset).toArray = ls at hl ⊢
  exact w_S_giveBack_0 ⟨B.exec, B.bytes, B.returns, hml, findClass_of_methodNamed B.named, fun w h => hts0 w (List.mem_cons_of_mem _ h), B.notSynchronized, hK, fun q h => Or.inr h⟩ x1 u s.heap [] ls hP hD0.self va_S.rf hl hM
