section
variable {p : Program} {l : Launch} {e : Env} {s : State} {m : MethodId} {args : Array Value} {below : List Frame} {meth : Method} {c : Code} {D : va_G} {cI cJ cZ : ClassId} {A : Nat → Prop} {ad : Nat → Nat}
set_option maxHeartbeats 4000000 in
set_option maxRecDepth 100000 in
theorem w_S_personAt_0 {res : Int32} (C : Cx p s m args meth c prog_3_method_12_code 3 (Option.some FieldType.int) "PlainLibrary$Shelves" tb D cl9 (tyy cI cJ cZ) A) (x1 : Int32) (x2 : Int32) (u : Lib) (H : Heap) (locs : List Loc) (ls : Array Slot) (hP : va_P D cl9 ((cL cI cJ cZ ad) u) H) (hD : va_D (fun _ => True) ((cL cI cJ cZ ad) u)) (hS : va_S A s.heap H locs) (hl : lv_has ls 3 [(0, .ref (ad 6)), (1, .int x1), (2, .int x2)]) (hM : B_S_personAt_0 x1 x2 u = some res) : W p l e rm_S_personAt s m args below meth c H locs 0 0 (MQ below (Qri A res) args s 0 0 A) (F0 m 0 ls []) := by
  have C0 := C
  obtain ⟨hx, hb, hr, hml, hown, hts, hlocks, hK, hA⟩ := C
  replace C := C0
  unfold B_S_personAt_0 at hM
  refine lv_iload_n hx hb d_S_personAt_0 rfl (lv_at hl 2 rfl) ?_
  refine lv_if_lt (tgt := 28) hx hb d_S_personAt_1 (by decide) (fun c1 => ?_) (fun c1 => ?_)
  · replace hM := it_t c1 hM
    refine lv_iconst (v := (-1 : Int32)) hx hb d_S_personAt_28 (by decide) ?_
    obtain rfl := Option.some.inj hM
    exact W.iret (v := (-1 : Int32)) hx hb hr (fun t ht hW => ⟨⟨(-1 : Int32), (), rfl, rfl, trivial⟩, hS.F ht⟩) hS.2.2 d_S_personAt_29
  · replace hM := it_f c1 hM
    refine lv_iload_n hx hb d_S_personAt_4 rfl (lv_at hl 2 rfl) ?_
    refine lv_aload_n hx hb d_S_personAt_5 rfl (lv_at hl 0 rfl) ?_
    refine va_get (D := D) (ci := 1) (v := .ref (ad 12)) (C := R_S) (T := T_S) (N := 9) hx hb hts in_S hown hK hP 6 rfl rfl 5 (by decide) (hts _ mm_77) (fun _ h9 => h9) rfl d_S_personAt_6 ?_
    refine lv_iload_n hx hb d_S_personAt_9 rfl (lv_at hl 1 rfl) ?_
    obtain ⟨h2, hM⟩ := gd_some hM
    refine va_iald hx hb hK hP 12 0 rfl rfl (vp_in_iff.mpr h2) d_S_personAt_10 ?_
    refine lv_icmp_ge (tgt := 28) hx hb d_S_personAt_11 (by decide) (fun c3 => ?_) (fun c3 => ?_)
    · replace hM := it_t c3 hM
      refine lv_iconst (v := (-1 : Int32)) hx hb d_S_personAt_28 (by decide) ?_
      obtain rfl := Option.some.inj hM
      exact W.iret (v := (-1 : Int32)) hx hb hr (fun t ht hW => ⟨⟨(-1 : Int32), (), rfl, rfl, trivial⟩, hS.F ht⟩) hS.2.2 d_S_personAt_29
    · replace hM := it_f c3 hM
      refine lv_aload_n hx hb d_S_personAt_14 rfl (lv_at hl 0 rfl) ?_
      refine va_get (D := D) (ci := 1) (v := .ref (ad 11)) (C := R_S) (T := T_S) (N := 9) hx hb hts in_S hown hK hP 6 rfl rfl 4 (by decide) (hts _ mm_76) (fun _ h9 => h9) rfl d_S_personAt_15 ?_
      refine lv_iload_n hx hb d_S_personAt_18 rfl (lv_at hl 1 rfl) ?_
      refine lv_bipush (v := (20 : Int32)) hx hb d_S_personAt_19 (by decide) ?_
      refine lv_imul hx hb d_S_personAt_21 ?_
      refine lv_iload_n hx hb d_S_personAt_22 rfl (lv_at hl 2 rfl) ?_
      refine lv_iadd hx hb d_S_personAt_23 ?_
      obtain ⟨h4, hM⟩ := gd_some hM
      refine va_iald hx hb hK hP 11 0 rfl rfl (vp_in_iff.mpr h4) d_S_personAt_24 ?_
      refine lv_goto (tgt := 29) hx hb d_S_personAt_25 (by decide) ?_
      obtain rfl := Option.some.inj hM
      exact W.iret (v := ((l_qd u) ((x1 * (20 : Int32)) + x2).toNatClampNeg)) hx hb hr (fun t ht hW => ⟨⟨((l_qd u) ((x1 * (20 : Int32)) + x2).toNatClampNeg), (), rfl, rfl, trivial⟩, hS.F ht⟩) hS.2.2 d_S_personAt_29
end
set_option maxRecDepth 100000 in
theorem c_S_personAt (l : Launch) (D : va_G) (cI cJ cZ : ClassId) (ad : Nat → Nat) (sz : Nat) (x1 : Int32) (x2 : Int32) (u : Lib) (res : Int32) (hM : B_S_personAt_0 x1 x2 u = some res) : Met l y_S_personAt ws_S_personAt rm_S_personAt (va_Pc [.ref (ad 6), .int x1, .int x2] (pr_ D cl9 (tyy cI cJ cZ) (cL cI cJ cZ ad) u sz)) (Qri (va_A [] sz) res) 0 0 (va_A [] sz) := by
  refine Met.ofW (cc := prog_3_method_12_code) (maxL := 3) (ret := (Option.some FieldType.int)) (by decide) rfl ?_
  intro p e s m args below meth c s₁ B hml hv
  obtain ⟨rfl, hsz, hP, hK, hD0⟩ := hv
  subst hsz
  have hts0 := atoms_spec (ws := ws_S_personAt) B.pre
  have hl := lv_entry ([.ref (ad 6), .int x1, .int x2]) (n := 3) (Nat.le_of_ble_eq_true rfl)
  rw [lg_entry_eq]
  generalize (lg_sl ([.ref (ad 6), .int x1, .int x2]) ++ List.replicate (3 - (lg_sl ([.ref (ad 6), .int x1, .int x2])).length) Slot.unset).toArray = ls at hl ⊢
  exact w_S_personAt_0 ⟨B.exec, B.bytes, B.returns, hml, findClass_of_methodNamed B.named, fun w h => hts0 w (List.mem_cons_of_mem _ h), B.notSynchronized, hK, fun q h => Or.inr h⟩ x1 x2 u s.heap [] ls hP hD0 va_S.rf hl hM
