section
variable {p : Program} {l : Launch} {e : Env} {s : State} {m : MethodId} {args : Array Value} {below : List Frame} {meth : Method} {c : Code} {D : va_G} {cI cJ cZ : ClassId} {A : Nat → Prop}
set_option maxHeartbeats 4000000 in
set_option maxRecDepth 100000 in
theorem w_S_sumIndex_0 {res : Int32} (C : Cx p s m args meth c prog_3_method_15_code 2 (Option.some FieldType.int) "PlainLibrary$Shelves" tb D cl9 (tyy cI cJ cZ) A) (x0 : Int32) (x1 : Int32) (H : Heap) (locs : List Loc) (ls : Array Slot) (hP : va_P D cl9 (nW ()) H) (hD : va_D (fun _ => True) (nW ())) (hS : va_S A s.heap H locs) (hl : lv_has ls 2 [(0, .int x0), (1, .int x1)]) (hM : B_S_sumIndex_0 x0 x1 = some res) : W p l e rm_S_sumIndex s m args below meth c H locs 0 0 (MQ below (Qri A res) args s 0 0 A) (F0 m 0 ls []) := by
  have C0 := C
  obtain ⟨hx, hb, hr, hml, hown, hts, hlocks, hK, hA⟩ := C
  replace C := C0
  unfold B_S_sumIndex_0 at hM
  refine lv_iload_n hx hb d_S_sumIndex_0 rfl (lv_at hl 0 rfl) ?_
  refine lv_bipush (v := (6 : Int32)) hx hb d_S_sumIndex_1 (by decide) ?_
  refine lv_imul hx hb d_S_sumIndex_3 ?_
  refine lv_iload_n hx hb d_S_sumIndex_4 rfl (lv_at hl 1 rfl) ?_
  refine lv_iadd hx hb d_S_sumIndex_5 ?_
  obtain rfl := Option.some.inj hM
  exact W.iret (v := ((x0 * (6 : Int32)) + x1)) hx hb hr (fun t ht hW => ⟨⟨((x0 * (6 : Int32)) + x1), (), rfl, rfl, trivial⟩, hS.F ht⟩) hS.2.2 d_S_sumIndex_6
end
set_option maxRecDepth 100000 in
theorem c_S_sumIndex (l : Launch) (D : va_G) (cI cJ cZ : ClassId) (sz : Nat) (x0 : Int32) (x1 : Int32) (res : Int32) (hM : B_S_sumIndex_0 x0 x1 = some res) : Met l y_S_sumIndex ws_S_sumIndex rm_S_sumIndex (va_Pc [.int x0, .int x1] (pr_ D cl9 (tyy cI cJ cZ) nW () sz)) (Qri (va_A [] sz) res) 0 0 (va_A [] sz) := by
  refine Met.ofW (cc := prog_3_method_15_code) (maxL := 2) (ret := (Option.some FieldType.int)) (by decide) rfl ?_
  intro p e s m args below meth c s₁ B hml hv
  obtain ⟨rfl, hsz, hP, hK, hD0⟩ := hv
  subst hsz
  have hts0 := atoms_spec (ws := ws_S_sumIndex) B.pre
  have hl := lv_entry ([.int x0, .int x1]) (n := 2) (Nat.le_of_ble_eq_true rfl)
  rw [lg_entry_eq]
  generalize (lg_sl ([.int x0, .int x1]) ++ List.replicate (2 - (lg_sl ([.int x0, .int x1])).length) Slot.unset).toArray = ls at hl ⊢
  exact w_S_sumIndex_0 ⟨B.exec, B.bytes, B.returns, hml, findClass_of_methodNamed B.named, fun w h => hts0 w (List.mem_cons_of_mem _ h), B.notSynchronized, hK, fun q h => Or.inr h⟩ x0 x1 s.heap [] ls hP hD0 va_S.rf hl hM
