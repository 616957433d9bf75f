section
variable {p : Program} {l : Launch} {e : Env} {s : State} {m : MethodId} {args : Array Value} {below : List Frame} {meth : Method} {c : Code} {D : va_G} {cI cJ cZ : ClassId} {A : Nat → Prop}
set_option maxHeartbeats 4000000 in
set_option maxRecDepth 100000 in
theorem w_S_bitOf_0 {res : Int64} (C : Cx p s m args meth c prog_3_method_17_code 1 (Option.some FieldType.long) "PlainLibrary$Shelves" tb D cl9 (tyy cI cJ cZ) A) (x0 : Int32) (H : Heap) (locs : List Loc) (ls : Array Slot) (hP : va_P D cl9 (nW ()) H) (hD : va_D (fun _ => True) (nW ())) (hS : va_S A s.heap H locs) (hl : lv_has ls 1 [(0, .int x0)]) (hM : B_S_bitOf_0 x0 = some res) : W p l e rm_S_bitOf s m args below meth c H locs 0 0 (MQ below (Qrl A res) args s 0 0 A) (F0 m 0 ls []) := by
  have C0 := C
  obtain ⟨hx, hb, hr, hml, hown, hts, hlocks, hK, hA⟩ := C
  replace C := C0
  unfold B_S_bitOf_0 at hM
  refine lv_lconst (v := (1 : Int64)) hx hb d_S_bitOf_0 (by decide) ?_
  refine lv_iload_n hx hb d_S_bitOf_1 rfl (lv_at hl 0 rfl) ?_
  refine lv_bipush (v := (64 : Int32)) hx hb d_S_bitOf_2 (by decide) ?_
  refine lv_irem hx hb d_S_bitOf_4 (by decide) ?_
  refine lv_lshl (v := (1 : Int64) <<< ((x0 - x0 / (64 : Int32) * (64 : Int32)).toInt64 &&& 63)) hx hb d_S_bitOf_5 rfl ?_
  obtain rfl := Option.some.inj hM
  exact W.lret (v := ((1 : Int64) <<< ((x0 - x0 / (64 : Int32) * (64 : Int32)).toInt64 &&& 63))) hx hb hr (fun t ht hW => ⟨⟨((1 : Int64) <<< ((x0 - x0 / (64 : Int32) * (64 : Int32)).toInt64 &&& 63)), (), rfl, rfl, trivial⟩, hS.F ht⟩) hS.2.2 d_S_bitOf_6
end
set_option maxRecDepth 100000 in
theorem c_S_bitOf (l : Launch) (D : va_G) (cI cJ cZ : ClassId) (sz : Nat) (x0 : Int32) (res : Int64) (hM : B_S_bitOf_0 x0 = some res) : Met l y_S_bitOf ws_S_bitOf rm_S_bitOf (va_Pc [.int x0] (pr_ D cl9 (tyy cI cJ cZ) nW () sz)) (Qrl (va_A [] sz) res) 0 0 (va_A [] sz) := by
  refine Met.ofW (cc := prog_3_method_17_code) (maxL := 1) (ret := (Option.some FieldType.long)) (by decide) rfl ?_
  intro p e s m args below meth c s₁ B hml hv
  obtain ⟨rfl, hsz, hP, hK, hD0⟩ := hv
  subst hsz
  have hts0 := atoms_spec (ws := ws_S_bitOf) B.pre
  have hl := lv_entry ([.int x0]) (n := 1) (Nat.le_of_ble_eq_true rfl)
  rw [lg_entry_eq]
  generalize (lg_sl ([.int x0]) ++ List.replicate (1 - (lg_sl ([.int x0])).length) Slot.unset).toArray = ls at hl ⊢
  exact w_S_bitOf_0 ⟨B.exec, B.bytes, B.returns, hml, findClass_of_methodNamed B.named, fun w h => hts0 w (List.mem_cons_of_mem _ h), B.notSynchronized, hK, fun q h => Or.inr h⟩ x0 s.heap [] ls hP hD0 va_S.rf hl hM
