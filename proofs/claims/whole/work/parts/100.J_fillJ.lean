section
variable {p : Program} {l : Launch} {e : Env} {s : State} {m : MethodId} {args : Array Value} {below : List Frame} {meth : Method} {c : Code} {D : va_G} {cI cJ cZ : ClassId} {A : Nat → Prop} {n a : Nat}
set_option maxHeartbeats 4000000 in
set_option maxRecDepth 100000 in
theorem w_J_fillJ_6s {res : (Nat → Int64)} (C : Cx p s m args meth c prog_8_method_101_code 5 (Option.none : Option FieldType) "java/util/Arrays" tb D cl9 (tyy cI cJ cZ) A) {k6 : Int64 → Int32 → Int32 → (Nat → Int64) → Option (Nat → Int64)} (hk6 : ∀ (y1 : Int64) (x3 : Int32) (x4 : Int32) (u : (Nat → Int64)) (H : Heap) (locs : List Loc) (ls : Array Slot), va_P D cl9 ((cJJ cJ n a) u) H → va_D A ((cJJ cJ n a) u) → va_S A s.heap H locs → lv_has ls 5 [(0, .ref a), (1, .long y1), (3, .int x3), (4, .int x4)] → k6 y1 x3 x4 u = some res → W p l e rm_J_fillJ s m args below meth c H locs 0 0 (MQ below (Qwv D cl9 (tyy cI cJ cZ) (cJJ cJ n a) A res) args s 0 0 A) (F0 m 6 ls [])) (y1 : Int64) (x3 : Int32) (x4 : Int32) (u : (Nat → Int64)) (H : Heap) (locs : List Loc) (ls : Array Slot) (hP : va_P D cl9 ((cJJ cJ n a) u) H) (hD : va_D A ((cJJ cJ n a) u)) (hS : va_S A s.heap H locs) (hl : lv_has ls 5 [(0, .ref a), (1, .long y1), (3, .int x3), (4, .int x4)]) (hM : B_J_fillJ_6s n k6 y1 x3 x4 u = some res) : W p l e rm_J_fillJ s m args below meth c H locs 0 0 (MQ below (Qwv D cl9 (tyy cI cJ cZ) (cJJ cJ n a) A res) args s 0 0 A) (F0 m 6 ls []) := by
  have C0 := C
  obtain ⟨hx, hb, hr, hml, hown, hts, hlocks, hK, hA⟩ := C
  replace C := C0
  unfold B_J_fillJ_6s at hM
  refine lv_iload_n hx hb d_J_fillJ_6 rfl (lv_at hl 2 rfl) ?_
  refine lv_iload hx hb d_J_fillJ_7 (lv_at hl 3 rfl) ?_
  refine lv_icmp_ge (tgt := 22) hx hb d_J_fillJ_9 (by decide) (fun c1 => ?_) (fun c1 => ?_)
  · replace hM := it_t c1 hM
    obtain rfl := Option.some.inj hM
    exact W.vret hx hb hr (fun t ht hW => ⟨⟨u, rfl, rfl, by rw [ht]; exact hP, va_K.moved hW.alike hK, hD⟩, hS.F ht⟩) hS.2.2 d_J_fillJ_22
  · replace hM := it_f c1 hM
    refine lv_aload_n hx hb d_J_fillJ_12 rfl (lv_at hl 0 rfl) ?_
    refine lv_iload_n hx hb d_J_fillJ_13 rfl (lv_at hl 2 rfl) ?_
    refine lv_lload_n hx hb d_J_fillJ_14 rfl (lv_at hl 1 rfl) ?_
    obtain ⟨h2, hM⟩ := gd_some hM
    refine va_last hx hb hK hP hD hS 0 1 rfl rfl (vp_in_iff.mpr h2) d_J_fillJ_15 (fun H locs hP hD hS => ?_)
    have hP : va_P D cl9 ((cJJ cJ n a) (vp_updL u x3.toNatClampNeg y1)) H := hP
    have hD : va_D A ((cJJ cJ n a) (vp_updL u x3.toNatClampNeg y1)) := hD
    refine lv_iinc (v := (x3 + (1 : Int32))) (lv' := [(3, .int (x3 + (1 : Int32))), (0, .ref a), (1, .long y1), (4, .int x4)]) hx hb d_J_fillJ_16 hl (k := 2) rfl rfl (by decide) rfl (fun ls hl => ?_)
    refine lv_goto (tgt := 6) hx hb d_J_fillJ_19 (by decide) ?_
    exact hk6 y1 (x3 + (1 : Int32)) x4 (vp_updL u x3.toNatClampNeg y1) H locs ls hP hD hS (lv_sub hl [1, 2, 0, 3] rfl) hM
theorem w_J_fillJ_6 {res : (Nat → Int64)} (C : Cx p s m args meth c prog_8_method_101_code 5 (Option.none : Option FieldType) "java/util/Arrays" tb D cl9 (tyy cI cJ cZ) A) : ∀ (fu : Nat) (y1 : Int64) (x3 : Int32) (x4 : Int32) (u : (Nat → Int64)) (H : Heap) (locs : List Loc) (ls : Array Slot), va_P D cl9 ((cJJ cJ n a) u) H → va_D A ((cJJ cJ n a) u) → va_S A s.heap H locs → lv_has ls 5 [(0, .ref a), (1, .long y1), (3, .int x3), (4, .int x4)] → B_J_fillJ_6 n fu y1 x3 x4 u = some res → W p l e rm_J_fillJ s m args below meth c H locs 0 0 (MQ below (Qwv D cl9 (tyy cI cJ cZ) (cJJ cJ n a) A res) args s 0 0 A) (F0 m 6 ls []) := by
  intro fu
  induction fu with
  | zero =>
    intro y1 x3 x4 u H locs ls hP hD hS hl hM
    have hM : (none : Option (Nat → Int64)) = some res := hM
    cases hM
  | succ fu ih =>
    intro y1 x3 x4 u H locs ls hP hD hS hl hM
    exact w_J_fillJ_6s C ih y1 x3 x4 u H locs ls hP hD hS hl hM
set_option maxHeartbeats 4000000 in
set_option maxRecDepth 100000 in
theorem w_J_fillJ_0 {res : (Nat → Int64)} (C : Cx p s m args meth c prog_8_method_101_code 5 (Option.none : Option FieldType) "java/util/Arrays" tb D cl9 (tyy cI cJ cZ) A) (y1 : Int64) (u : (Nat → Int64)) (H : Heap) (locs : List Loc) (ls : Array Slot) (hP : va_P D cl9 ((cJJ cJ n a) u) H) (hD : va_D A ((cJJ cJ n a) u)) (hS : va_S A s.heap H locs) (hl : lv_has ls 5 [(0, .ref a), (1, .long y1)]) (hM : B_J_fillJ_0 n y1 u = some res) : W p l e rm_J_fillJ s m args below meth c H locs 0 0 (MQ below (Qwv D cl9 (tyy cI cJ cZ) (cJJ cJ n a) A res) args s 0 0 A) (F0 m 0 ls []) := by
  have C0 := C
  obtain ⟨hx, hb, hr, hml, hown, hts, hlocks, hK, hA⟩ := C
  replace C := C0
  unfold B_J_fillJ_0 at hM
  refine lv_iconst (v := (0 : Int32)) hx hb d_J_fillJ_0 (by decide) ?_
  refine lv_istore_n (lv' := [(3, .int (0 : Int32)), (0, .ref a), (1, .long y1)]) hx hb d_J_fillJ_1 rfl hl (by decide) rfl (fun ls hl => ?_)
  refine lv_aload_n hx hb d_J_fillJ_2 rfl (lv_at hl 1 rfl) ?_
  refine va_alen (v := (nI (n))) hx hb hK hP 0 1 rfl rfl rfl d_J_fillJ_3 ?_
  refine lv_istore (lv' := [(4, .int (nI (n))), (3, .int (0 : Int32)), (0, .ref a), (1, .long y1)]) hx hb d_J_fillJ_4 hl (by decide) rfl (fun ls hl => ?_)
  exact w_J_fillJ_6 C FU y1 (0 : Int32) (nI (n)) u H locs ls hP hD hS (lv_sub hl [2, 3, 1, 0] rfl) hM
end
set_option maxRecDepth 100000 in
theorem c_J_fillJ (l : Launch) (D : va_G) (cI cJ cZ : ClassId) (n a : Nat) (sz : Nat) (y1 : Int64) (u : (Nat → Int64)) (res : (Nat → Int64)) (hM : B_J_fillJ_0 n y1 u = some res) : Met l y_J_fillJ ws_J_fillJ rm_J_fillJ (va_Pc [.ref a, .long y1] (pr_ D cl9 (tyy cI cJ cZ) (cJJ cJ n a) u sz)) (Qwv D cl9 (tyy cI cJ cZ) (cJJ cJ n a) (va_A ((cJJ cJ n a) u) sz) res) 0 0 (va_A ((cJJ cJ n a) u) sz) := by
  refine Met.ofW (cc := prog_8_method_101_code) (maxL := 5) (ret := (Option.none : Option FieldType)) (by decide) rfl ?_
  intro p e s m args below meth c s₁ B hml hv
  obtain ⟨rfl, hsz, hP, hK, hD0⟩ := hv
  subst hsz
  have hts0 := atoms_spec (ws := ws_J_fillJ) B.pre
  have hl := lv_entry ([.ref a, .long y1]) (n := 5) (Nat.le_of_ble_eq_true rfl)
  rw [lg_entry_eq]
  generalize (lg_sl ([.ref a, .long y1]) ++ List.replicate (5 - (lg_sl ([.ref a, .long y1])).length) Slot.unset).toArray = ls at hl ⊢
  exact w_J_fillJ_0 ⟨B.exec, B.bytes, B.returns, hml, findClass_of_methodNamed B.named, fun w h => hts0 w (List.mem_cons_of_mem _ h), B.notSynchronized, hK, fun q h => Or.inr h⟩ y1 u s.heap [] ls hP hD0.self va_S.rf hl hM
