section
variable {p : Program} {l : Launch} {e : Env} {s : State} {m : MethodId} {args : Array Value} {below : List Frame} {meth : Method} {c : Code} {D : va_G} {cI cJ cZ : ClassId} {A : Nat → Prop} {n a : Nat}
set_option maxHeartbeats 4000000 in
set_option maxRecDepth 100000 in
theorem w_J_fillI_5s {res : (Nat → Int32)} (C : Cx p s m args meth c prog_8_method_103_code 4 (Option.none : Option FieldType) "java/util/Arrays" tb D cl9 (tyy cI cJ cZ) A) {k5 : Int32 → Int32 → Int32 → (Nat → Int32) → Option (Nat → Int32)} (hk5 : ∀ (x1 : Int32) (x2 : Int32) (x3 : Int32) (u : (Nat → Int32)) (H : Heap) (locs : List Loc) (ls : Array Slot), va_P D cl9 ((cJI cI n a) u) H → va_D A ((cJI cI n a) u) → va_S A s.heap H locs → lv_has ls 4 [(0, .ref a), (1, .int x1), (2, .int x2), (3, .int x3)] → k5 x1 x2 x3 u = some res → W p l e rm_J_fillI s m args below meth c H locs 0 0 (MQ below (Qwv D cl9 (tyy cI cJ cZ) (cJI cI n a) A res) args s 0 0 A) (F0 m 5 ls [])) (x1 : Int32) (x2 : Int32) (x3 : Int32) (u : (Nat → Int32)) (H : Heap) (locs : List Loc) (ls : Array Slot) (hP : va_P D cl9 ((cJI cI n a) u) H) (hD : va_D A ((cJI cI n a) u)) (hS : va_S A s.heap H locs) (hl : lv_has ls 4 [(0, .ref a), (1, .int x1), (2, .int x2), (3, .int x3)]) (hM : B_J_fillI_5s n k5 x1 x2 x3 u = some res) : W p l e rm_J_fillI s m args below meth c H locs 0 0 (MQ below (Qwv D cl9 (tyy cI cJ cZ) (cJI cI n a) A res) args s 0 0 A) (F0 m 5 ls []) := by
  have C0 := C
  obtain ⟨hx, hb, hr, hml, hown, hts, hlocks, hK, hA⟩ := C
  replace C := C0
  unfold B_J_fillI_5s at hM
  refine lv_iload_n hx hb d_J_fillI_5 rfl (lv_at hl 2 rfl) ?_
  refine lv_iload_n hx hb d_J_fillI_6 rfl (lv_at hl 3 rfl) ?_
  refine lv_icmp_ge (tgt := 20) hx hb d_J_fillI_7 (by decide) (fun c1 => ?_) (fun c1 => ?_)
  · replace hM := it_t c1 hM
    obtain rfl := Option.some.inj hM
    exact W.vret hx hb hr (fun t ht hW => ⟨⟨u, rfl, rfl, by rw [ht]; exact hP, va_K.moved hW.alike hK, hD⟩, hS.F ht⟩) hS.2.2 d_J_fillI_20
  · replace hM := it_f c1 hM
    refine lv_aload_n hx hb d_J_fillI_10 rfl (lv_at hl 0 rfl) ?_
    refine lv_iload_n hx hb d_J_fillI_11 rfl (lv_at hl 2 rfl) ?_
    refine lv_iload_n hx hb d_J_fillI_12 rfl (lv_at hl 1 rfl) ?_
    obtain ⟨h2, hM⟩ := gd_some hM
    refine va_iast hx hb hK hP hD hS 0 0 rfl rfl (vp_in_iff.mpr h2) d_J_fillI_13 (fun H locs hP hD hS => ?_)
    have hP : va_P D cl9 ((cJI cI n a) (upd u x2.toNatClampNeg x1)) H := hP
    have hD : va_D A ((cJI cI n a) (upd u x2.toNatClampNeg x1)) := hD
    refine lv_iinc (v := (x2 + (1 : Int32))) (lv' := [(2, .int (x2 + (1 : Int32))), (0, .ref a), (1, .int x1), (3, .int x3)]) hx hb d_J_fillI_14 hl (k := 2) rfl rfl (by decide) rfl (fun ls hl => ?_)
    refine lv_goto (tgt := 5) hx hb d_J_fillI_17 (by decide) ?_
    exact hk5 x1 (x2 + (1 : Int32)) x3 (upd u x2.toNatClampNeg x1) H locs ls hP hD hS (lv_sub hl [1, 2, 0, 3] rfl) hM
theorem w_J_fillI_5 {res : (Nat → Int32)} (C : Cx p s m args meth c prog_8_method_103_code 4 (Option.none : Option FieldType) "java/util/Arrays" tb D cl9 (tyy cI cJ cZ) A) : ∀ (fu : Nat) (x1 : Int32) (x2 : Int32) (x3 : Int32) (u : (Nat → Int32)) (H : Heap) (locs : List Loc) (ls : Array Slot), va_P D cl9 ((cJI cI n a) u) H → va_D A ((cJI cI n a) u) → va_S A s.heap H locs → lv_has ls 4 [(0, .ref a), (1, .int x1), (2, .int x2), (3, .int x3)] → B_J_fillI_5 n fu x1 x2 x3 u = some res → W p l e rm_J_fillI s m args below meth c H locs 0 0 (MQ below (Qwv D cl9 (tyy cI cJ cZ) (cJI cI n a) A res) args s 0 0 A) (F0 m 5 ls []) := by
  intro fu
  induction fu with
  | zero =>
    intro x1 x2 x3 u H locs ls hP hD hS hl hM
    have hM : (none : Option (Nat → Int32)) = some res := hM
    cases hM
  | succ fu ih =>
    intro x1 x2 x3 u H locs ls hP hD hS hl hM
    exact w_J_fillI_5s C ih x1 x2 x3 u H locs ls hP hD hS hl hM
set_option maxHeartbeats 4000000 in
set_option maxRecDepth 100000 in
theorem w_J_fillI_0 {res : (Nat → Int32)} (C : Cx p s m args meth c prog_8_method_103_code 4 (Option.none : Option FieldType) "java/util/Arrays" tb D cl9 (tyy cI cJ cZ) A) (x1 : Int32) (u : (Nat → Int32)) (H : Heap) (locs : List Loc) (ls : Array Slot) (hP : va_P D cl9 ((cJI cI n a) u) H) (hD : va_D A ((cJI cI n a) u)) (hS : va_S A s.heap H locs) (hl : lv_has ls 4 [(0, .ref a), (1, .int x1)]) (hM : B_J_fillI_0 n x1 u = some res) : W p l e rm_J_fillI s m args below meth c H locs 0 0 (MQ below (Qwv D cl9 (tyy cI cJ cZ) (cJI cI n a) A res) args s 0 0 A) (F0 m 0 ls []) := by
  have C0 := C
  obtain ⟨hx, hb, hr, hml, hown, hts, hlocks, hK, hA⟩ := C
  replace C := C0
  unfold B_J_fillI_0 at hM
  refine lv_iconst (v := (0 : Int32)) hx hb d_J_fillI_0 (by decide) ?_
  refine lv_istore_n (lv' := [(2, .int (0 : Int32)), (0, .ref a), (1, .int x1)]) hx hb d_J_fillI_1 rfl hl (by decide) rfl (fun ls hl => ?_)
  refine lv_aload_n hx hb d_J_fillI_2 rfl (lv_at hl 1 rfl) ?_
  refine va_alen (v := (nI (n))) hx hb hK hP 0 0 rfl rfl rfl d_J_fillI_3 ?_
  refine lv_istore_n (lv' := [(3, .int (nI (n))), (2, .int (0 : Int32)), (0, .ref a), (1, .int x1)]) hx hb d_J_fillI_4 rfl hl (by decide) rfl (fun ls hl => ?_)
  exact w_J_fillI_5 C FU x1 (0 : Int32) (nI (n)) u H locs ls hP hD hS (lv_sub hl [2, 3, 1, 0] rfl) hM
end
set_option maxRecDepth 100000 in
theorem c_J_fillI (l : Launch) (D : va_G) (cI cJ cZ : ClassId) (n a : Nat) (sz : Nat) (x1 : Int32) (u : (Nat → Int32)) (res : (Nat → Int32)) (hM : B_J_fillI_0 n x1 u = some res) : Met l y_J_fillI ws_J_fillI rm_J_fillI (va_Pc [.ref a, .int x1] (pr_ D cl9 (tyy cI cJ cZ) (cJI cI n a) u sz)) (Qwv D cl9 (tyy cI cJ cZ) (cJI cI n a) (va_A ((cJI cI n a) u) sz) res) 0 0 (va_A ((cJI cI n a) u) sz) := by
  refine Met.ofW (cc := prog_8_method_103_code) (maxL := 4) (ret := (Option.none : Option FieldType)) (by decide) rfl ?_
  intro p e s m args below meth c s₁ B hml hv
  obtain ⟨rfl, hsz, hP, hK, hD0⟩ := hv
  subst hsz
  have hts0 := atoms_spec (ws := ws_J_fillI) B.pre
  have hl := lv_entry ([.ref a, .int x1]) (n := 4) (Nat.le_of_ble_eq_true rfl)
  rw [lg_entry_eq]
  generalize (lg_sl ([.ref a, .int x1]) ++ List.replicate (4 - (lg_sl ([.ref a, .int x1])).length) Slot.unset).toArray = ls at hl ⊢
  exact w_J_fillI_0 ⟨B.exec, B.bytes, B.returns, hml, findClass_of_methodNamed B.named, fun w h => hts0 w (List.mem_cons_of_mem _ h), B.notSynchronized, hK, fun q h => Or.inr h⟩ x1 u s.heap [] ls hP hD0.self va_S.rf hl hM
