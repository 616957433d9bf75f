set_option maxHeartbeats 4000000 in
set_option maxRecDepth 100000 in
theorem c_R_init (l : Launch) (D : va_G) (cI cJ cZ : ClassId) (h0 sz : Nat) : Met l y_R_init ws_R_init rm_R_init (va_Pc [.ref h0] (pr_ D cl9 (tyy cI cJ cZ) (fun (_ : Unit) => [(h0, .inr (0, [.null, .null, .null, .null, .int 0]))]) () sz)) (va_Qv (fun ad : Nat → Nat => ad 0 = h0) (at_ D cl9 (tyy cI cJ cZ) (cRi cI cJ cZ) (va_A [(h0, .inr (0, [.null, .null, .null, .null, .int 0]))] sz)) (va_A [(h0, .inr (0, [.null, .null, .null, .null, .int 0]))] sz)) 4 800 (va_A [(h0, .inr (0, [.null, .null, .null, .null, .int 0]))] sz) := by
  refine Met.ofW (cc := prog_2_method_1_code) (maxL := 1) (ret := none) (by decide) rfl ?_
  intro p e s m args below meth c s₁ B hml hv
  obtain ⟨rfl, hsz, hP, hK, hD0⟩ := hv
  have hx := B.exec
  have hb := B.bytes
  have hr := B.returns
  have hts0 := atoms_spec (ws := ws_R_init) B.pre
  have hts : ∀ w ∈ tb, w.before _ s = true := fun w h => hts0 w (List.mem_cons_of_mem _ h)
  have hown : s.vm.findClass R_R = some m.cls := findClass_of_methodNamed B.named
  have hlocks := B.notSynchronized
  have hin : meth.name = "<init>" := (name_of_methodNamed B.named B.method).1
  subst hsz
  have hD := hD0.self (sz := s.heap.size)
  generalize hAe : va_A ((fun (_ : Unit) => [(h0, .inr (0, [.null, .null, .null, .null, .int 0]))]) ()) s.heap.size = A at hD ⊢
  have hA : ∀ q : Nat, s.heap.size ≤ q → A q := fun q h => by rw [← hAe]; exact Or.inr h
  have hS : va_S A s.heap s.heap [] := va_S.rf
  have hP : va_P D cl9 [(h0, .inr (0, [.null, .null, .null, .null, .int 0]))] s.heap := hP
  have hD : va_D A [(h0, .inr (0, [.null, .null, .null, .null, .int 0]))] := hD
  have hl := lv_entry ([.ref h0]) (n := 1) (Nat.le_of_ble_eq_true rfl)
  rw [lg_entry_eq]
  generalize (lg_sl ([.ref h0]) ++ List.replicate (1 - (lg_sl ([.ref h0])).length) Slot.unset).toArray = ls at hl ⊢
  have hl : lv_has ls 1 [(0, .ref h0)] := hl
  refine lv_aload_n hx hb d_R_init_0 rfl (lv_at hl 0 rfl) ?_
  refine W.objInit hx hb hown (hts _ mm_47) (hts _ mm_40) (hts _ mm_41) rfl (by rw [hml]; exact hl.1) rfl d_R_init_1 (Nat.le_of_ble_eq_true rfl) (Nat.le_of_ble_eq_true rfl) ?_
  refine W.eq (g2 := F0 m 4 ls []) rfl ?_
  refine lv_aload_n hx hb d_R_init_4 rfl (lv_at hl 0 rfl) ?_
  refine lv_sipush (v := (200 : Int32)) hx hb d_R_init_5 (by decide) ?_
  refine my_newa (atype := .int) (ty := .int) (n := (200 : Int32)) (a0 := (200, .inl (fun _ => 0))) (N' := 200) hx hb (hts _ mm_64) rfl hK hP hD hS hA 0 rfl (fun _ h => h) (fun _ => rfl) (by decide +kernel) (by decide +kernel) (Nat.le_of_ble_eq_true rfl) (Nat.le_of_ble_eq_true rfl) (Nat.le_of_ble_eq_true rfl) d_R_init_8 (fun q1 H hP hD hS => ?_)
  have hP : va_P D cl9 [(h0, .inr (0, [.null, .null, .null, .null, .int 0])), (q1, .inl (cI, 200, .inl (fun _ => 0)))] H := hP
  have hD : va_D A [(h0, .inr (0, [.null, .null, .null, .null, .int 0])), (q1, .inl (cI, 200, .inl (fun _ => 0)))] := hD
  refine W.widen (k := 1) (n := 200) (Nat.le_of_ble_eq_true rfl) (Nat.le_of_ble_eq_true rfl) ?_
  refine va_putF (D := D) (ci := 0) (v := .ref q1) (ty := (.array .int)) (C := R_R) (T := T_R) (N := 5) hx hb hts in_R ty_R tk_R nm_R hown hK hP hD hS 0 rfl rfl 0 (by decide) (hts _ mm_48) (fun _ h9 => h9) rfl hin rfl (by decide +kernel) rfl rfl (Nat.le_of_ble_eq_true rfl) d_R_init_10 (fun H locs hP hD hS => ?_)
  have hP : va_P D cl9 [(h0, .inr (0, [.ref q1, .null, .null, .null, .int 0])), (q1, .inl (cI, 200, .inl (fun _ => 0)))] H := hP
  have hD : va_D A [(h0, .inr (0, [.ref q1, .null, .null, .null, .int 0])), (q1, .inl (cI, 200, .inl (fun _ => 0)))] := hD
  refine lv_aload_n hx hb d_R_init_13 rfl (lv_at hl 0 rfl) ?_
  refine lv_sipush (v := (200 : Int32)) hx hb d_R_init_14 (by decide) ?_
  refine my_newa (atype := .int) (ty := .int) (n := (200 : Int32)) (a0 := (200, .inl (fun _ => 0))) (N' := 200) hx hb (hts _ mm_64) rfl hK hP hD hS hA 0 rfl (fun _ h => h) (fun _ => rfl) (by decide +kernel) (by decide +kernel) (Nat.le_of_ble_eq_true rfl) (Nat.le_of_ble_eq_true rfl) (Nat.le_of_ble_eq_true rfl) d_R_init_17 (fun q2 H hP hD hS => ?_)
  have hP : va_P D cl9 [(h0, .inr (0, [.ref q1, .null, .null, .null, .int 0])), (q1, .inl (cI, 200, .inl (fun _ => 0))), (q2, .inl (cI, 200, .inl (fun _ => 0)))] H := hP
  have hD : va_D A [(h0, .inr (0, [.ref q1, .null, .null, .null, .int 0])), (q1, .inl (cI, 200, .inl (fun _ => 0))), (q2, .inl (cI, 200, .inl (fun _ => 0)))] := hD
  refine W.widen (k := 2) (n := 400) (Nat.le_of_ble_eq_true rfl) (Nat.le_of_ble_eq_true rfl) ?_
  refine va_putF (D := D) (ci := 0) (v := .ref q2) (ty := (.array .int)) (C := R_R) (T := T_R) (N := 5) hx hb hts in_R ty_R tk_R nm_R hown hK hP hD hS 0 rfl rfl 1 (by decide) (hts _ mm_49) (fun _ h9 => h9) rfl hin rfl (by decide +kernel) rfl rfl (Nat.le_of_ble_eq_true rfl) d_R_init_19 (fun H locs hP hD hS => ?_)
  have hP : va_P D cl9 [(h0, .inr (0, [.ref q1, .ref q2, .null, .null, .int 0])), (q1, .inl (cI, 200, .inl (fun _ => 0))), (q2, .inl (cI, 200, .inl (fun _ => 0)))] H := hP
  have hD : va_D A [(h0, .inr (0, [.ref q1, .ref q2, .null, .null, .int 0])), (q1, .inl (cI, 200, .inl (fun _ => 0))), (q2, .inl (cI, 200, .inl (fun _ => 0)))] := hD
  refine lv_aload_n hx hb d_R_init_22 rfl (lv_at hl 0 rfl) ?_
  refine lv_sipush (v := (200 : Int32)) hx hb d_R_init_23 (by decide) ?_
  refine my_newa (atype := .int) (ty := .int) (n := (200 : Int32)) (a0 := (200, .inl (fun _ => 0))) (N' := 200) hx hb (hts _ mm_64) rfl hK hP hD hS hA 0 rfl (fun _ h => h) (fun _ => rfl) (by decide +kernel) (by decide +kernel) (Nat.le_of_ble_eq_true rfl) (Nat.le_of_ble_eq_true rfl) (Nat.le_of_ble_eq_true rfl) d_R_init_26 (fun q3 H hP hD hS => ?_)
  have hP : va_P D cl9 [(h0, .inr (0, [.ref q1, .ref q2, .null, .null, .int 0])), (q1, .inl (cI, 200, .inl (fun _ => 0))), (q2, .inl (cI, 200, .inl (fun _ => 0))), (q3, .inl (cI, 200, .inl (fun _ => 0)))] H := hP
  have hD : va_D A [(h0, .inr (0, [.ref q1, .ref q2, .null, .null, .int 0])), (q1, .inl (cI, 200, .inl (fun _ => 0))), (q2, .inl (cI, 200, .inl (fun _ => 0))), (q3, .inl (cI, 200, .inl (fun _ => 0)))] := hD
  refine W.widen (k := 3) (n := 600) (Nat.le_of_ble_eq_true rfl) (Nat.le_of_ble_eq_true rfl) ?_
  refine va_putF (D := D) (ci := 0) (v := .ref q3) (ty := (.array .int)) (C := R_R) (T := T_R) (N := 5) hx hb hts in_R ty_R tk_R nm_R hown hK hP hD hS 0 rfl rfl 2 (by decide) (hts _ mm_50) (fun _ h9 => h9) rfl hin rfl (by decide +kernel) rfl rfl (Nat.le_of_ble_eq_true rfl) d_R_init_28 (fun H locs hP hD hS => ?_)
  have hP : va_P D cl9 [(h0, .inr (0, [.ref q1, .ref q2, .ref q3, .null, .int 0])), (q1, .inl (cI, 200, .inl (fun _ => 0))), (q2, .inl (cI, 200, .inl (fun _ => 0))), (q3, .inl (cI, 200, .inl (fun _ => 0)))] H := hP
  have hD : va_D A [(h0, .inr (0, [.ref q1, .ref q2, .ref q3, .null, .int 0])), (q1, .inl (cI, 200, .inl (fun _ => 0))), (q2, .inl (cI, 200, .inl (fun _ => 0))), (q3, .inl (cI, 200, .inl (fun _ => 0)))] := hD
  refine lv_aload_n hx hb d_R_init_31 rfl (lv_at hl 0 rfl) ?_
  refine lv_sipush (v := (200 : Int32)) hx hb d_R_init_32 (by decide) ?_
  refine my_newa (atype := .long) (ty := .long) (n := (200 : Int32)) (a0 := (200, .inr (.inl (fun _ => 0)))) (N' := 200) hx hb (hts _ mm_65) rfl hK hP hD hS hA 1 rfl (fun _ h => h) (fun _ => rfl) (by decide +kernel) (by decide +kernel) (Nat.le_of_ble_eq_true rfl) (Nat.le_of_ble_eq_true rfl) (Nat.le_of_ble_eq_true rfl) d_R_init_35 (fun q4 H hP hD hS => ?_)
  have hP : va_P D cl9 [(h0, .inr (0, [.ref q1, .ref q2, .ref q3, .null, .int 0])), (q1, .inl (cI, 200, .inl (fun _ => 0))), (q2, .inl (cI, 200, .inl (fun _ => 0))), (q3, .inl (cI, 200, .inl (fun _ => 0))), (q4, .inl (cJ, 200, .inr (.inl (fun _ => 0))))] H := hP
  have hD : va_D A [(h0, .inr (0, [.ref q1, .ref q2, .ref q3, .null, .int 0])), (q1, .inl (cI, 200, .inl (fun _ => 0))), (q2, .inl (cI, 200, .inl (fun _ => 0))), (q3, .inl (cI, 200, .inl (fun _ => 0))), (q4, .inl (cJ, 200, .inr (.inl (fun _ => 0))))] := hD
  refine W.widen (k := 4) (n := 800) (Nat.le_of_ble_eq_true rfl) (Nat.le_of_ble_eq_true rfl) ?_
  refine va_putF (D := D) (ci := 0) (v := .ref q4) (ty := (.array .long)) (C := R_R) (T := T_R) (N := 5) hx hb hts in_R ty_R tk_R nm_R hown hK hP hD hS 0 rfl rfl 3 (by decide) (hts _ mm_51) (fun _ h9 => h9) rfl hin rfl (by decide +kernel) rfl rfl (Nat.le_of_ble_eq_true rfl) d_R_init_37 (fun H locs hP hD hS => ?_)
  have hP : va_P D cl9 [(h0, .inr (0, [.ref q1, .ref q2, .ref q3, .ref q4, .int 0])), (q1, .inl (cI, 200, .inl (fun _ => 0))), (q2, .inl (cI, 200, .inl (fun _ => 0))), (q3, .inl (cI, 200, .inl (fun _ => 0))), (q4, .inl (cJ, 200, .inr (.inl (fun _ => 0))))] H := hP
  have hD : va_D A [(h0, .inr (0, [.ref q1, .ref q2, .ref q3, .ref q4, .int 0])), (q1, .inl (cI, 200, .inl (fun _ => 0))), (q2, .inl (cI, 200, .inl (fun _ => 0))), (q3, .inl (cI, 200, .inl (fun _ => 0))), (q4, .inl (cJ, 200, .inr (.inl (fun _ => 0))))] := hD
  refine lv_aload_n hx hb d_R_init_40 rfl (lv_at hl 0 rfl) ?_
  refine lv_iconst (v := (0 : Int32)) hx hb d_R_init_41 (by decide) ?_
  refine va_put (D := D) (ci := 0) (v := .int (0 : Int32)) (ty := .int) (C := R_R) (T := T_R) (N := 5) hx hb hts in_R ty_R tk_R nm_R hown hK hP hD hS 0 rfl rfl 4 (by decide) (hts _ mm_52) (fun _ h9 => h9) rfl (by decide +kernel) rfl rfl (Nat.le_of_ble_eq_true rfl) d_R_init_42 (fun H locs hP hD hS => ?_)
  have hP : va_P D cl9 [(h0, .inr (0, [.ref q1, .ref q2, .ref q3, .ref q4, .int (0 : Int32)])), (q1, .inl (cI, 200, .inl (fun _ => 0))), (q2, .inl (cI, 200, .inl (fun _ => 0))), (q3, .inl (cI, 200, .inl (fun _ => 0))), (q4, .inl (cJ, 200, .inr (.inl (fun _ => 0))))] H := hP
  have hD : va_D A [(h0, .inr (0, [.ref q1, .ref q2, .ref q3, .ref q4, .int (0 : Int32)])), (q1, .inl (cI, 200, .inl (fun _ => 0))), (q2, .inl (cI, 200, .inl (fun _ => 0))), (q3, .inl (cI, 200, .inl (fun _ => 0))), (q4, .inl (cJ, 200, .inr (.inl (fun _ => 0))))] := hD
  replace hP := hP.sub (ws' := (cRi cI cJ cZ) (adl [h0, q1, q2, q3, q4])) [0, 1, 2, 3, 4] rfl
  replace hD := hD.sub (ws' := (cRi cI cJ cZ) (adl [h0, q1, q2, q3, q4])) [0, 1, 2, 3, 4] (by decide) rfl
  exact W.vret hx hb hr (fun t ht hW => ⟨⟨(adl [h0, q1, q2, q3, q4]), rfl, rfl, by rw [ht]; exact hP, va_K.moved hW.alike hK, hD⟩, hS.F ht⟩) hS.2.2 d_R_init_45
