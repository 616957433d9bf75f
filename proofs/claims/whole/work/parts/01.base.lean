/-! my own words: a guard, the pieces of a walk's hypothesis -/
def gd {α : Type} (c : Prop) [Decidable c] (x : Option α) : Option α := if c then x else none
theorem gd_some {α : Type} {c : Prop} [Decidable c] {x : Option α} {r : α} (h : gd c x = some r) : c ∧ x = some r := by
  by_cases hc : c
  · rw [gd, if_pos hc] at h
    exact ⟨hc, h⟩
  · rw [gd, if_neg hc] at h
    cases h
theorem gd_t {α : Type} {c : Prop} [Decidable c] {x : Option α} (h : c) : gd c x = x := if_pos h
theorem bd_some {α β : Type} {x : Option α} {f : α → Option β} {r : β} (h : x.bind f = some r) : ∃ v, x = some v ∧ f v = some r := by
  cases x with
  | none => cases h
  | some v => exact ⟨v, rfl, h⟩
theorem it_t {α : Type} {c : Prop} [Decidable c] {a b r : α} (hc : c) (h : (if c then a else b) = r) : a = r := by
  rw [if_pos hc] at h
  exact h
theorem it_f {α : Type} {c : Prop} [Decidable c] {a b r : α} (hc : ¬ c) (h : (if c then a else b) = r) : b = r := by
  rw [if_neg hc] at h
  exact h
theorem nz_b {v : Int32} (h : v = 0 ∨ v = 1) : narrow .boolean (.int v) = .int v := by
  rcases h with rfl | rfl <;> rfl
theorem ic_nn {x : Int32} (h : 0 ≤ x.toInt) : ¬ x < 0 := by
  intro q
  rw [Int32.lt_iff_toInt_lt] at q
  have h0 : (0 : Int32).toInt = 0 := by decide
  omega
theorem ic_le {x y : Int32} {n : Nat} (hx : 0 ≤ x.toInt) (hy : 0 ≤ y.toInt) (h : x.toInt + y.toInt ≤ n) : x.toNatClampNeg + y.toNatClampNeg ≤ n := by
  have e1 : x.toNatClampNeg = x.toInt.toNat := rfl
  have e2 : y.toNatClampNeg = y.toInt.toNat := rfl
  omega
theorem va_A_nil {sz q : Nat} (h : va_A [] sz q) : sz ≤ q := by
  rcases h with ⟨k, e, h⟩ | h
  · simp at h
  · exact h
/-- what a walk knows of its machine -/
def Cx (p : Program) (s : State) (m : MethodId) (args : Array Value) (meth : Method) (c : Code) (cc : ByteArray) (nL : Nat) (rt : Option FieldType) (own : String) (Ts : List Cond) (D : va_G) (cl : List vw_C) (tys : List (ClassId × FieldType)) (A : Nat → Prop) : Prop :=
  p.tables.exec = Jvm.exec ∧ c.code = cc ∧ meth.sig.returnType = rt ∧ c.maxLocals = nL ∧ s.vm.findClass own = some m.cls ∧ (∀ w ∈ Ts, w.before args s = true) ∧ meth.locks = false ∧ va_K D cl tys s ∧ (∀ q : Nat, s.heap.size ≤ q → A q)
/-- a world: the cells that F lays out of a value -/
def at_ {S : Type} (D : va_G) (cl : List vw_C) (tys : List (ClassId × FieldType)) (F : S → va_W) (A : Nat → Prop) (u : S) (t : State) : Prop := va_P D cl (F u) t.heap ∧ va_K D cl tys t ∧ va_D A (F u)
def pr_ {S : Type} (D : va_G) (cl : List vw_C) (tys : List (ClassId × FieldType)) (F : S → va_W) (u : S) (sz : Nat) (U : State) : Prop := U.heap.size = sz ∧ at_ D cl tys F (fun _ => True) u U
abbrev Qwi {S : Type} (D : va_G) (cl : List vw_C) (tys : List (ClassId × FieldType)) (F : S → va_W) (A : Nat → Prop) (res : Int32 × S) : Array Value → State → Outcome → State → Prop := va_Qi (fun r u => (r, u) = res) (at_ D cl tys F A) A
abbrev Qwl {S : Type} (D : va_G) (cl : List vw_C) (tys : List (ClassId × FieldType)) (F : S → va_W) (A : Nat → Prop) (res : Int64 × S) : Array Value → State → Outcome → State → Prop := va_Ql (fun r u => (r, u) = res) (at_ D cl tys F A) A
abbrev Qwv {S : Type} (D : va_G) (cl : List vw_C) (tys : List (ClassId × FieldType)) (F : S → va_W) (A : Nat → Prop) (res : S) : Array Value → State → Outcome → State → Prop := va_Qv (fun u => u = res) (at_ D cl tys F A) A
abbrev Qri (A : Nat → Prop) (res : Int32) : Array Value → State → Outcome → State → Prop := va_Qi (fun r (_ : Unit) => r = res) (fun _ _ => True) A
abbrev Qrl (A : Nat → Prop) (res : Int64) : Array Value → State → Outcome → State → Prop := va_Ql (fun r (_ : Unit) => r = res) (fun _ _ => True) A
theorem bl_ {S : Type} {D : va_G} {cl : List vw_C} {tys : List (ClassId × FieldType)} {F : S → va_W} {u : S} {sz : Nat} {av : List Value} : FrameBlind (va_Pc av (pr_ D cl tys F u sz)) := fun a U g mk q => by
  obtain ⟨q0, q1, qP, qK, qD⟩ := q
  exact ⟨q0, q1, qP, va_K.moved (u := U) (U := U.calling g mk a) (Vm.Alike.refl U.vm) qK, qD⟩
theorem pg_ {S : Type} {s : State} {H : Heap} {A : Nat → Prop} {D : va_G} {cl : List vw_C} {tys : List (ClassId × FieldType)} {F : S → va_W} {u : S} {av : List Value} (hK : va_K D cl tys s) (hP : va_P D cl (F u) H) (hD : va_D A (F u)) : ∀ U : State, U.heap = H → s.WarmedH U.vm → va_Pc av (pr_ D cl tys F u H.size) av.toArray U := fun U hU hW => ⟨rfl, by rw [hU], by rw [hU]; exact hP, va_K.moved hW.alike hK, hD.weaken (fun _ _ _ _ => trivial)⟩
theorem pv_ {S : Type} {s : State} {H : Heap} {A : Nat → Prop} {D : va_G} {cl : List vw_C} {tys : List (ClassId × FieldType)} {F : S → va_W} {u : S} {C : String} {b : Addr} {As : List Value} (hK : va_K D cl tys s) (hP : va_P D cl (F u) H) (hD : va_D A (F u)) (hc : ∃ cellB : Cell, H[b]? = some cellB ∧ cellB.vm.isStatics = false ∧ s.vm.findClass C = some cellB.cls) : PreV s H C b (va_Pc (.ref b :: As) (pr_ D cl tys F u H.size)) As := ⟨bl_, hc, pg_ (av := .ref b :: As) hK hP hD⟩
theorem ps_ {S : Type} {s : State} {H : Heap} {A : Nat → Prop} {D : va_G} {cl : List vw_C} {tys : List (ClassId × FieldType)} {F : S → va_W} {u : S} {As : List Value} (hK : va_K D cl tys s) (hP : va_P D cl (F u) H) (hD : va_D A (F u)) : PreS s H (va_Pc As (pr_ D cl tys F u H.size)) As := ⟨bl_, pg_ (av := As) hK hP hD⟩
section Fin
variable {p : Program} {l : Launch} {e : Env} {R : Room} {s : State} {m : MethodId} {args : Array Value} {below : List Frame} {meth : Method} {c : Code} {H : Heap} {locs : List Loc} {cells slots : Nat} {Q : State → Prop}
variable {pc : Nat} {ls : Array Slot} {rest st0 : List Value} {a : Array Value} {A0 : Nat → Prop} {H0 : Heap} {D : va_G} {cl : List vw_C} {tys tysC : List (ClassId × FieldType)}
/-- behind a call that may write the whole world -/
theorem fw_i {S : Type} {F : S → va_W} {u : S} {res : Int32 × S} (hr : va_Run p l e R s m args below meth c H locs cells slots 0 0 (F0 m pc ls st0) rest (Qwi D cl tysC F (va_A (F u) H.size) res a) (va_A (F u) H.size)) (hS : va_S A0 H0 H locs) (hF : ∀ q, va_A (F u) H.size q → A0 q)
    (kk : ∀ (H1 : Heap) (locs1 : List Loc), va_P D cl (F res.2) H1 → va_D A0 (F res.2) → va_S A0 H0 H1 locs1 → W p l e R s m args below meth c H1 locs1 cells slots Q (F0 m (pc + 3) ls (.int res.1 :: rest))) : W p l e R s m args below meth c H locs cells slots Q (F0 m pc ls st0) := by
  refine va_calli hr hS (fun q _ h => hF q h) hF (fun r v t H1 locs1 ht hvm hw hB hz1 hk1 hS1 => ?_)
  obtain ⟨hP1, hK1, hD1⟩ := hB
  rw [ht] at hP1
  subst hw
  exact kk H1 locs1 hP1 (hD1.weaken (fun _ _ _ h => hF _ h)) hS1
theorem fw_l {S : Type} {F : S → va_W} {u : S} {res : Int64 × S} (hr : va_Run p l e R s m args below meth c H locs cells slots 0 0 (F0 m pc ls st0) rest (Qwl D cl tysC F (va_A (F u) H.size) res a) (va_A (F u) H.size)) (hS : va_S A0 H0 H locs) (hF : ∀ q, va_A (F u) H.size q → A0 q)
    (kk : ∀ (H1 : Heap) (locs1 : List Loc), va_P D cl (F res.2) H1 → va_D A0 (F res.2) → va_S A0 H0 H1 locs1 → W p l e R s m args below meth c H1 locs1 cells slots Q (F0 m (pc + 3) ls (.long res.1 :: rest))) : W p l e R s m args below meth c H locs cells slots Q (F0 m pc ls st0) := by
  refine va_calll hr hS (fun q _ h => hF q h) hF (fun r v t H1 locs1 ht hvm hw hB hz1 hk1 hS1 => ?_)
  obtain ⟨hP1, hK1, hD1⟩ := hB
  rw [ht] at hP1
  subst hw
  exact kk H1 locs1 hP1 (hD1.weaken (fun _ _ _ h => hF _ h)) hS1
theorem fw_v {S : Type} {F : S → va_W} {u : S} {res : S} (hr : va_Run p l e R s m args below meth c H locs cells slots 0 0 (F0 m pc ls st0) rest (Qwv D cl tysC F (va_A (F u) H.size) res a) (va_A (F u) H.size)) (hS : va_S A0 H0 H locs) (hF : ∀ q, va_A (F u) H.size q → A0 q)
    (kk : ∀ (H1 : Heap) (locs1 : List Loc), va_P D cl (F res) H1 → va_D A0 (F res) → va_S A0 H0 H1 locs1 → W p l e R s m args below meth c H1 locs1 cells slots Q (F0 m (pc + 3) ls rest)) : W p l e R s m args below meth c H locs cells slots Q (F0 m pc ls st0) := by
  refine va_callv hr hS (fun q _ h => hF q h) hF (fun v t H1 locs1 ht hvm hw hB hz1 hk1 hS1 => ?_)
  obtain ⟨hP1, hK1, hD1⟩ := hB
  rw [ht] at hP1
  subst hw
  exact kk H1 locs1 hP1 (hD1.weaken (fun _ _ _ h => hF _ h)) hS1
/-- behind a call that may write a part of the world -/
theorem fj_i {S : Type} {F : S → va_W} {u : S} {res : Int32 × S} {ws wr : va_W} (hr : va_Run p l e R s m args below meth c H locs cells slots 0 0 (F0 m pc ls st0) rest (Qwi D cl tysC F (va_A (F u) H.size) res a) (va_A (F u) H.size)) (hP : va_P D cl ws H) (hD : va_D A0 ws) (hS : va_S A0 H0 H locs) (hF : ∀ q, va_A (F u) H.size q → A0 q)
    (isC isR : List Nat) (hC : isC.map (fun i => ws[i]?) = (F u).map some) (hR : isR.map (fun i => ws[i]?) = wr.map some) (hn : va_nd isR = true) (hdis : ∀ i ∈ isR, i ∉ isC)
    (kk : ∀ (H1 : Heap) (locs1 : List Loc), va_P D cl (wr ++ F res.2) H1 → va_D A0 (wr ++ F res.2) → va_S A0 H0 H1 locs1 → W p l e R s m args below meth c H1 locs1 cells slots Q (F0 m (pc + 3) ls (.int res.1 :: rest))) : W p l e R s m args below meth c H locs cells slots Q (F0 m pc ls st0) := by
  refine va_calli hr hS (fun q _ h => hF q h) hF (fun r v t H1 locs1 ht hvm hw hB hz1 hk1 hS1 => ?_)
  obtain ⟨hP1, hK1, hD1⟩ := hB
  rw [ht] at hP1
  subst hw
  obtain ⟨hP2, hD2⟩ := va_join hP hD isC isR hC hR hn hdis hk1 hF hP1 hD1
  exact kk H1 locs1 hP2 hD2 hS1
theorem fj_l {S : Type} {F : S → va_W} {u : S} {res : Int64 × S} {ws wr : va_W} (hr : va_Run p l e R s m args below meth c H locs cells slots 0 0 (F0 m pc ls st0) rest (Qwl D cl tysC F (va_A (F u) H.size) res a) (va_A (F u) H.size)) (hP : va_P D cl ws H) (hD : va_D A0 ws) (hS : va_S A0 H0 H locs) (hF : ∀ q, va_A (F u) H.size q → A0 q)
    (isC isR : List Nat) (hC : isC.map (fun i => ws[i]?) = (F u).map some) (hR : isR.map (fun i => ws[i]?) = wr.map some) (hn : va_nd isR = true) (hdis : ∀ i ∈ isR, i ∉ isC)
    (kk : ∀ (H1 : Heap) (locs1 : List Loc), va_P D cl (wr ++ F res.2) H1 → va_D A0 (wr ++ F res.2) → va_S A0 H0 H1 locs1 → W p l e R s m args below meth c H1 locs1 cells slots Q (F0 m (pc + 3) ls (.long res.1 :: rest))) : W p l e R s m args below meth c H locs cells slots Q (F0 m pc ls st0) := by
  refine va_calll hr hS (fun q _ h => hF q h) hF (fun r v t H1 locs1 ht hvm hw hB hz1 hk1 hS1 => ?_)
  obtain ⟨hP1, hK1, hD1⟩ := hB
  rw [ht] at hP1
  subst hw
  obtain ⟨hP2, hD2⟩ := va_join hP hD isC isR hC hR hn hdis hk1 hF hP1 hD1
  exact kk H1 locs1 hP2 hD2 hS1
theorem fj_v {S : Type} {F : S → va_W} {u : S} {res : S} {ws wr : va_W} (hr : va_Run p l e R s m args below meth c H locs cells slots 0 0 (F0 m pc ls st0) rest (Qwv D cl tysC F (va_A (F u) H.size) res a) (va_A (F u) H.size)) (hP : va_P D cl ws H) (hD : va_D A0 ws) (hS : va_S A0 H0 H locs) (hF : ∀ q, va_A (F u) H.size q → A0 q)
    (isC isR : List Nat) (hC : isC.map (fun i => ws[i]?) = (F u).map some) (hR : isR.map (fun i => ws[i]?) = wr.map some) (hn : va_nd isR = true) (hdis : ∀ i ∈ isR, i ∉ isC)
    (kk : ∀ (H1 : Heap) (locs1 : List Loc), va_P D cl (wr ++ F res) H1 → va_D A0 (wr ++ F res) → va_S A0 H0 H1 locs1 → W p l e R s m args below meth c H1 locs1 cells slots Q (F0 m (pc + 3) ls rest)) : W p l e R s m args below meth c H locs cells slots Q (F0 m pc ls st0) := by
  refine va_callv hr hS (fun q _ h => hF q h) hF (fun v t H1 locs1 ht hvm hw hB hz1 hk1 hS1 => ?_)
  obtain ⟨hP1, hK1, hD1⟩ := hB
  rw [ht] at hP1
  subst hw
  obtain ⟨hP2, hD2⟩ := va_join hP hD isC isR hC hR hn hdis hk1 hF hP1 hD1
  exact kk H1 locs1 hP2 hD2 hS1
/-- behind a call that writes nothing -/
theorem fr_i {res : Int32} {ws : va_W} (hr : va_Run p l e R s m args below meth c H locs cells slots 0 0 (F0 m pc ls st0) rest (Qri (va_A [] H.size) res a) (va_A [] H.size)) (hP : va_P D cl ws H) (hS : va_S A0 H0 H locs) (hA : ∀ q : Nat, H0.size ≤ q → A0 q)
    (kk : ∀ (H1 : Heap) (locs1 : List Loc), va_P D cl ws H1 → va_S A0 H0 H1 locs1 → W p l e R s m args below meth c H1 locs1 cells slots Q (F0 m (pc + 3) ls (.int res :: rest))) : W p l e R s m args below meth c H locs cells slots Q (F0 m pc ls st0) := by
  refine va_calli hr hS (fun q h1 h => absurd (va_A_nil h) (Nat.not_le.mpr h1)) (fun q h => hA q (Nat.le_trans hS.1 (va_A_nil h))) (fun r v t H1 locs1 ht hvm hw hB hz1 hk1 hS1 => ?_)
  subst hw
  exact kk H1 locs1 (hP.kept (fun k q hk => hk1 _ (va_at.lt (hP k q hk)) (fun z => absurd (va_A_nil z) (Nat.not_le.mpr (va_at.lt (hP k q hk)))))) hS1
theorem fr_l {res : Int64} {ws : va_W} (hr : va_Run p l e R s m args below meth c H locs cells slots 0 0 (F0 m pc ls st0) rest (Qrl (va_A [] H.size) res a) (va_A [] H.size)) (hP : va_P D cl ws H) (hS : va_S A0 H0 H locs) (hA : ∀ q : Nat, H0.size ≤ q → A0 q)
    (kk : ∀ (H1 : Heap) (locs1 : List Loc), va_P D cl ws H1 → va_S A0 H0 H1 locs1 → W p l e R s m args below meth c H1 locs1 cells slots Q (F0 m (pc + 3) ls (.long res :: rest))) : W p l e R s m args below meth c H locs cells slots Q (F0 m pc ls st0) := by
  refine va_calll hr hS (fun q h1 h => absurd (va_A_nil h) (Nat.not_le.mpr h1)) (fun q h => hA q (Nat.le_trans hS.1 (va_A_nil h))) (fun r v t H1 locs1 ht hvm hw hB hz1 hk1 hS1 => ?_)
  subst hw
  exact kk H1 locs1 (hP.kept (fun k q hk => hk1 _ (va_at.lt (hP k q hk)) (fun z => absurd (va_A_nil z) (Nat.not_le.mpr (va_at.lt (hP k q hk)))))) hS1
end Fin
theorem fa_ {A0 : Nat → Prop} {ws : va_W} {H0 H : Heap} {locs : List Loc} (hD : va_D A0 ws) (hS : va_S A0 H0 H locs) (hA : ∀ q : Nat, H0.size ≤ q → A0 q) : ∀ q, va_A ws H.size q → A0 q := fun q h => by
  rcases h with ⟨k, e, h⟩ | h
  · exact hD.2 k _ h
  · exact hA q (Nat.le_trans hS.1 h)
/-- no cells -/
def nW : Unit → va_W := fun _ => []
theorem nP {D : va_G} {cl : List vw_C} {H : Heap} {u : Unit} : va_P D cl (nW u) H := fun k q h => by simp [nW] at h
theorem nD {A : Nat → Prop} {u : Unit} : va_D A (nW u) := ⟨fun i j p q h => by simp [nW] at h, fun k q h => by simp [nW] at h⟩
def adl (l : List Nat) : Nat → Nat := fun k => l.getD k 0
abbrev tyy (cI cJ cZ : ClassId) : List (ClassId × FieldType) := [(cI, .int), (cJ, .long), (cZ, .boolean)]
theorem arr_K {s : State} {args : Array Value} {ty : FieldType} (h : (Cond.arrayClass ty).before args s = true) : ∃ cA, ArrOfT s cA ty ∧ s.vm.findClass ("[" ++ ty.toString) = some cA := by
  obtain ⟨cA, kA, comp, h1, h2, h3⟩ := Cond.arrayClass_spec h
  exact ⟨cA, fun n z => ⟨fun k h => (by cases h), kA, h2, comp, h3⟩, h1⟩
section Mk
variable {p : Program} {l : Launch} {e : Env} {R : Room} {s : State} {m : MethodId} {args : Array Value} {below : List Frame} {meth : Method} {c : Code} {H : Heap} {locs : List Loc} {cells slots : Nat} {Q : State → Prop}
variable {cc : ByteArray} {pc : Nat} {ls : Array Slot} {rest : List Value} {A : Nat → Prop} {H0 : Heap} {D : va_G} {cl : List vw_C} {tys : List (ClassId × FieldType)} {ws : va_W}
/-- a new array of a class that is known by its name -/
theorem my_newa (hexec : p.tables.exec = Jvm.exec) (hb : c.code = cc) {atype : ArrayType} (harr : (Cond.arrayClass (newarray.typeOf atype)).before args s = true) {ty : FieldType} (hty : newarray.typeOf atype = ty) (hK : va_K D cl tys s) (hP : va_P D cl ws H) (hD : va_D A ws) (hS : va_S A H0 H locs) (hA : ∀ q : Nat, H0.size ≤ q → A q)
    (t0 : Nat) {c0 : ClassId} (ht : tys[t0]? = some (c0, ty)) (hra : ∀ c1, va_RA s c1 ty → s.vm.findClass ("[" ++ ty.toString) = some c1) {n : Int32} {N' : Nat} {a0 : vp_A} (ha : ∀ cA : ClassId, vp_cell cA a0 = arrV cA N' (fun _ => defaultValue ty)) (hn : ¬ n < 0) (hN : n.toNatClampNeg = N') (hbytes : N' * componentBytes ty ≤ 536870912) (hcells : cells + 1 ≤ R.cells) (hslots : slots + N' ≤ R.slots) (hdg : decode cc pc = .ok (.newarray atype, 2))
    (kk : ∀ (q : Nat) (H1 : Heap), va_P D cl (ws ++ [(q, .inl (c0, a0))]) H1 → va_D A (ws ++ [(q, .inl (c0, a0))]) → va_S A H0 H1 locs →
      W p l e R s m args below meth c H1 locs (cells + 1) (slots + N') Q (F0 m (pc + 2) ls (.ref q :: rest))) : W p l e R s m args below meth c H locs cells slots Q (F0 m pc ls (.int n :: rest)) := by
  refine va_newa hexec hb harr hty hK hP hD hS hA ha hn hN hbytes hcells hslots hdg (fun q cA H1 hK1 hP1 hD1 hS1 => ?_)
  have h1 := (hK1.2 tys.length (cA, ty) (by simp)).2
  have h2 := (hK.2 t0 (c0, ty) ht).2
  have e9 : cA = c0 := Option.some.inj ((hra _ h1).symm.trans (hra _ h2))
  subst e9
  exact kk q H1 hP1 hD1 hS1
end Mk

